theorem e_front {S M M' : HS} {t : Nat} {A : Nat → Nat} (h : FS S M t A) (hLM : LnM M') (hM : RMt M' 139 A) (hp : PL M' (A 9) (lqA A)) (hP : RP S M' 23 (A 9) (lqA A)) {v g : Int32} (hG : RG M' (A 9) v g) : ∃ x y z, s_X0_frontLoad 23 t v S = some x ∧ s_X8_front g M' = some x ∧ s_X0_rearLoad 23 t v S = some y ∧ s_X8_rear g M' = some y ∧ s_X0_standing 23 t v S = some z ∧ s_X8_stands g M' = some z := by
  obtain ⟨hL, _, _, ht, hT, _, _, hW⟩ := h
  have h5 := hW.1.1
  have hb : isC 23 := by unfold isC; decide
  have h9 : fM M' 9 = nI (A 9) := hM 9 (by omega)
  obtain ⟨e1, e2, e3⟩ := st_eq rfl h5 hT hM hP hG
  refine ⟨_, _, _, q_front hL hb ht hT.1 h5, ?_, q_rear hL hb ht hT.1 h5, ?_, q_standing hL hb ht hT.1 h5, ?_⟩
  · rw [q_mfront hLM h9 h5 hp, e1]
  · rw [q_mrear hLM h9 h5 hp, e2]
  · rw [q_stands hLM h9 h5 hp, e3]
theorem e_drop {S M : HS} {t d : Nat} {A : Nat → Nat} {b : Int32} (h : FS S M t A) (hd : d < A 13) (hb : b = 0 ∨ b = 1 ∨ b = 2 ∨ b = 3 ∨ b = 4 ∨ b = 5) : ∃ v, s_X7_drop (nI d) b S = some v ∧ s_X8_drop (nI d) b M = some (v, sf M 137 0 0) := by
  have h := h.thrown (x := 0)
  have hho := how_eq h hd
  obtain ⟨hL, hLM, hr, ht, hT, ⟨h13, _, hC, hF⟩, hM, hW⟩ := h
  have h5 := hW.1.1
  have h20 := hW.1.2.2.2.2.1
  have hf0 : ∀ i, i < 157 → fM (sf M 137 0 0) i = nI (A i) := hM
  have g : s_X5_hasDrop (nI d) S = some 1 := by
    rcases q_hasD (v := nI d) h13 h20 with ⟨c, _, _, g⟩ | ⟨_, n1⟩
    · exact g
    · exact absurd rfl (n1 d hd)
  have g' : s_X8_isDrop (nI d) (sf M 137 0 0) = some 1 := by
    rcases m_isDrp (v := nI d) hLM (hf0 13 (by omega)) h20 with ⟨c, _, _, g⟩ | ⟨_, n1⟩
    · exact g
    · exact absurd rfl (n1 d hd)
  have hq := hT.2.2.2.2.2.2 d hd
  have hfd := hF d hd
  rcases hb with rfl | rfl | rfl | rfl | rfl | rfl
  · refine ⟨nI (A (57 + 5 * d)), ?_, ?_⟩
    · unfold s_X7_drop
      rw [g, sbI, if_neg (by decide), if_neg (by decide), if_pos (by decide), if_pos rfl, tl_ok hr ht, sb, ag_ok (nT7 hL ht) (by omega) (by omega), sb, hq.1]
    · unfold s_X8_drop
      rw [pf_ok, sb, g', sbM, if_neg (by decide), show s_X8_isIn 0 0 5 = some 1 from by decide, sbM, if_pos (by decide), if_pos (by decide), if_neg (by decide), q_its hLM (by omega) (x := 0) (k := 0) (by omega) rfl, sbM, hf0 (57 + 0 + 5 * d) (by omega)]
  · refine ⟨nI (A (58 + 5 * d)), ?_, ?_⟩
    · unfold s_X7_drop
      rw [g, sbI, if_neg (by decide), if_neg (by decide), if_pos (by decide), if_neg (by decide), if_pos rfl, tl_ok hr ht, sb, ag_ok (nT8 hL ht) (by omega) (by omega), sb, hq.2]
    · unfold s_X8_drop
      rw [pf_ok, sb, g', sbM, if_neg (by decide), show s_X8_isIn 1 0 5 = some 1 from by decide, sbM, if_pos (by decide), if_pos (by decide), if_neg (by decide), q_its hLM (by omega) (x := 1) (k := 1) (by omega) rfl, sbM, hf0 (57 + 1 + 5 * d) (by omega)]
  · refine ⟨nI (ldA A d 5), ?_, ?_⟩
    · unfold s_X7_drop
      rw [g, sbI, if_neg (by decide), if_neg (by decide), if_pos (by decide), if_neg (by decide), if_neg (by decide), if_pos rfl, q_dloaded hL (by unfold isC; decide) hC (fun c hc => hW.o20 hc) (by omega), sb]
    · unfold s_X8_drop
      rw [pf_ok, sb, g', sbM, if_neg (by decide), show s_X8_isIn 2 0 5 = some 1 from by decide, sbM, if_pos (by decide), if_neg (by decide), q_mloaded hLM hM rfl h5 (fun c hc => hW.o20 (by omega)) (by omega), sbM, ld_5 h5 (fun c h1 h2 => (hW.2.1 c h1 h2).2)]
  · refine ⟨nI (A (59 + 5 * d)), ?_, ?_⟩
    · unfold s_X7_drop
      rw [g, sbI, if_neg (by decide), if_neg (by decide), if_pos (by decide), if_neg (by decide), if_neg (by decide), if_neg (by decide), if_pos rfl, tl_ok hr ht, sb, q_how hL ht (by omega), sb, hho]
    · unfold s_X8_drop
      rw [pf_ok, sb, g', sbM, if_neg (by decide), show s_X8_isIn 3 0 5 = some 1 from by decide, sbM, if_pos (by decide), if_pos (by decide), if_pos (by decide), q_its hLM (by omega) (x := 3 - 1) (k := 2) (by omega) (by decide), sbM, hf0 (57 + 2 + 5 * d) (by omega)]
  · refine ⟨nI (A (60 + 5 * d)), ?_, ?_⟩
    · unfold s_X7_drop
      rw [g, sbI, if_neg (by decide), if_neg (by decide), if_pos (by decide), if_neg (by decide), if_neg (by decide), if_neg (by decide), if_neg (by decide), if_pos rfl, ag_ok (nD29 hL) (by omega) (by omega), sb, show (ga S 29).getD d 0 = _ from hfd.2]
    · unfold s_X8_drop
      rw [pf_ok, sb, g', sbM, if_neg (by decide), show s_X8_isIn 4 0 5 = some 1 from by decide, sbM, if_pos (by decide), if_pos (by decide), if_pos (by decide), q_its hLM (by omega) (x := 4 - 1) (k := 3) (by omega) (by decide), sbM, hf0 (57 + 3 + 5 * d) (by omega)]
  · refine ⟨nI (A (61 + 5 * d)), ?_, ?_⟩
    · unfold s_X7_drop
      rw [g, sbI, if_neg (by decide), if_neg (by decide), if_pos (by decide), if_neg (by decide), if_neg (by decide), if_neg (by decide), if_neg (by decide), if_neg (by decide), tl_ok hr ht, sb, q_short hL ht (by omega), sb]
      unfold shD
      rw [show (ga S 28).getD d 0 = _ from hfd.1, show (ga S 29).getD d 0 = _ from hfd.2, hq.2]
      obtain ⟨s1, s2⟩ := hW.2.2.2.2.1 d hd
      by_cases z : A (59 + 5 * d) = 2
      · obtain ⟨u1, u2⟩ := s1 z
        rw [z, if_neg (show ¬ (2 : Nat) = 1 by omega), if_pos (show nI 2 = 2 from rfl), pk_sub u1, u2]
      · rw [if_neg, (s2 z).2]
        · rfl
        · intro y
          apply z
          by_cases o1 : A (59 + 5 * d) = 1
          · rw [if_pos o1] at y
            exact absurd y (by decide)
          · rw [if_neg o1] at y
            have hs : A (59 + 5 * d) ≤ 3 := by
              rcases hW.2.2.2.1 d hd with q | q | q
              · omega
              · omega
              · omega
            exact (nI_eq (b := 2) (by omega) (by omega)).mp y
    · unfold s_X8_drop
      rw [pf_ok, sb, g', sbM, if_neg (by decide), show s_X8_isIn 5 0 5 = some 1 from by decide, sbM, if_pos (by decide), if_pos (by decide), if_pos (by decide), q_its hLM (by omega) (x := 5 - 1) (k := 4) (by omega) (by decide), sbM, hf0 (57 + 4 + 5 * d) (by omega)]
