/-! the queries answer the same -/
theorem sbM {a : Int32} {f : Int32 → Option (Int32 × HS)} : Option.bind (some a) f = f a := rfl
theorem sbI {a : Int32} {f : Int32 → Option Int32} : Option.bind (some a) f = f a := rfl
theorem m_isHold {M : HS} {N : Nat} {v : Int32} (hL : LnM M) (h9 : fM M 9 = nI N) (h5 : N ≤ 5) : (∃ c, c < N ∧ v = nI c ∧ s_X8_isHold v M = some 1) ∨ (s_X8_isHold v M = some 0 ∧ ∀ c, c < N → v ≠ nI c) := by
  unfold s_X8_isHold
  rw [m_at hL (x := 9) (i := 9) rfl (by omega), sb, h9]
  rcases in_iff (v := v) (N := N) (by omega) with ⟨c, hc, e, g⟩ | ⟨g, hc⟩
  · exact Or.inl ⟨c, hc, e, by rw [g]; rfl⟩
  · exact Or.inr ⟨by rw [g]; rfl, hc⟩
theorem m_isDrp {M : HS} {N : Nat} {v : Int32} (hL : LnM M) (h9 : fM M 13 = nI N) (h5 : N ≤ 20) : (∃ c, c < N ∧ v = nI c ∧ s_X8_isDrop v M = some 1) ∨ (s_X8_isDrop v M = some 0 ∧ ∀ c, c < N → v ≠ nI c) := by
  unfold s_X8_isDrop
  rw [m_at hL (x := 13) (i := 13) rfl (by omega), sb, h9]
  rcases in_iff (v := v) (N := N) (by omega) with ⟨c, hc, e, g⟩ | ⟨g, hc⟩
  · exact Or.inl ⟨c, hc, e, by rw [g]; rfl⟩
  · exact Or.inr ⟨by rw [g]; rfl, hc⟩
theorem bt_0 {c : Nat} (h : c < 5) : bt 0 c = false := (by decide : ∀ j : Fin 5, bt 0 j.val = false) ⟨c, h⟩
theorem hasB_0 {o : Nat} (h : o ≤ 20) : hasB 0 (dn o) = false := (by decide : ∀ j : Fin 21, hasB 0 (dn j.val) = false) ⟨o, by omega⟩
theorem lq_6 {A : Nat → Nat} (h : Wf A) {c : Nat} (hc : c < A 9) : lqA A c < 6 := by
  unfold lqA
  by_cases z : A (31 + 6 * c) = 0
  · rw [if_pos z]
    omega
  · rw [if_neg z]
    have h1 := (h.2.2.1 c hc).2.2.1
    have h2 := (h.1.2.2.2.2.2.2.2.2.2.2.2 (A (31 + 6 * c) - 1) (by omega)).1
    have h3 := h.1.2.1
    omega
theorem fs_paper {S M : HS} {t : Nat} {A : Nat → Nat} (h : FS S M t A) : ∃ M', s_X8_laysNow M = some M' ∧ Fr wN M M' ∧ LnM M' ∧ RMt M' 139 A ∧ PL M' (A 9) (lqA A) ∧ RP S M' 23 (A 9) (lqA A) ∧ ∀ c, c < A 9 → (ga M' 144).getD c 0 = dn (A (31 + 6 * c)) := by
  obtain ⟨hL, hLM, _, ht, hT, ⟨_, _, hC, _⟩, hM, hW⟩ := h
  have h5 := hW.1.1
  obtain ⟨M', e, f, lc⟩ := x_laysNow hLM hM rfl h5 (fun c hc => hW.o20 (by omega))
  have hM' : RMt M' 139 A := by
    intro i hi
    rw [f.2.2.1 139 (by unfold wN; omega)]
    exact hM i hi
  refine ⟨M', e, f, hLM.fr f, hM', fun c hc => ⟨lq_6 hW hc, (lc c hc).2.1⟩, fun c hc => ⟨⟨A (30 + 6 * c), ?_, (lc c hc).1⟩, ?_, ?_⟩, fun c hc => (lc c hc).2.2⟩
  · have := (hW.2.2.1 c hc).1
    omega
  · rw [(lc c hc).1]
    exact (hC c (by omega)).1
  · rw [(lc c hc).1, show fM M' (15 + lqA A c) = nI (A (15 + lqA A c)) from hM' _ (by have := lq_6 hW hc; omega)]
    exact (hC c (by omega)).2.2.2
theorem rgz {M : HS} {A : Nat → Nat} {N : Nat} (h5 : N ≤ 5) (h : ∀ c, c < N → (ga M 144).getD c 0 = dn (A (31 + 6 * c)) ∧ A (31 + 6 * c) ≤ 20) : RG M N 0 0 := by
  intro c hc
  rw [(h c hc).1, bt_0 (by omega), hasB_0 (h c hc).2]
  constructor
  · intro z
    cases z
  · intro z
    cases z.2
theorem FS.thrown {S M : HS} {t : Nat} {A : Nat → Nat} {x : Int32} (h : FS S M t A) : FS S (sf M 137 0 x) t A := h
theorem e_compartment {S M : HS} {t : Nat} {A : Nat → Nat} {a b : Int32} (h : FS S M t A) : ∃ v, s_X7_compartment a b S = some v ∧ s_X8_compartment a b M = some (v, sf M 137 0 0) := by
  have h := h.thrown (x := 0)
  obtain ⟨hL, hLM, hr, ht, hT, ⟨_, _, hC, _⟩, hM, hW⟩ := h
  have h5 := hW.1.1
  have hf0 : ∀ i, i < 157 → fM (sf M 137 0 0) i = nI (A i) := hM
  unfold s_X7_compartment s_X8_compartment
  rw [pf_ok, sb, tl_ok hr ht, sb]
  rcases q_hasC (v := a) hT.1 h5 with ⟨c, hc, rfl, g⟩ | ⟨g, n1⟩
  · rcases m_isHold (v := nI c) hLM (hf0 9 (by omega)) h5 with ⟨c', _, _, g'⟩ | ⟨_, n1⟩
    · rw [g, sbI, if_pos (show (1 : Int32) ≠ 0 by decide), g', sbM, if_pos (show (1 : Int32) ≠ 0 by decide)]
      obtain ⟨t1, t2, t3⟩ := hT.2.2.2.1 c hc
      obtain ⟨k1, k2, k3, k4⟩ := hC c (by omega)
      have hd : ∀ k, k < 6 → fM (sf M 137 0 0) (27 + k + 6 * c) = nI (A (27 + k + 6 * c)) := fun k hk => hf0 _ (by omega)
      by_cases b0 : b = 0
      · subst b0
        rw [if_pos rfl, if_pos rfl, sb, ag_ok (nT2 hL ht) (by omega) (by omega), sb, t1]
        unfold s_X8_compartment_J60
        rw [q_holds hLM (by omega) (x := 0) (k := 0) (by omega) rfl, sb, hd 0 (by omega)]
        exact ⟨_, rfl, rfl⟩
      rw [if_neg b0, if_neg b0]
      by_cases b1 : b = 1
      · subst b1
        rw [if_pos rfl, if_pos rfl, sb, ag_ok (nT3 hL ht) (by omega) (by omega), sb, t2]
        unfold s_X8_compartment_J60
        rw [q_holds hLM (by omega) (x := 1) (k := 1) (by omega) rfl, sb, hd 1 (by omega)]
        exact ⟨_, rfl, rfl⟩
      rw [if_neg b1, if_neg b1]
      by_cases b2 : b = 2
      · subst b2
        rw [if_pos rfl, if_pos rfl, sb, ag_ok (nT4 hL ht) (by omega) (by omega), sb, t3]
        unfold s_X8_compartment_J60
        rw [q_holds hLM (by omega) (x := 2) (k := 2) (by omega) rfl, sb, hd 2 (by omega)]
        exact ⟨_, rfl, rfl⟩
      rw [if_neg b2, if_neg b2]
      by_cases b3 : b = 3
      · subst b3
        rw [if_pos rfl, if_pos rfl, sb, q_top hL ht (by omega), sb, q_mtop hLM (by omega), sb, hd 0 (by omega), hf0 6 (by omega)]
        refine ⟨_, rfl, ?_⟩
        unfold topD
        rw [t1, hT.2.2.1 6 (by omega)]
      rw [if_neg b3, if_neg b3]
      by_cases b4 : b = 4
      · subst b4
        rw [if_pos rfl, if_pos rfl, ag_ok (nD24 hL) (by omega) (by omega), sb, q_holds hLM (by omega) (x := 3) (k := 3) (by omega) rfl, sb, hd 3 (by omega), show (ga S 24).getD c 0 = _ from k1]
        exact ⟨_, rfl, rfl⟩
      rw [if_neg b4, if_neg b4]
      by_cases b5 : b = 5
      · subst b5
        rw [if_pos rfl, if_pos rfl, ag_ok (nD25 hL) (by omega) (by omega), sb, q_holds hLM (by omega) (x := 4) (k := 4) (by omega) rfl, sb, hd 4 (by omega), show (ga S 25).getD c 0 = _ from k2]
        exact ⟨_, rfl, rfl⟩
      rw [if_neg b5, if_neg b5]
      by_cases b6 : b = 6
      · subst b6
        rw [if_pos rfl, if_pos rfl, ag_ok (nD26 hL) (by omega) (by omega), sb, show (ga S 26).getD c 0 = _ from k3]
        refine ⟨_, rfl, ?_⟩
        unfold s_X8_lastIn
        rw [q_holds hLM (by omega) (x := 4) (k := 4) (by omega) rfl, sb, q_holds hLM (by omega) (x := 5) (k := 5) (by omega) rfl, sb, sb, hd 4 (by omega), hd 5 (by omega)]
        have ho := (hW.2.2.1 c hc).2.2.1
        have h13 := hW.1.2.2.2.2.1
        by_cases z : A (31 + 6 * c) = 0
        · rw [show A (27 + 4 + 6 * c) = 0 from z, if_pos (by decide), sb]
          rfl
        · obtain ⟨o, eo⟩ : ∃ p, A (31 + 6 * c) = p + 1 := ⟨A (31 + 6 * c) - 1, by omega⟩
          have el : A (32 + 6 * c) = A (57 + 5 * o) + 1 := by
            rw [(hW.2.2.1 c hc).2.2.2 z]
            unfold lqA
            rw [if_neg z, eo]
            rfl
          rw [show A (27 + 4 + 6 * c) = o + 1 from eo, if_neg (show ¬ nI (o + 1) ≤ 0 from nI_ge (a := 0) (b := o + 1) (by omega) (by omega)), nI_pred, q_its hLM (by omega) (x := 0) (k := 0) (by omega) rfl, sb, sb, hf0 (57 + 0 + 5 * o) (by omega), el, dn_s]
      rw [if_neg b6, if_neg b6]
      exact ⟨_, rfl, rfl⟩
    · exact absurd rfl (n1 c hc)
  · rcases m_isHold (v := a) hLM (hf0 9 (by omega)) h5 with ⟨c', hc', e', g'⟩ | ⟨g', _⟩
    · exact absurd e' (n1 c' hc')
    · rw [g, sbI, if_neg (show ¬ (0 : Int32) ≠ 0 by decide), g', sbM, if_neg (show ¬ (0 : Int32) ≠ 0 by decide)]
      exact ⟨_, rfl, rfl⟩
