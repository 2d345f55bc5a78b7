/-! the model's plan answers -/
theorem q_mtop {M : HS} {c : Nat} (hL : LnM M) (hc : c < 5) : s_X8_top (nI c) M = some (fM M (27 + 0 + 6 * c) * fM M 6 / 100) := by
  unfold s_X8_top
  rw [q_holds hL hc (x := 0) (k := 0) (by omega) rfl, sb, m_at hL (x := 6) (i := 6) rfl (by omega), sb]
theorem k_mloaded {M : HS} {N L D : Nat} {x : Int32} (hL : LnM M) (h : RW (fM M) N L D) : ∃ v, s_X8_loadedOf x M = some v := by
  have h5 := h.1
  have lp : ∀ (m j : Nat) (a : Int32) (K : Nat), j + m = N → m < K → ∃ v, s_X8_loadedOf_L4 x M K a (nI j) = some v := by
    intro m
    induction m with
    | zero =>
      intro j a K h1 h2
      obtain ⟨K, rfl⟩ : ∃ k, K = k + 1 := ⟨K - 1, by omega⟩
      refine ⟨a, ?_⟩
      rw [s_X8_loadedOf_L4, m_at hL (x := 9) (i := 9) rfl (by omega), sb, h.2.2.2.1, if_pos (nI_le (by omega) (by omega))]
    | succ m ih =>
      intro j a K h1 h2
      obtain ⟨K, rfl⟩ : ∃ k, K = k + 1 := ⟨K - 1, by omega⟩
      rw [s_X8_loadedOf_L4, m_at hL (x := 9) (i := 9) rfl (by omega), sb, h.2.2.2.1, if_neg (nI_ge (by omega) (by omega)), q_holds hL (by omega) (x := 4) (k := 4) (by omega) rfl, sb, q_holds hL (by omega) (x := 3) (k := 3) (by omega) rfl, sb, ← nI_succ]
      exact ex_ite (ih _ _ _ (by omega) (by omega)) (ih _ _ _ (by omega) (by omega))
  exact lp N 0 0 40 (by omega) (by omega)
theorem k_having {M : HS} {N L D : Nat} {x : Int32} (hL : LnM M) (h : RW (fM M) N L D) : ∃ v, s_X8_having x M = some v := by
  have h5 := h.2.2.1
  have lp : ∀ (m j : Nat) (a : Int32) (K : Nat), j + m = D → m < K → ∃ v, s_X8_having_L4 x M K a (nI j) = some v := by
    intro m
    induction m with
    | zero =>
      intro j a K h1 h2
      obtain ⟨K, rfl⟩ : ∃ k, K = k + 1 := ⟨K - 1, by omega⟩
      refine ⟨a, ?_⟩
      rw [s_X8_having_L4, m_at hL (x := 13) (i := 13) rfl (by omega), sb, h.2.2.2.2.2.1, if_pos (nI_le (by omega) (by omega))]
    | succ m ih =>
      intro j a K h1 h2
      obtain ⟨K, rfl⟩ : ∃ k, K = k + 1 := ⟨K - 1, by omega⟩
      rw [s_X8_having_L4, m_at hL (x := 13) (i := 13) rfl (by omega), sb, h.2.2.2.2.2.1, if_neg (nI_ge (by omega) (by omega)), q_its hL (by omega) (x := 2) (k := 2) (by omega) rfl, sb, ← nI_succ]
      exact ex_ite (ih _ _ _ (by omega) (by omega)) (ih _ _ _ (by omega) (by omega))
  exact lp D 0 0 40 (by omega) (by omega)
theorem k_lastIn {M : HS} {N L D c : Nat} (hL : LnM M) (h : RW (fM M) N L D) (hc : c < 5) : ∃ v, s_X8_lastIn (nI c) M = some v ∧ (v = -1 ∨ ∃ q, q < 6 ∧ v = nI q) := by
  obtain ⟨o, ho, eo⟩ := h.2.2.2.2.2.2.1 c hc
  obtain ⟨l, hl, el⟩ := h.2.2.2.2.2.2.2.1 c hc
  unfold s_X8_lastIn
  rw [q_holds hL hc (x := 4) (k := 4) (by omega) rfl, sb, q_holds hL hc (x := 5) (k := 5) (by omega) rfl, sb, sb, (show fM M (27 + 4 + 6 * c) = nI o from eo), (show fM M (27 + 5 + 6 * c) = nI l from el)]
  cases o with
  | zero =>
    rw [if_pos (by decide)]
    refine ⟨_, rfl, ?_⟩
    cases l with
    | zero => exact Or.inl (by decide)
    | succ l => exact Or.inr ⟨l, by omega, nI_pred l⟩
  | succ o =>
    obtain ⟨q, hq, eq⟩ := h.2.2.2.2.2.2.2.2.1 o (by omega)
    rw [if_neg (nI_nle (by omega) (by omega)), nI_pred, q_its hL (by omega) (x := 0) (k := 0) (by omega) rfl, sb]
    exact ⟨_, rfl, Or.inr ⟨q, hq, eq⟩⟩
theorem k_mayCome {M : HS} {N L D c : Nat} {x w : Int32} (hL : LnM M) (h : RW (fM M) N L D) (hc : c < 5) : ∃ v, s_X8_mayCome (nI c) x w M = some v := by
  obtain ⟨v, ev, hv⟩ := k_lastIn hL h hc
  unfold s_X8_mayCome
  rw [q_has, sb, ev, sb, sb]
  refine ex_ite ⟨_, rfl⟩ ?_
  by_cases z : v = -1
  · rw [if_pos z]
    exact ⟨_, rfl⟩
  · rw [if_neg z]
    rcases hv with hv | ⟨q, hq, rfl⟩
    · exact absurd hv z
    · rw [show (21 : Int32) + nI q = nI (21 + q) from nI_add 21 q, m_at hL rfl (by omega), sb, q_has, sb]
      exact ex_ite ⟨_, rfl⟩ ⟨_, rfl⟩
/-- given to compartments: to empty ones alone -/
def GVx (xs : List Int32) (f : Nat → Int32) (D : Nat) : Prop := ∀ c, c < 5 → xs.getD c 0 = -1 ∨ ∃ d, d < D ∧ xs.getD c 0 = nI d ∧ f (31 + 6 * c) = 0
def SGd (G : List Int32) (N s : Nat) : Prop := s < 2 ^ 20 ∧ ∀ d, s.testBit d = true → d < 20 ∧ ∃ c, c < N ∧ G.getD c 0 = nI d
def PRes (G : List Int32) (N : Nat) (r : Option (Int32 × HS)) : Prop := ∃ v M', r = some (v, M') ∧ (v = -1 ∨ ∃ s, v = nI s ∧ SGd G N s)
theorem k_pours {M : HS} {N L D : Nat} {w : Int32} (hL : LnM M) (h : RW (fM M) N L D) : ∃ v M', s_X8_pours w M = some (v, M') ∧ Fr wU M M' ∧ (v = -1 ∨ ∃ s, v = nI s ∧ SGd (ga M 147) N s) := by
  have h5 := h.1
  have h20 := h.2.2.1
  have L30 : ∀ (m d s : Nat) (M' : HS) (K : Nat), d + m = D → m < K → LnM M' → fM M' = fM M → ga M' 147 = ga M 147 → SGd (ga M 147) N s → PRes (ga M 147) N (s_X8_pours_L30 w K (nI s) (nI d) M') := by
    intro m
    induction m with
    | zero =>
      intro d s M' K h1 h2 hL' hf hg hs
      obtain ⟨K, rfl⟩ : ∃ k, K = k + 1 := ⟨K - 1, by omega⟩
      rw [s_X8_pours_L30, m_at hL' (x := 13) (i := 13) rfl (by omega), sb, hf, h.2.2.2.2.2.1, if_pos (nI_le (by omega) (by omega))]
      exact ⟨_, _, rfl, Or.inr ⟨s, rfl, hs⟩⟩
    | succ m ih =>
      intro d s M' K h1 h2 hL' hf hg hs
      obtain ⟨K, rfl⟩ : ∃ k, K = k + 1 := ⟨K - 1, by omega⟩
      have hR : RW (fM M') N L D := by rw [hf]; exact h
      have L74 : ∀ (q c : Nat) (x y : Int32) (M'' : HS) (K2 : Nat), c + q = N → q < K2 → LnM M'' → fM M'' = fM M → ga M'' 147 = ga M 147 → (y = 0 ∨ ∃ c, c < N ∧ (ga M 147).getD c 0 = nI d) → PRes (ga M 147) N (s_X8_pours_L74 (s_X8_pours_L30 w K) w (nI s) (nI d) K2 x y (nI c) M'') := by
        intro q
        induction q with
        | zero =>
          intro c x y M'' K2 g1 g2 hL2 hf2 hg2 hy
          obtain ⟨K2, rfl⟩ : ∃ k, K2 = k + 1 := ⟨K2 - 1, by omega⟩
          have ho := or_bit hs.1 (show d < 20 by omega)
          rw [s_X8_pours_L74, m_at hL2 (x := 9) (i := 9) rfl (by omega), sb, hf2, h.2.2.2.1, if_pos (nI_le (by omega) (by omega)), ho.1, ← nI_succ]
          have n1 := ih (d + 1) s M'' K (by omega) (by omega) hL2 hf2 hg2 hs
          by_cases z : y = 0
          · rw [if_pos z, if_pos z]
            exact n1
          · have n2 := ih (d + 1) (s ||| 2 ^ d) M'' K (by omega) (by omega) hL2 hf2 hg2 ⟨ho.2, fun i hi => by
              rw [Nat.testBit_or, Nat.testBit_two_pow] at hi
              by_cases e : d = i
              · subst e
                refine ⟨by omega, ?_⟩
                rcases hy with hy | hy
                · exact absurd hy z
                · exact hy
              · rw [decide_eq_false e, Bool.or_false] at hi
                exact hs.2 i hi⟩
            rw [if_neg z, if_neg z]
            by_cases z2 : x ≤ 0
            · rw [if_pos z2]
              exact n2
            · rw [if_neg z2]
              exact ⟨_, _, rfl, Or.inl rfl⟩
        | succ q ihq =>
          intro c x y M'' K2 g1 g2 hL2 hf2 hg2 hy
          obtain ⟨K2, rfl⟩ : ∃ k, K2 = k + 1 := ⟨K2 - 1, by omega⟩
          have hR2 : RW (fM M'') N L D := by rw [hf2]; exact h
          rw [s_X8_pours_L74, m_at hL2 (x := 9) (i := 9) rfl (by omega), sb, hf2, h.2.2.2.1, if_neg (nI_ge (by omega) (by omega)), ag_ok (nM147 hL2) (by omega) (by omega), sb, hg2, q_mtop hL2 (by omega), sb, sb, ← nI_succ]
          by_cases z : (ga M 147).getD c 0 = nI d
          · have J : ∀ x0, PRes (ga M 147) N (s_X8_pours_J122 (s_X8_pours_L30 w K) (s_X8_pours_L74 (s_X8_pours_L30 w K) w (nI s) (nI d) K2) w (nI s) (nI d) x (nI c) x0 M'') := by
              intro x0
              unfold s_X8_pours_J122
              by_cases z0 : x0 = 0
              · rw [if_pos z0]
                exact ⟨_, _, rfl, Or.inl rfl⟩
              · obtain ⟨u, eu⟩ := k_mayCome (c := c) (x := fM M'' (57 + 0 + 5 * d)) (w := w) hL2 hR2 (by omega)
                rw [if_neg z0, q_its hL2 (by omega) (x := 0) (k := 0) (by omega) rfl, sb, eu, sb]
                by_cases z1 : u = 0
                · rw [if_neg (fun y => y z1)]
                  exact ⟨_, _, rfl, Or.inl rfl⟩
                · rw [if_pos z1, wa_st (nM148 hL2) (by omega) (by omega), sb, ← nI_succ]
                  refine ihq (c + 1) _ _ _ K2 (by omega) (by omega) hL2.st ?_ ?_ (Or.inr ⟨c, by omega, z⟩)
                  · rw [← hf2]
                    unfold fM
                    rw [ga_st_ne (by omega)]
                  · rw [ga_st_ne (by omega)]
                    exact hg2
            rw [if_pos z]
            split
            · exact J _
            · exact J _
          · rw [if_neg z]
            exact ihq (c + 1) x y M'' K2 (by omega) (by omega) hL2 hf2 hg2 hy
      obtain ⟨u, eu⟩ := k_mloaded (x := nI d) hL' hR
      rw [s_X8_pours_L30, m_at hL' (x := 13) (i := 13) rfl (by omega), sb, hf, h.2.2.2.2.2.1, if_neg (nI_ge (by omega) (by omega)), q_its hL' (by omega) (x := 2) (k := 2) (by omega) rfl, sb, q_its hL' (by omega) (x := 1) (k := 1) (by omega) rfl, sb, eu, sb]
      split
      · exact L74 N 0 0 0 M' 40 (by omega) (by omega) hL' hf hg (Or.inl rfl)
      · exact L74 N 0 _ 0 M' 40 (by omega) (by omega) hL' hf hg (Or.inl rfl)
  have L4 : ∀ (m c : Nat) (M' : HS) (K : Nat), c + m = N → m < K → LnM M' → fM M' = fM M → ga M' 147 = ga M 147 → PRes (ga M 147) N (s_X8_pours_L4 w 0 K (nI c) M') := by
    intro m
    induction m with
    | zero =>
      intro c M' K h1 h2 hL' hf hg
      obtain ⟨K, rfl⟩ : ∃ k, K = k + 1 := ⟨K - 1, by omega⟩
      rw [s_X8_pours_L4, m_at hL' (x := 9) (i := 9) rfl (by omega), sb, hf, h.2.2.2.1, if_pos (nI_le (by omega) (by omega))]
      exact L30 D 0 0 M' 40 (by omega) (by omega) hL' hf hg ⟨by omega, fun d hd => by rw [Nat.zero_testBit] at hd; cases hd⟩
    | succ m ih =>
      intro c M' K h1 h2 hL' hf hg
      obtain ⟨K, rfl⟩ : ∃ k, K = k + 1 := ⟨K - 1, by omega⟩
      rw [s_X8_pours_L4, m_at hL' (x := 9) (i := 9) rfl (by omega), sb, hf, h.2.2.2.1, if_neg (nI_ge (by omega) (by omega)), wa_st (nM148 hL') (by omega) (by omega), sb, ← nI_succ]
      refine ih (c + 1) _ K (by omega) (by omega) hL'.st ?_ ?_
      · rw [← hf]
        unfold fM
        rw [ga_st_ne (by omega)]
      · rw [ga_st_ne (by omega)]
        exact hg
  obtain ⟨v, M', e, hv⟩ := L4 N 0 M 40 (by omega) (by omega) hL rfl rfl
  exact ⟨v, M', e, fs_X8_pours fr_rf _ e, hv⟩
/-- the planning model -/
def PI (M : HS) (f0 : Nat → Int32) (D : Nat) : Prop := LnM M ∧ fM M = f0 ∧ GVx (ga M 147) f0 D ∧ GVx (ga M 149) f0 D
theorem PI.fr {W : Nat → Nat → Prop} {M M1 : HS} {f0 : Nat → Int32} {D : Nat} (h : PI M f0 D) (f : Fr W M M1) (hw : ¬ W 139 99 ∧ ¬ W 147 99 ∧ ¬ W 149 99) : PI M1 f0 D := by
  obtain ⟨a, b, c, d⟩ := h
  refine ⟨a.fr f, (fM_fr f hw.1).trans b, ?_, ?_⟩
  · rw [f.2.2.1 147 hw.2.1]
    exact c
  · rw [f.2.2.1 149 hw.2.2]
    exact d
theorem PI.wst {M : HS} {f0 : Nat → Int32} {D k i : Nat} {x : Int32} (h : PI M f0 D) (hk : k ≠ 139 ∧ k ≠ 147 ∧ k ≠ 149) : PI (st M k i x) f0 D := by
  obtain ⟨a, b, c, d⟩ := h
  refine ⟨a.st, ?_, ?_, ?_⟩
  · rw [← b]
    unfold fM
    rw [ga_st_ne (by omega)]
  · rw [ga_st_ne (by omega)]
    exact c
  · rw [ga_st_ne (by omega)]
    exact d
theorem GVx.set {xs : List Int32} {f : Nat → Int32} {D c : Nat} {x : Int32} (h : GVx xs f D) (hl : xs.length = 5) (hx : x = -1 ∨ ∃ d, d < D ∧ x = nI d ∧ f (31 + 6 * c) = 0) : GVx (xs.set c x) f D := by
  intro i hi
  by_cases z : i = c
  · subst z
    rw [getD_set_eq (by omega)]
    exact hx
  · rw [getD_set_ne (fun y => z y.symm)]
    exact h i hi
theorem PI.st7 {M : HS} {f0 : Nat → Int32} {D c : Nat} {x : Int32} (h : PI M f0 D) (hx : x = -1 ∨ ∃ d, d < D ∧ x = nI d ∧ f0 (31 + 6 * c) = 0) : PI (st M 147 c x) f0 D := by
  obtain ⟨a, b, cc, d⟩ := h
  refine ⟨a.st, ?_, ?_, ?_⟩
  · rw [← b]
    unfold fM
    rw [ga_st_ne (by omega)]
  · rw [ga_st_eq]
    exact cc.set (nM147 a) hx
  · rw [ga_st_ne (by omega)]
    exact d
theorem PI.st9 {M : HS} {f0 : Nat → Int32} {D c : Nat} {x : Int32} (h : PI M f0 D) (hx : x = -1 ∨ ∃ d, d < D ∧ x = nI d ∧ f0 (31 + 6 * c) = 0) : PI (st M 149 c x) f0 D := by
  obtain ⟨a, b, cc, d⟩ := h
  refine ⟨a.st, ?_, ?_, ?_⟩
  · rw [← b]
    unfold fM
    rw [ga_st_ne (by omega)]
  · rw [ga_st_ne (by omega)]
    exact cc
  · rw [ga_st_eq]
    exact d.set (nM149 a) hx
theorem k_L196 {f0 : Nat → Int32} {D : Nat} : ∀ (m c : Nat) (M : HS) (K : Nat), c + m = 5 → m < K → PI M f0 D → ∃ M', s_X8_looks_L196 K (nI c) M = some M' ∧ PI M' f0 D := by
  intro m
  induction m with
  | zero =>
    intro c M K h1 h2 hP
    obtain ⟨K, rfl⟩ : ∃ k, K = k + 1 := ⟨K - 1, by omega⟩
    rw [s_X8_looks_L196, if_pos (show (5 : Int32) ≤ nI c from nI_le (a := 5) (by omega) (by omega))]
    exact ⟨M, rfl, hP⟩
  | succ m ih =>
    intro c M K h1 h2 hP
    obtain ⟨K, rfl⟩ : ∃ k, K = k + 1 := ⟨K - 1, by omega⟩
    have hP2 : PI (st M 149 c ((ga M 147).getD c 0)) f0 D := hP.st9 (hP.2.2.1 c (by omega))
    rw [s_X8_looks_L196, if_neg (show ¬ (5 : Int32) ≤ nI c from nI_ge (b := 5) (by omega) (by omega)), ag_ok (nM147 hP.1) (by omega) (by omega), sb, wa_st (nM149 hP.1) (by omega) (by omega), sb, ag_ok (nM148 hP2.1) (by omega) (by omega), sb, wa_st (nM150 hP2.1) (by omega) (by omega), sb, ← nI_succ]
    exact ih (c + 1) _ K (by omega) (by omega) (hP2.wst (by omega))
theorem k_looks {M : HS} {N L D : Nat} {f0 : Nat → Int32} {w : Int32} (h : RW f0 N L D) (hP : PI M f0 D) : ∃ M', s_X8_looks w M = some M' ∧ PI M' f0 D := by
  have h5 := h.1
  have h20 := h.2.2.1
  have hR : ∀ {M : HS}, PI M f0 D → RW (fM M) N L D := fun q => by rw [q.2.1]; exact h
  obtain ⟨v, M1, e1, f1, hv⟩ := k_pours (w := w) hP.1 (hR hP)
  have hP1 : PI M1 f0 D := hP.fr f1 (by unfold wU; omega)
  have g1 : ga M1 147 = ga M 147 := f1.2.2.1 147 (by unfold wU; omega)
  unfold s_X8_looks
  rw [e1, sb]
  dsimp only
  rcases hv with rfl | ⟨s, rfl, hs⟩
  · rw [if_neg (fun z => z rfl)]
    exact ⟨M1, rfl, hP1⟩
  rw [if_pos (show nI s ≠ (-1 : Int32) from fun z => by
    have hp := nI_pos (n := s) (by have := hs.1; omega)
    rw [z] at hp
    exact hp (by decide))]
  have J160 : ∀ (x y : Int32) (M2 : HS), PI M2 f0 D → PQ M2 N → (∀ c, c < N → (ga M2 144).getD c 0 = if (ga M 147).getD c 0 = -1 then f0 (31 + 6 * c) - 1 else (ga M 147).getD c 0) → ∃ M', s_X8_looks_J160 (nI s) x y M2 = some M' ∧ PI M' f0 D := by
    intro x y M2 hP2 hq hd
    obtain ⟨u, eu⟩ := k_stands (g := 0) hP2.1 (hR hP2) hq
    unfold s_X8_looks_J160
    rw [eu, sb]
    by_cases z : u = 0
    · rw [if_neg (fun y => y z)]
      obtain ⟨a, ea, ha, hab⟩ := k_aboard hP2.1 (hR hP2)
      have hlt : a ||| s < 2 ^ 20 := Nat.or_lt_two_pow ha hs.1
      have hpc : pcB (a ||| s) ≤ 5 := pc_cover (M := M2) h5 (fun d hd' hz => by
        rw [Nat.testBit_or, Bool.or_eq_true] at hz
        rcases hz with hz | hz
        · have h1 := (hab d hz).2
          rw [hP2.2.1] at h1
          obtain ⟨c, hc, ec⟩ := h.2.2.2.2.2.2.2.2.2 d hd' h1
          refine ⟨c, hc, ?_⟩
          rw [hd c hc]
          rcases hP.2.2.1 c (by omega) with g | ⟨d2, _, g, g0⟩
          · rw [if_pos g, ec, nI_pred]
          · exfalso
            rw [g0] at ec
            exact nI_ne0 (n := d + 1) (by omega) (by omega) ec.symm
        · obtain ⟨_, c, hc, ec⟩ := hs.2 d hz
          refine ⟨c, hc, ?_⟩
          rw [hd c hc, ec, if_neg]
          intro hq
          have hp := nI_pos (n := d) (by omega)
          rw [hq] at hp
          exact hp (by decide))
      obtain ⟨r, M3, e3, f3, _⟩ := k_ordersOf hP2.1 (hR hP2) hq hlt hpc
      have hP3 : PI M3 f0 D := hP2.fr f3 (by unfold wQ; omega)
      have hs20 := hs.1
      rw [ea, sb, or_nI (by omega) (by omega), e3, sb]
      dsimp only
      by_cases z2 : r = 0
      · rw [if_neg (fun y => y z2)]
        exact ⟨M3, rfl, hP3⟩
      · rw [if_pos z2, pf_ok, sb, pf_ok, sb]
        exact k_L196 5 0 _ 40 (by omega) (by omega) hP3
    · rw [if_pos z]
      exact ⟨M2, rfl, hP2⟩
  have L52 : ∀ (m c : Nat) (x y : Int32) (M2 : HS) (K : Nat), c + m = N → m < K → PI M2 f0 D → ga M2 147 = ga M 147 → PQ M2 N → (∀ i, i < c → (ga M2 144).getD i 0 = if (ga M 147).getD i 0 = -1 then f0 (31 + 6 * i) - 1 else (ga M 147).getD i 0) → (∀ i, c ≤ i → i < N → (ga M2 144).getD i 0 = f0 (31 + 6 * i) - 1) → ∃ M', s_X8_looks_L52 (nI s) x K y (nI c) M2 = some M' ∧ PI M' f0 D := by
    intro m
    induction m with
    | zero =>
      intro c x y M2 K h1 h2 hP2 hg hq hlo hhi
      obtain ⟨K, rfl⟩ : ∃ k, K = k + 1 := ⟨K - 1, by omega⟩
      have J := fun x y => J160 x y M2 hP2 hq (fun i hi => hlo i (by omega))
      rw [s_X8_looks_L52, m_at hP2.1 (x := 9) (i := 9) rfl (by omega), sb, hP2.2.1, h.2.2.2.1, if_pos (nI_le (by omega) (by omega))]
      split
      · exact ⟨M2, rfl, hP2⟩
      · split
        · exact J _ _
        · split
          · exact J _ _
          · exact ⟨M2, rfl, hP2⟩
    | succ m ih =>
      intro c x y M2 K h1 h2 hP2 hg hq hlo hhi
      obtain ⟨K, rfl⟩ : ∃ k, K = k + 1 := ⟨K - 1, by omega⟩
      rw [s_X8_looks_L52, m_at hP2.1 (x := 9) (i := 9) rfl (by omega), sb, hP2.2.1, h.2.2.2.1, if_neg (nI_ge (by omega) (by omega)), ag_ok (nM147 hP2.1) (by omega) (by omega), sb, hg, ← nI_succ]
      rcases hP.2.2.1 c (by omega) with g | ⟨d, hd, g, g0⟩
      · rw [if_neg (fun z => z g)]
        refine ih (c + 1) x y M2 K (by omega) (by omega) hP2 hg hq (fun i hi => ?_) (fun i hi hiN => hhi i (by omega) hiN)
        by_cases z : i = c
        · subst z
          rw [if_pos g]
          exact hhi i (Nat.le_refl _) (by omega)
        · exact hlo i (by omega)
      · obtain ⟨q, hq6, eq⟩ := h.2.2.2.2.2.2.2.2.1 d (by omega)
        have hne : (ga M 147).getD c 0 ≠ -1 := by
          rw [g]
          intro z
          have hp := nI_pos (n := d) (by omega)
          rw [z] at hp
          exact hp (by decide)
        have hP3 : ∀ x, PI (st M2 142 c x) f0 D := fun x => hP2.wst (by omega)
        have hP4 : ∀ x, PI (st (st M2 142 c x) 144 c ((ga M 147).getD c 0)) f0 D := fun x => (hP3 x).wst (by omega)
        rw [if_pos hne, ag_ok (nM148 hP2.1) (by omega) (by omega), sb, wa_st (nM142 hP2.1) (by omega) (by omega), sb, ag_ok (nM147 (hP3 _).1) (by omega) (by omega), sb, gd_st (by omega), hg, wa_st (nM144 (hP3 _).1) (by omega) (by omega), sb, ag_ok (nM147 (hP4 _).1) (by omega) (by omega), sb, gd_st (by omega), gd_st (by omega), hg]
        have eI : s_X8_its ((ga M 147).getD c 0) 0 (st (st M2 142 c ((ga M2 148).getD c 0)) 144 c ((ga M 147).getD c 0)) = some (nI q) := by
          rw [show s_X8_its ((ga M 147).getD c 0) 0 = s_X8_its (nI d) 0 by rw [g], q_its (hP4 _).1 (by omega) (x := 0) (k := 0) (by omega) rfl, (hP4 _).2.1]
          exact congrArg some eq
        rw [eI, sb, wa_st (nM143 (hP4 _).1) (by omega) (by omega), sb]
        refine ih (c + 1) x _ _ K (by omega) (by omega) ((hP4 _).wst (by omega)) ?_ (fun i hi => ?_) (fun i hi => ?_) (fun i hi hiN => ?_)
        · rw [ga_st_ne (by omega), ga_st_ne (by omega), ga_st_ne (by omega)]
          exact hg
        · by_cases z : i = c
          · subst z
            rw [gd_st_eq (nM143 (hP4 _).1) (by omega)]
            exact ⟨q, hq6, rfl⟩
          · rw [gd_st (by omega), gd_st (by omega), gd_st (by omega)]
            exact hq i hi
        · rw [gd_st (by omega)]
          by_cases z : i = c
          · subst z
            rw [gd_st_eq (nM144 (hP3 _).1) (by omega), if_neg hne]
          · rw [gd_st (by omega), gd_st (by omega)]
            exact hlo i (by omega)
        · rw [gd_st (by omega), gd_st (by omega), gd_st (by omega)]
          exact hhi i (by omega) hiN
  have L17 : ∀ (m d : Nat) (x : Int32) (K : Nat), d + m = 20 → m < K → ∃ M', s_X8_looks_L17 (nI s) K x (nI d) M1 = some M' ∧ PI M' f0 D := by
    intro m
    induction m with
    | zero =>
      intro d x K h1 h2
      obtain ⟨K, rfl⟩ : ∃ k, K = k + 1 := ⟨K - 1, by omega⟩
      obtain ⟨M2, e2, f2, p2, c2⟩ := k_laysNow hP1.1 (hR hP1)
      rw [s_X8_looks_L17, if_pos (show (20 : Int32) ≤ nI d from nI_le (a := 20) (by omega) (by omega)), e2, sb]
      refine L52 N 0 x 0 M2 40 (by omega) (by omega) (hP1.fr f2 (by unfold wN; omega)) ?_ p2 (fun i hi => by omega) (fun i _ hiN => ?_)
      · rw [f2.2.2.1 147 (by unfold wN; omega), g1]
      · rw [c2 i hiN, hP1.2.1]
    | succ m ih =>
      intro d x K h1 h2
      obtain ⟨K, rfl⟩ : ∃ k, K = k + 1 := ⟨K - 1, by omega⟩
      rw [s_X8_looks_L17, if_neg (show ¬ (20 : Int32) ≤ nI d from nI_ge (b := 20) (by omega) (by omega)), q_has, sb, ← nI_succ]
      split
      · exact ih _ _ _ (by omega) (by omega)
      · exact ih _ _ _ (by omega) (by omega)
  exact L17 20 0 0 40 (by omega) (by omega)
theorem k_tries {N L D : Nat} {f0 : Nat → Int32} {w : Int32} (h : RW f0 N L D) : ∀ (r c : Nat) (M : HS), PI M f0 D → c ≤ N → N < r + c → ∃ M', s_X8_tries r (nI c) w M = some M' ∧ PI M' f0 D := by
  have h5 := h.1
  have h20 := h.2.2.1
  intro r
  induction r with
  | zero =>
    intro c M hP hc hr
    omega
  | succ r ih =>
    intro c M hP hc hr
    rw [s_X8_tries, s_X8_tries_B, m_at hP.1 (x := 9) (i := 9) rfl (by omega), sb, hP.2.1, h.2.2.2.1]
    by_cases z : c = N
    · obtain ⟨M', e, q⟩ := k_looks (w := w) h hP
      rw [z, if_neg (fun y => y rfl), e, sb]
      exact ⟨M', rfl, q⟩
    · rw [if_pos (show nI c ≠ nI N from fun y => z ((nI_eq (by omega) (by omega)).mp y))]
      have J : ∀ M', PI M' f0 D → ∃ M'', s_X8_tries_J72 (s_X8_tries r) (nI c) w M' = some M'' ∧ PI M'' f0 D := by
        intro M' hP'
        obtain ⟨M2, e2, q2⟩ := ih (c + 1) (st M' 147 c (-1)) (hP'.st7 (Or.inl rfl)) (by omega) (by omega)
        unfold s_X8_tries_J72
        rw [wa_st (nM147 hP'.1) (by omega) (by omega), sb, ← nI_succ, e2, sb]
        exact ⟨M2, rfl, q2⟩
      have lp : ∀ (m d : Nat) (M' : HS) (K : Nat), d + m = D → m < K → PI M' f0 D → ∃ M'', s_X8_tries_L19 (s_X8_tries r) (nI c) w K (nI d) M' = some M'' ∧ PI M'' f0 D := by
        intro m
        induction m with
        | zero =>
          intro d M' K h1 h2 hP'
          obtain ⟨K, rfl⟩ : ∃ k, K = k + 1 := ⟨K - 1, by omega⟩
          rw [s_X8_tries_L19, m_at hP'.1 (x := 13) (i := 13) rfl (by omega), sb, hP'.2.1, h.2.2.2.2.2.1, if_pos (nI_le (by omega) (by omega))]
          exact J M' hP'
        | succ m ihm =>
          intro d M' K h1 h2 hP'
          obtain ⟨K, rfl⟩ : ∃ k, K = k + 1 := ⟨K - 1, by omega⟩
          rw [s_X8_tries_L19, m_at hP'.1 (x := 13) (i := 13) rfl (by omega), sb, hP'.2.1, h.2.2.2.2.2.1, if_neg (nI_ge (by omega) (by omega)), q_holds hP'.1 (by omega) (x := 4) (k := 4) (by omega) rfl, sb, hP'.2.1, q_its hP'.1 (by omega) (x := 2) (k := 2) (by omega) rfl, sb, ← nI_succ, ← nI_succ]
          by_cases z2 : f0 (27 + 4 + 6 * c) = 0
          · rw [if_neg (fun y => y z2)]
            split
            · obtain ⟨M2, e2, q2⟩ := ih (c + 1) (st M' 147 c (nI d)) (hP'.st7 (Or.inr ⟨d, by omega, rfl, z2⟩)) (by omega) (by omega)
              rw [wa_st (nM147 hP'.1) (by omega) (by omega), sb, e2, sb]
              exact ihm (d + 1) M2 K (by omega) (by omega) q2
            · exact ihm (d + 1) M' K (by omega) (by omega) hP'
          · rw [if_pos z2]
            exact J M' hP'
      exact lp D 0 M 40 (by omega) (by omega) hP
theorem k_laysPlan {M : HS} {N L D : Nat} {w : Int32} (hL : LnM M) (h : RW (fM M) N L D) : ∃ M', s_X8_laysPlan w M = some M' ∧ Fr wM M M' ∧ GVx (ga M' 149) (fM M) D := by
  have h5 := h.1
  have lp : ∀ (m c : Nat) (M' : HS) (K : Nat), c + m = 5 → m < K → LnM M' → fM M' = fM M → (∀ i, i < c → (ga M' 147).getD i 0 = -1 ∧ (ga M' 149).getD i 0 = -1) → ∃ M'', s_X8_laysPlan_L12 w K (nI c) M' = some M'' ∧ PI M'' (fM M) D := by
    intro m
    induction m with
    | zero =>
      intro c M' K h1 h2 hL' hf hg
      obtain ⟨K, rfl⟩ : ∃ k, K = k + 1 := ⟨K - 1, by omega⟩
      obtain ⟨M2, e2, q2⟩ := k_tries (w := w) h 8 0 M' ⟨hL', hf, fun i hi => Or.inl (hg i (by omega)).1, fun i hi => Or.inl (hg i (by omega)).2⟩ (by omega) (by omega)
      rw [s_X8_laysPlan_L12, if_pos (show (5 : Int32) ≤ nI c from nI_le (a := 5) (by omega) (by omega)), (show s_X8_tries 8 0 w M' = _ from e2), sb]
      exact ⟨M2, rfl, q2⟩
    | succ m ih =>
      intro c M' K h1 h2 hL' hf hg
      obtain ⟨K, rfl⟩ : ∃ k, K = k + 1 := ⟨K - 1, by omega⟩
      rw [s_X8_laysPlan_L12, if_neg (show ¬ (5 : Int32) ≤ nI c from nI_ge (b := 5) (by omega) (by omega)), wa_st (nM147 hL') (by omega) (by omega), sb, wa_st (nM149 hL'.st) (by omega) (by omega), sb, wa_st (nM150 hL'.st.st) (by omega) (by omega), sb, ← nI_succ]
      refine ih (c + 1) _ K (by omega) (by omega) hL'.st.st.st ?_ (fun i hi => ?_)
      · rw [← hf]
        unfold fM
        rw [ga_st_ne (by omega), ga_st_ne (by omega), ga_st_ne (by omega)]
      · by_cases z : i = c
        · subst z
          rw [gd_st (by omega), gd_st (by omega), gd_st_eq (nM147 hL') (by omega), gd_st (by omega), gd_st_eq (nM149 hL'.st) (by omega)]
          exact ⟨rfl, rfl⟩
        · rw [gd_st (by omega), gd_st (by omega), gd_st (by omega), gd_st (by omega), gd_st (by omega), gd_st (by omega)]
          exact hg i (by omega)
  have fin : ∀ {M'}, s_X8_laysPlan w M = some M' → Fr wM M M' := fun e => fs_X8_laysPlan fr_rf _ e
  obtain ⟨M2, e2, q2⟩ := lp 5 0 (sf (sf M 137 26 (-1)) 137 27 0) 40 (by omega) (by omega) hL rfl (fun i hi => by omega)
  have e : s_X8_laysPlan w M = some M2 := by
    unfold s_X8_laysPlan
    rw [pf_ok, sb, pf_ok, sb]
    exact e2
  exact ⟨M2, e, fin e, q2.2.2.2⟩
