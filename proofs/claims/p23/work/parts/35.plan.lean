/-! the table of orders: it answers -/
theorem k_collect {o t c D : Nat} {S : HS} (hL : LnD S) (ho : isO o) (ht : isT t) (hc : isC c) (hD : D ≤ 20) : Ok (fun S' => ∃ A, A ≤ 5 ∧ gf S' o 0 = nI A) (s_X2_collect o t c (nI D) S) := by
  have L : ∀ (m j A : Nat) (S : HS) (K : Nat), LnD S → gf S o 0 = nI A → A ≤ 5 → j + m = D → m < K → Ok (fun S' => ∃ A, A ≤ 5 ∧ gf S' o 0 = nI A) (s_X2_collect_L8 o t c (nI D) K (nI j) S) := by
    intro m
    induction m with
    | zero =>
      intro j A S K hL hA h5 h3 h4
      obtain ⟨K, rfl⟩ : ∃ k, K = k + 1 := ⟨K - 1, by omega⟩
      rw [s_X2_collect_L8, if_pos (nI_le (by omega) (by omega))]
      exact ok_some ⟨A, h5, hA⟩
    | succ m ih =>
      intro j A S K hL hA h5 h3 h4
      obtain ⟨K, rfl⟩ : ∃ k, K = k + 1 := ⟨K - 1, by omega⟩
      rw [s_X2_collect_L8, if_neg (nI_ge (by omega) (by omega)), hA]
      refine ok_ite (fun _ => ok_some ⟨A, h5, hA⟩) (fun z => ?_)
      have hA5 : A < 5 := by
        rcases Nat.lt_or_ge A 5 with q | q
        · exact q
        · exact absurd (show (5 : Int32) ≤ nI A from nI_le (a := 5) q (by omega)) z
      rw [q_loaded (nC1 hL hc) (nC2 hL hc), sb, ag_ok (nT8 hL ht) (by omega) (by omega), sb, ← nI_succ]
      refine ok_ite (fun _ => ih _ A _ _ hL hA h5 (by omega) (by omega)) (fun _ => ?_)
      rw [wa_st (nO1 hL ho) hA5 (by omega), sb, q_partsOf (nC2 hL.st hc), sb, gf_st, hA, wa_st (nO2 hL.st ho) hA5 (by omega), sb, gf_st, gf_st, hA, pf_ok, sb]
      refine ih _ (A + 1) _ _ hL.st.st.sf ?_ (by omega) (by omega) (by omega)
      rw [gf_sf, if_pos ⟨rfl, rfl⟩, nI_succ]
  unfold s_X2_collect
  rw [pf_ok, sb]
  exact L D 0 0 _ 40 hL.sf (by rw [gf_sf, if_pos ⟨rfl, rfl⟩]; rfl) (by omega) (by omega) (by omega)
theorem k_count {o t c D N : Nat} {S : HS} (hL : LnD S) (ho : isO o) (ht : isT t) (hc : isC c) (hD : D ≤ 20) (hN : gf S t 1 = nI N) (h5 : N ≤ 5) : Ok (fun r => ∃ A, A ≤ 5 ∧ gf r.2 o 0 = nI A) (s_X2_count o t c (nI D) S) := by
  unfold s_X2_count
  have hto : t ≠ o := by
    have := isT_num ht
    rcases ho with rfl | rfl <;> omega
  refine ok_call (k_collect hL ho ht hc hD) (fs_X2_collect fr_rf) ?_
  rintro S1 ⟨A, hA5, hA⟩ f
  have hL1 := hL.fr f
  have hN1 : gf S1 t 1 = nI N := by
    rw [(f.1 t 1 (by unfold wO; have := isT_num ht; rcases ho with rfl | rfl <;> omega)).1]
    exact hN
  have hp : 2 ^ A ≤ 2 ^ 5 := Nat.pow_le_pow_right (by decide) hA5
  have hp0 : 0 < 2 ^ A := Nat.two_pow_pos A
  rw [hA, bit_shl (by omega), show (1 : Int32) = nI 1 from rfl, pk_sub (by omega)]
  have L : ∀ (m : Nat) (S : HS) (K : Nat), LnD S → gf S o 0 = nI A → gf S t 1 = nI N → m < 32 → m + 1 < K → Ok (fun r => ∃ A, A ≤ 5 ∧ gf r.2 o 0 = nI A) (s_X2_count_L21 o t c (nI (2 ^ A - 1)) K (nI m) S) := by
    intro m
    induction m with
    | zero =>
      intro S K hL hA hN hm hK
      obtain ⟨K, rfl⟩ : ∃ k, K = k + 2 := ⟨K - 2, by omega⟩
      have fin : ∀ x, Ok (fun r => ∃ A, A ≤ 5 ∧ gf r.2 o 0 = nI A) (s_X2_count_L21 o t c (nI (2 ^ A - 1)) (K + 1) (nI 0 + -1) (st S (o + 3) 0 x)) := by
        intro x
        rw [s_X2_count_L21, if_pos (by decide)]
        refine ok_at (ag_ok (k := 0) (nO3 hL.st ho) (by omega) (by omega)) (ok_some ⟨A, hA5, hA⟩)
      rw [s_X2_count_L21, if_neg (nI_pos (by omega)), if_pos (show nI 0 = (0 : Int32) from rfl), s_X2_count_J45, s_X2_count_J50, if_pos (by decide)]
      refine ok_ite (fun _ => ?_) (fun _ => ?_)
      · rw [q_ways hL ho hA (by omega) (by omega), sb, wa_st (nO3 hL ho) (by omega) (by omega), sb]
        exact fin _
      · rw [wa_st (nO3 hL ho) (by omega) (by omega), sb]
        exact fin _
    | succ m ih =>
      intro S K hL hA hN hm hK
      obtain ⟨K, rfl⟩ : ∃ k, K = k + 1 := ⟨K - 1, by omega⟩
      have fin : ∀ x, Ok (fun r => ∃ A, A ≤ 5 ∧ gf r.2 o 0 = nI A) (s_X2_count_L21 o t c (nI (2 ^ A - 1)) K (nI (m + 1) + -1) (st S (o + 3) (m + 1) x)) := by
        intro x
        rw [pk_m1]
        exact ih _ _ hL.st hA hN (by omega) (by omega)
      have hJ : ∀ x, Ok (fun r => ∃ A, A ≤ 5 ∧ gf r.2 o 0 = nI A) (s_X2_count_J50 o t c (s_X2_count_L21 o t c (nI (2 ^ A - 1)) K) (nI (2 ^ A - 1)) (nI (m + 1)) x S) := by
        intro x
        rw [s_X2_count_J50]
        refine ok_ite (fun _ => ok_ite (fun _ => ?_) (fun _ => ?_)) (fun _ => ?_)
        · rw [q_ways hL ho hA (by omega) (by omega), sb, wa_st (nO3 hL ho) (by omega) (by omega), sb]
          exact fin _
        · rw [wa_st (nO3 hL ho) (by omega) (by omega), sb]
          exact fin _
        · rw [wa_st (nO3 hL ho) (by omega) (by omega), sb]
          exact fin _
      rw [s_X2_count_L21, if_neg (nI_pos (by omega)), if_neg (nI_ne0 (by omega) (by omega)), q_partsAll hL ho hA (by omega) (by omega), sb, q_standing hL hc ht hN h5, sb, s_X2_count_J45]
      exact ok_ite (fun _ => hJ _) (fun _ => hJ _)
  exact L _ _ _ hL1 hA hN1 (by omega) (by omega)
/-! the planner: it answers -/
def IvP (S : HS) (t N D W : Nat) : Prop := LnD S ∧ gr S 121 2 = .ref t ∧ gr S 121 3 = .ref 22 ∧ gf S 22 1 = nI D ∧ gf S t 1 = nI N ∧ gf S 121 5 = nI W ∧ (gf S 121 12 = 0 ∨ gf S 121 12 = 1) ∧ (∀ i, i < W → ∃ d, d < 20 ∧ (ga S 131).getD i 0 = nI d) ∧ ∀ i, i < 20 → ∃ q, q < 6 ∧ (ga S (t + 7)).getD i 0 = nI q
theorem ivp_st {S : HS} {t N D W k i : Nat} {x : Int32} (h : IvP S t N D W) (h1 : k ≠ 131) (h2 : t + 7 ≠ k) : IvP (st S k i x) t N D W := by
  obtain ⟨a, b, c, d, e, f, g, p, q⟩ := h
  refine ⟨a.st, b, c, d, e, f, g, ?_, ?_⟩
  · rw [ga_st_ne (fun z => h1 z.symm)]
    exact p
  · rw [ga_st_ne h2]
    exact q
theorem ivp_sf {S : HS} {t N D W j : Nat} {x : Int32} (h : IvP S t N D W) (ht : isT t) (h1 : j ≠ 5) (h2 : j = 12 → x = 0 ∨ x = 1) : IvP (sf S 121 j x) t N D W := by
  obtain ⟨a, b, c, d, e, f, g, p, q⟩ := h
  have hn := isT_num ht
  refine ⟨a, b, c, ?_, ?_, ?_, ?_, p, q⟩
  · rw [gf_sf, if_neg (by omega)]
    exact d
  · rw [gf_sf, if_neg (by omega)]
    exact e
  · rw [gf_sf, if_neg (by omega)]
    exact f
  · rw [gf_sf]
    by_cases z : j = 12
    · rw [if_pos ⟨rfl, z.symm⟩]
      exact h2 z
    · rw [if_neg (fun y => z y.2.symm)]
      exact g
theorem ivp_layC {S : HS} {t N D W c q : Nat} {v x : Int32} (h : IvP S t N D W) (ht : isT t) : IvP (layC S 126 t c v q x) t N D W := by
  have hn := isT_num ht
  unfold layC
  exact ivp_st (ivp_st (ivp_st (ivp_st h (by omega) (by omega)) (by omega) (by omega)) (by omega) (by omega)) (by omega) (by omega)
theorem ivp_toC {S : HS} {t N D W c : Nat} (h : IvP S t N D W) (ht : isT t) : IvP (toC S 126 c) t N D W := by
  have hn := isT_num ht
  unfold toC
  exact ivp_st (ivp_st (ivp_st h (by omega) (by omega)) (by omega) (by omega)) (by omega) (by omega)
theorem ivp_cnt {S S1 : HS} {t N D W : Nat} (h : IvP S t N D W) (ht : isT t) (f : Fr (wO 122) S S1) : IvP S1 t N D W := by
  obtain ⟨a, b, c, d, e, g, g2, p, q⟩ := h
  have hn := isT_num ht
  have e1 : ∀ k j, ¬ (122 ≤ k ∧ k ≤ 125) → gf S1 k j = gf S k j := fun k j z => (f.1 k j (by unfold wO; omega)).1
  have e2 : ∀ k j, ¬ (122 ≤ k ∧ k ≤ 125) → gr S1 k j = gr S k j := fun k j z => (f.1 k j (by unfold wO; omega)).2
  have e3 : ∀ k, ¬ (122 ≤ k ∧ k ≤ 125) → ga S1 k = ga S k := fun k z => f.2.2.1 k (by unfold wO; omega)
  refine ⟨a.fr f, by rw [e2 _ _ (by omega)]; exact b, by rw [e2 _ _ (by omega)]; exact c, by rw [e1 _ _ (by omega)]; exact d, by rw [e1 _ _ (by omega)]; exact e, by rw [e1 _ _ (by omega)]; exact g, by rw [e1 _ _ (by omega)]; exact g2, by rw [e3 _ (by omega)]; exact p, by rw [e3 _ (by omega)]; exact q⟩
theorem k_hopeless {S : HS} {t N D W c : Nat} (h : IvP S t N D W) (hW : W ≤ 4) (hc : c ≤ 5) : Ok (fun r => r = 0 ∨ r = 1) (s_X3_isHopeless (nI c) S) := by
  have L : ∀ (m j : Nat) (a : Int32) (K : Nat), j + m = W → m < K → Ok (fun r => r = 0 ∨ r = 1) (s_X3_isHopeless_L31 (nI c) S K a (nI j)) := by
    intro m
    induction m with
    | zero =>
      intro j a K h3 h4
      obtain ⟨K, rfl⟩ : ∃ k, K = k + 1 := ⟨K - 1, by omega⟩
      rw [s_X3_isHopeless_L31, h.2.2.2.2.2.1, if_pos (nI_le (by omega) (by omega)), ag_ok (nD134 h.1) (by omega) (by omega), sb]
      exact ok_ite (fun _ => ok_some (Or.inl rfl)) (fun _ => ok_some (Or.inr rfl))
    | succ m ih =>
      intro j a K h3 h4
      obtain ⟨K, rfl⟩ : ∃ k, K = k + 1 := ⟨K - 1, by omega⟩
      rw [s_X3_isHopeless_L31, h.2.2.2.2.2.1, if_neg (nI_ge (by omega) (by omega)), ag_ok (nD133 h.1) (by omega) (by omega), sb, sb, ag_ok (nD132 h.1) (by omega) (by omega), sb, ← nI_succ]
      exact ok_ite (fun _ => ih _ _ _ (by omega) (by omega)) (fun _ => ok_ite (fun _ => ih _ _ _ (by omega) (by omega)) (fun _ => ih _ _ _ (by omega) (by omega)))
  unfold s_X3_isHopeless
  have hh := L W 0 0 40 (by omega) (by omega)
  exact ok_ite (fun _ => hh) (fun _ => ok_ite (fun _ => hh) (fun _ => ok_ite (fun _ => hh) (fun _ => ok_some (Or.inr rfl))))
theorem k_better {S : HS} {v : Int32} : Ok (fun r => r = 0 ∨ r = 1) (s_X3_isBetter v S) := by
  unfold s_X3_isBetter
  exact ok_ite (fun _ => ok_some (Or.inr rfl)) (fun _ => ok_ite (fun _ => ok_some (Or.inr rfl)) (fun _ => ok_ite (fun _ => ok_some (Or.inr rfl)) (fun _ => ok_ite (fun _ => ok_some (Or.inl rfl)) (fun _ => ok_ite (fun _ => ok_some (Or.inl rfl)) (fun _ => ok_some (Or.inr rfl))))))
theorem k_keepDeal {S : HS} {t N D W : Nat} (h : IvP S t N D W) (ht : isT t) (h5 : N ≤ 5) : Ok (fun S' => IvP S' t N D W) (s_X3_keepDeal S) := by
  have hn := isT_num ht
  have L : ∀ (m j : Nat) (S : HS) (K : Nat), IvP S t N D W → j + m = N → m < K → Ok (fun S' => IvP S' t N D W) (s_X3_keepDeal_L2 K (nI j) S) := by
    intro m
    induction m with
    | zero =>
      intro j S K h h3 h4
      obtain ⟨K, rfl⟩ : ∃ k, K = k + 1 := ⟨K - 1, by omega⟩
      rw [s_X3_keepDeal_L2, tl_ok h.2.1 ht, sb, h.2.2.2.2.1, if_pos (nI_le (by omega) (by omega))]
      exact ok_some h
    | succ m ih =>
      intro j S K h h3 h4
      obtain ⟨K, rfl⟩ : ∃ k, K = k + 1 := ⟨K - 1, by omega⟩
      have J68 : ∀ v x, Ok (fun S' => IvP S' t N D W) (s_X3_keepDeal_J68 (s_X3_keepDeal_L2 K) (nI j) v (nI j) x S) := by
        intro v x
        rw [s_X3_keepDeal_J68, wa_st (nD135 h.1) (by omega) (by omega), sb]
        have h1 : IvP (st S 135 j x) t N D W := ivp_st h (by omega) (by omega)
        refine ok_ite (fun _ => ?_) (fun _ => ?_)
        · rw [wa_st (nD136 h1.1) (by omega) (by omega), sb, ← nI_succ]
          exact ih _ _ _ (ivp_st h1 (by omega) (by omega)) (by omega) (by omega)
        · rw [ag_ok (nD127 h1.1) (by omega) (by omega), sb, wa_st (nD136 h1.1) (by omega) (by omega), sb, ← nI_succ]
          exact ih _ _ _ (ivp_st h1 (by omega) (by omega)) (by omega) (by omega)
      have J45 : ∀ v, Ok (fun S' => IvP S' t N D W) (s_X3_keepDeal_J45 (s_X3_keepDeal_L2 K) (nI j) v S) := by
        intro v
        rw [s_X3_keepDeal_J45]
        refine ok_ite (fun _ => J68 _ _) (fun _ => ?_)
        rw [ag_ok (nD128 h.1) (by omega) (by omega), sb]
        exact J68 _ _
      rw [s_X3_keepDeal_L2, tl_ok h.2.1 ht, sb, h.2.2.2.2.1, if_neg (nI_ge (by omega) (by omega)), rc_ok h.2.2.1, sb, ag_ok (nD24 h.1) (by omega) (by omega), sb, ag_ok (nD127 h.1) (by omega) (by omega), sb, s_X3_keepDeal_J44]
      exact ok_ite (fun _ => J45 _) (fun _ => ok_ite (fun _ => J45 _) (fun _ => J45 _))
  exact L N 0 S 40 h (by omega) (by omega)
theorem k_consider {S : HS} {t N D W : Nat} (h : IvP S t N D W) (ht : isT t) (h5 : N ≤ 5) (hD : D ≤ 20) (hW : W ≤ 4) : Ok (fun S' => IvP S' t N D W) (s_X3_consider S) := by
  have L : ∀ (m j : Nat) (a : Int32) (K : Nat), j + m = W → m < K → Ok (fun S' => IvP S' t N D W) (s_X3_consider_L4 K a (nI j) S) := by
    intro m
    induction m with
    | zero =>
      intro j a K h3 h4
      obtain ⟨K, rfl⟩ : ∃ k, K = k + 1 := ⟨K - 1, by omega⟩
      rw [s_X3_consider_L4, h.2.2.2.2.2.1, if_pos (nI_le (by omega) (by omega))]
      refine ok_bind k_better (fun q1 _ => ok_ite (fun _ => ok_some h) (fun _ => ?_))
      rw [tl_ok h.2.1 ht, sb, q_standing h.1 mC126 ht h.2.2.2.2.1 h5, sb]
      refine ok_ite (fun _ => ok_some h) (fun _ => ?_)
      rw [rc_ok h.2.2.1, sb, sb, h.2.2.2.1]
      refine ok_call (k_count h.1 mO122 ht mC126 hD h.2.2.2.2.1 h5) (fs_X2_count fr_rf) (fun q5 _ f => ?_)
      have h1 := ivp_cnt h ht f
      refine ok_ite (fun _ => ok_some h1) (fun _ => ?_)
      rw [pf_ok, sb, pf_ok, sb, pf_ok, sb, pf_ok, sb]
      refine ok_bind (k_keepDeal ?_ ht h5) (fun q hq => ok_some hq)
      exact ivp_sf (ivp_sf (ivp_sf (ivp_sf h1 ht (by omega) (fun _ => Or.inr rfl)) ht (by omega) (fun z => by omega)) ht (by omega) (fun z => by omega)) ht (by omega) (fun z => by omega)
    | succ m ih =>
      intro j a K h3 h4
      obtain ⟨K, rfl⟩ : ∃ k, K = k + 1 := ⟨K - 1, by omega⟩
      rw [s_X3_consider_L4, h.2.2.2.2.2.1, if_neg (nI_ge (by omega) (by omega)), ag_ok (nD133 h.1) (by omega) (by omega), sb, ← nI_succ]
      exact ok_ite (fun _ => ih _ _ _ (by omega) (by omega)) (fun _ => ih _ _ _ (by omega) (by omega))
  exact L W 0 _ 40 (by omega) (by omega)
theorem k_gives {S : HS} {t N D W c w : Nat} (h : IvP S t N D W) (ht : isT t) (hc : c < 5) (hw : w < W) (hW : W ≤ 4) : Ok (fun r => IvP r.2 t N D W) (s_X3_gives (nI c) (nI w) S) := by
  have hn := isT_num ht
  obtain ⟨d, hd, ed⟩ := h.2.2.2.2.2.2.2.1 w hw
  obtain ⟨q, hq, eq⟩ := h.2.2.2.2.2.2.2.2 d hd
  have J : ∀ x v5, Ok (fun r => IvP r.2 t N D W) (s_X3_gives_J74 (nI c) (nI w) x (nI q) v5 S) := by
    intro x v5
    have h1 : IvP (layC S 126 t c (nI d) q x) t N D W := ivp_layC h ht
    rw [s_X3_gives_J74, tl_ok h.2.1 ht, sb, ag_ok (nD131 h.1) (by omega) (by omega), sb, ed, w_lay h.1 mC126 ht hc hq, sb, ag_ok (nD133 h1.1) (by omega) (by omega), sb, wa_st (nD133 h1.1) (by omega) (by omega), sb, pf_ok, sb, pf_ok, sb, pf_ok, sb]
    have h2 := fun y z u => ivp_sf (j := 11) (x := u) (ivp_sf (j := 10) (x := z) (ivp_st (k := 133) (i := w) (x := y) h1 (by omega) (by omega)) ht (by omega) (fun z => by omega)) ht (by omega) (fun z => by omega)
    exact ok_ite (fun _ => ok_some (h2 _ _ _)) (fun _ => ok_some (h2 _ _ _))
  rw [s_X3_gives, tl_ok h.2.1 ht, sb, q_top h.1 ht hc, sb, ag_ok (nD133 h.1) (by omega) (by omega), sb, sb, ag_ok (nD131 h.1) (by omega) (by omega), sb, ed, ag_ok (nT7 h.1 ht) hd (by omega), sb, eq, sb, ag_ok (nD129 h.1) (by omega) (by omega), sb, q_barred, sb]
  exact ok_ite (fun _ => ok_ite (fun _ => J _ _) (fun _ => ok_ite (fun _ => J _ _) (fun _ => ok_some h))) (fun _ => ok_some h)
theorem k_takeBack {S : HS} {t N D W c w : Nat} (h : IvP S t N D W) (ht : isT t) (hc : c < 5) (hw : w < W) (hW : W ≤ 4) : Ok (fun r => IvP r t N D W) (s_X3_takeBack (nI c) (nI w) S) := by
  have hn := isT_num ht
  obtain ⟨d, hd, ed⟩ := h.2.2.2.2.2.2.2.1 w hw
  rw [s_X3_takeBack, rc_ok h.2.2.1, sb, ag_ok (nD26 h.1) (by omega) (by omega), sb, ag_ok (nD133 h.1) (by omega) (by omega), sb, ag_ok (nD127 h.1) (by omega) (by omega), sb, wa_st (nD133 h.1) (by omega) (by omega), sb]
  have h1 : ∀ y, IvP (st S 133 w y) t N D W := fun y => ivp_st h (by omega) (by omega)
  rw [w_takeOut (h1 _).1 mC126 hc, sb]
  have h2 := fun y => ivp_toC (c := c) (h1 y) ht
  rw [wa_st (nD129 (h2 _).1) (by omega) (by omega), sb, pf_ok, sb]
  have h3 := fun y u v => ivp_sf (j := 10) (x := v) (ivp_st (k := 129) (i := c) (x := u) (h2 y) (by omega) (by omega)) ht (by omega) (fun z => by omega)
  rw [tl_ok (h3 _ _ _).2.1 ht, sb, sb, ag_ok (nD131 (h3 _ _ _).1) (by omega) (by omega), sb]
  obtain ⟨d, hd, ed⟩ := (h3 _ _ _).2.2.2.2.2.2.2.1 w hw
  rw [ed, ag_ok (nT7 (h3 _ _ _).1 ht) hd (by omega), sb, q_barred, sb, pf_ok, sb, pf_ok, sb]
  exact ok_ite (fun _ => ok_some (ivp_sf (h3 _ _ _) ht (by omega) (fun z => by omega))) (fun _ => ok_some (ivp_sf (h3 _ _ _) ht (by omega) (fun z => by omega)))
theorem k_deal {t N D W : Nat} (ht : isT t) (h5 : N ≤ 5) (hD : D ≤ 20) (hW : W ≤ 4) : ∀ (r c : Nat) (S : HS), IvP S t N D W → c ≤ N → N < r + c → Ok (fun S' => IvP S' t N D W) (s_X3_deal r (nI c) S) := by
  intro r
  induction r with
  | zero =>
    intro c S h hc hr
    omega
  | succ r ih =>
    intro c S h hc hr
    rw [s_X3_deal, s_X3_deal_B]
    refine ok_bind (k_hopeless h hW (by omega)) (fun q1 _ => ok_ite (fun _ => ?_) (fun _ => ok_some h))
    rw [tl_ok h.2.1 ht, sb, h.2.2.2.2.1]
    refine ok_ite (fun z => ?_) (fun _ => ok_bind (k_consider h ht h5 hD hW) (fun q hq => ok_some hq))
    have hcN : c < N := (nI_ltI (by omega) (by omega)).mp z
    have J : ∀ S, IvP S t N D W → Ok (fun S' => IvP S' t N D W) (s_X3_deal_J75 (s_X3_deal r) (nI c) S) := by
      intro S h
      rw [s_X3_deal_J75, ← nI_succ]
      exact ok_bind (ih _ _ h (by omega) (by omega)) (fun q hq => ok_some hq)
    have L : ∀ (m j : Nat) (S : HS) (K : Nat), IvP S t N D W → j + m = W → m < K → Ok (fun S' => IvP S' t N D W) (s_X3_deal_L39 (s_X3_deal r) (nI c) K (nI j) S) := by
      intro m
      induction m with
      | zero =>
        intro j S K h h3 h4
        obtain ⟨K, rfl⟩ : ∃ k, K = k + 1 := ⟨K - 1, by omega⟩
        rw [s_X3_deal_L39, h.2.2.2.2.2.1, if_pos (nI_le (by omega) (by omega))]
        exact J S h
      | succ m ihm =>
        intro j S K h h3 h4
        obtain ⟨K, rfl⟩ : ∃ k, K = k + 1 := ⟨K - 1, by omega⟩
        rw [s_X3_deal_L39, h.2.2.2.2.2.1, if_neg (nI_ge (by omega) (by omega)), ← nI_succ, ← nI_succ]
        refine ok_bind (k_gives h ht (by omega) (by omega) hW) (fun q5 h6 => ok_ite (fun _ => ihm _ _ _ h6 (by omega) (by omega)) (fun _ => ?_))
        refine ok_bind (ih _ _ h6 (by omega) (by omega)) (fun q6 h7 => ?_)
        exact ok_bind (k_takeBack h7 ht (by omega) (by omega) hW) (fun q7 h8 => ihm _ _ _ h8 (by omega) (by omega))
    rw [ag_ok (nD127 h.1) (by omega) (by omega), sb]
    exact ok_ite (fun _ => J S h) (fun _ => L W 0 S 40 h (by omega) (by omega))
def dn (m : Nat) : Int32 := nI m - 1
theorem dn_0 : dn 0 = -1 := by decide
theorem dn_s (m : Nat) : dn (m + 1) = nI m := nI_pred m
theorem dn_add (m : Nat) : nI m + -1 = dn m := by
  unfold dn
  rw [Int32.sub_eq_add_neg]
theorem ivp_add {S : HS} {t N D W d : Nat} {x y : Int32} (h : IvP S t N D W) (ht : isT t) (hW : W < 4) (hd : d < 20) : IvP (sf (st (st (st S 131 W (nI d)) 132 W x) 133 W y) 121 5 (nI (W + 1))) t N D (W + 1) := by
  obtain ⟨a, b, c, e, f, g, g2, p, q⟩ := h
  have hn := isT_num ht
  refine ⟨a.st.st.st.sf, b, c, ?_, ?_, ?_, ?_, ?_, ?_⟩
  · rw [gf_sf, if_neg (by omega)]
    exact e
  · rw [gf_sf, if_neg (by omega)]
    exact f
  · rw [gf_sf, if_pos ⟨rfl, rfl⟩]
  · rw [gf_sf, if_neg (by omega)]
    exact g2
  · intro i hi
    rw [ga_sf, ga_st_ne (by omega), ga_st_ne (by omega), ga_st_eq, gset (by rw [nD131 a]; omega)]
    by_cases z : i = W
    · rw [if_pos z]
      exact ⟨d, hd, rfl⟩
    · rw [if_neg z]
      exact p i (by omega)
  · rw [ga_sf, ga_st_ne (by omega), ga_st_ne (by omega), ga_st_ne (by omega)]
    exact q
theorem k_prepare {S : HS} {t N D : Nat} {v : Int32} (hI : IvD S) (ht : isT t) (h5 : N ≤ 5) (hN : gf S t 1 = nI N) (hD : gf S 22 1 = nI D) (h20 : D ≤ 20) (hv : v = 0 ∨ v = 1) : Ok (fun S' => ∃ W, W ≤ 4 ∧ IvP S' t N D W) (s_X3_prepare t v S) := by
  have hn := isT_num ht
  have L189 : ∀ (W : Nat) (m : Nat) (S : HS) (K : Nat), IvP S t N D W → m ≤ 5 → m < K → Ok (fun S' => IvP S' t N D W) (s_X3_prepare_L189 t K (dn m) S) := by
    intro W m
    induction m with
    | zero =>
      intro S K h h3 h4
      obtain ⟨K, rfl⟩ : ∃ k, K = k + 1 := ⟨K - 1, by omega⟩
      rw [dn_0, s_X3_prepare_L189, if_pos (by decide)]
      exact ok_some h
    | succ m ih =>
      intro S K h h3 h4
      obtain ⟨K, rfl⟩ : ∃ k, K = k + 1 := ⟨K - 1, by omega⟩
      rw [dn_s, s_X3_prepare_L189, if_neg (nI_pos (by omega)), ← nI_succ, ag_ok (nD134 h.1) (by omega) (by omega), sb, ag_ok (nD127 h.1) (by omega) (by omega), sb, dn_add, wa_st (nD134 h.1) (by omega) (by omega), sb, tl_ok h.2.1 ht, sb, q_top h.1 ht (by omega), sb, wa_st (nD134 h.1) (by omega) (by omega), sb]
      exact ok_ite (fun _ => ih _ _ (ivp_st h (by omega) (by omega)) (by omega) (by omega)) (fun _ => ih _ _ (ivp_st h (by omega) (by omega)) (by omega) (by omega))
  have J : ∀ (W : Nat) (S : HS), W ≤ 4 → IvP S t N D W → Ok (fun S' => ∃ W, W ≤ 4 ∧ IvP S' t N D W) (s_X3_prepare_J165 t S) := by
    intro W S hW h
    have h1 : IvP (st S 134 N 0) t N D W := ivp_st h (by omega) (by omega)
    rw [s_X3_prepare_J165, tl_ok h.2.1 ht, sb, h.2.2.2.2.1, wa_st (nD134 h.1) (by omega) (by omega), sb, tl_ok h1.2.1 ht, sb, h1.2.2.2.2.1]
    exact ok_mono (L189 W N _ 40 h1 h5 (by omega)) (fun r hr => ⟨W, hW, hr⟩)
  have L : ∀ (m j W : Nat) (S : HS) (K : Nat), IvP S t N D W → W ≤ 4 → j + m = D → m < K → Ok (fun S' => ∃ W, W ≤ 4 ∧ IvP S' t N D W) (s_X3_prepare_L52 t K (nI j) S) := by
    intro m
    induction m with
    | zero =>
      intro j W S K h hW h3 h4
      obtain ⟨K, rfl⟩ : ∃ k, K = k + 1 := ⟨K - 1, by omega⟩
      rw [s_X3_prepare_L52, rc_ok h.2.2.1, sb, h.2.2.2.1, if_pos (nI_le (by omega) (by omega))]
      exact J W S hW h
    | succ m ih =>
      intro j W S K h hW h3 h4
      obtain ⟨K, rfl⟩ : ∃ k, K = k + 1 := ⟨K - 1, by omega⟩
      rw [s_X3_prepare_L52, rc_ok h.2.2.1, sb, h.2.2.2.1, if_neg (nI_ge (by omega) (by omega)), h.2.2.2.2.2.1]
      refine ok_ite (fun _ => J W S hW h) (fun z => ?_)
      have hW4 : W < 4 := by
        rcases Nat.lt_or_ge W 4 with q | q
        · exact q
        · exact absurd (show (4 : Int32) ≤ nI W from nI_le (a := 4) q (by omega)) z
      rw [sb, tl_ok h.2.1 ht, sb, q_how h.1 ht (by omega), sb, ← nI_succ]
      refine ok_ite (fun _ => ih _ W _ _ h hW (by omega) (by omega)) (fun _ => ?_)
      have hL1 : LnD (st S 131 W (nI j)) := h.1.st
      rw [wa_st (nD131 h.1) hW4 (by omega), sb, gr_st, tl_ok h.2.1 ht, sb, ag_ok (nT8 hL1 ht) (by omega) (by omega), sb, gr_st, rc_ok h.2.2.1, sb, q_loaded (b := 23) (nD24 hL1) (nD25 hL1), sb, gf_st, h.2.2.2.2.2.1, wa_st (nD132 hL1) hW4 (by omega), sb, gf_st, gf_st, h.2.2.2.2.2.1, ag_ok (nD132 hL1.st) (by omega) (by omega), sb, wa_st (nD133 hL1.st) hW4 (by omega), sb, gf_st, gf_st, gf_st, h.2.2.2.2.2.1, pf_ok, sb, ← nI_succ]
      exact ih _ (W + 1) _ _ (ivp_add h ht hW4 (by omega)) (by omega) (by omega) (by omega)
  unfold s_X3_prepare
  have hz : pz (sr (sr S 121 2 (.ref t)) 121 3 (.ref 22)) 121 4 v = some (sf (sr (sr S 121 2 (.ref t)) 121 3 (.ref 22)) 121 4 v) := by
    rcases hv with rfl | rfl <;> rfl
  have hL3 : LnD (sf (sr (sr S 121 2 (.ref t)) 121 3 (.ref 22)) 121 4 v) := hI.1
  rw [pr_ok, sb, pr_ok, sb, hz, sb, rc_ok (by rfl), sb, w_copyC hL3 mC126 mC23 (by omega), sb, pf_ok, sb, pf_ok, sb, pf_ok, sb, pf_ok, sb]
  refine L D 0 0 _ 40 ⟨?_, ?_, ?_, ?_, ?_, ?_, ?_, ?_, ?_⟩ (by omega) (by omega) (by omega)
  · have hc := (iv_cpC (b := 126) (c := 23) hI mC126 mC23).1
    intro k hk
    exact hc k hk
  · rfl
  · rfl
  · exact hD
  · rw [gf_sf, if_neg (by omega), gf_sf, if_neg (by omega), gf_sf, if_neg (by omega), gf_sf, if_neg (by omega)]
    show gf (sf S 121 4 v) t 1 = _
    rw [gf_sf, if_neg (by omega)]
    exact hN
  · rfl
  · exact Or.inl rfl
  · intro i hi
    omega
  · intro i hi
    obtain ⟨_, _, _, q⟩ := hI.2.2.2.2.1 t ht
    obtain ⟨x, hx, ex⟩ := q i hi
    refine ⟨x, hx, ?_⟩
    rw [← ex]
    show (ga (cpC (sf (sr (sr S 121 2 (.ref t)) 121 3 (.ref 22)) 121 4 v) 126 23) (t + 7)).getD i 0 = _
    rw [ga_cpC (by omega)]
    rfl
theorem k_plan {S : HS} {t : Nat} (hI : IvD S) (ht : isT t) : Ok (fun r => (r.1 = 0 ∨ r.1 = 1) ∧ IvD r.2 ∧ Fr wP S r.2) (s_X3_findsPlan t S) := by
  obtain ⟨N, h5, hN⟩ := (hI.2.2.2.2.1 t ht).1
  obtain ⟨D, h20, hD⟩ := hI.2.2.2.2.2.1 22 mS22
  have f := fs_X3_findsPlan (t := t) (S := S) fr_rf
  have k : Ok (fun r : Int32 × HS => r.1 = 0 ∨ r.1 = 1) (s_X3_findsPlan t S) := by
    unfold s_X3_findsPlan
    refine ok_bind (k_prepare hI ht h5 hN hD h20 (Or.inl rfl)) ?_
    rintro S1 ⟨W, hW, h⟩
    refine ok_bind (k_deal ht h5 h20 hW 8 0 S1 h (by omega) (by omega)) (fun S2 h2 => ?_)
    rw [gz_ok h2.2.2.2.2.2.2.1, sb]
    exact ok_some h2.2.2.2.2.2.2.1
  obtain ⟨r, e, hr⟩ := k
  exact ⟨r, e, hr, iv_hi hI (f r e) (fun k j w => by unfold wP at w; omega), f r e⟩
theorem k_fewest {S : HS} {t : Nat} (hI : IvD S) (ht : isT t) : Ok (fun r => IvD r.2 ∧ Fr wP S r.2) (s_X3_fewestWashes t S) := by
  obtain ⟨N, h5, hN⟩ := (hI.2.2.2.2.1 t ht).1
  obtain ⟨D, h20, hD⟩ := hI.2.2.2.2.2.1 22 mS22
  have f := fs_X3_fewestWashes (t := t) (S := S) fr_rf
  have k : Ok (fun r : Int32 × HS => True) (s_X3_fewestWashes t S) := by
    unfold s_X3_fewestWashes
    refine ok_bind (k_prepare hI ht h5 hN hD h20 (Or.inr rfl)) ?_
    rintro S1 ⟨W, hW, h⟩
    refine ok_bind (k_deal ht h5 h20 hW 8 0 S1 h (by omega) (by omega)) (fun S2 h2 => ?_)
    exact ok_ite (fun _ => ok_some trivial) (fun _ => ok_some trivial)
  obtain ⟨r, e, hr⟩ := k
  exact ⟨r, e, iv_hi hI (f r e) (fun k j w => by unfold wP at w; omega), f r e⟩
