/-! the model's queries answer, public ones -/
def SnOk (M : HS) : Prop := ∃ k, k ≤ 10 ∧ gf M 137 14 = nI k ∧ ∀ j, j < k → ∃ N L D, RW (fun i => (ga M 141).getD (157 * j + i) 0) N L D
def w0 (k j : Nat) : Prop := 142 ≤ k ∨ (k = 137 ∧ (j = 0 ∨ j = 21 ∨ j = 26 ∨ j = 27))
theorem SnOk.fr {W : Nat → Nat → Prop} {M M1 : HS} (h : SnOk M) (f : Fr W M M1) (hw : ¬ W 141 99 ∧ ¬ W 137 14) : SnOk M1 := by
  obtain ⟨k, hk, e, r⟩ := h
  refine ⟨k, hk, (f.1 137 14 hw.2).1.trans e, ?_⟩
  rw [f.2.2.1 141 hw.1]
  exact r
theorem iv_w0 {M M1 : HS} (h : IvM M) (f : Fr w0 M M1) : IvM M1 := by
  obtain ⟨a, ⟨N, L, D, b⟩, c⟩ := h
  refine ⟨a.fr f, ⟨N, L, D, ?_⟩, SnOk.fr c f (by unfold w0; omega)⟩
  rw [fM_fr f (by unfold w0; omega)]
  exact b
abbrev GoM (M : HS) (r : Option (Int32 × HS)) : Prop := ∃ v M1, r = some (v, M1) ∧ IvM M1
theorem go_m0 {M : HS} (h : IvM M) : IvM (sf M 137 0 0) := iv_w0 h (fr_sf fr_rf (by unfold w0; omega))
theorem go_i {M M0 : HS} {v : Int32} (h : IvM M0) : GoM M (some (v, M0)) := ⟨v, M0, rfl, h⟩
theorem ok_iteM {M : HS} {c : Prop} [Decidable c] {A B : Option (Int32 × HS)} (g1 : c → GoM M A) (g2 : ¬ c → GoM M B) : GoM M (if c then A else B) := by
  by_cases h : c
  · rw [if_pos h]
    exact g1 h
  · rw [if_neg h]
    exact g2 h
theorem in_iff {v : Int32} {N : Nat} (hN : N ≤ 100) : (∃ c, c < N ∧ v = nI c ∧ s_X8_isIn v 0 (nI N - 1) = some 1) ∨ (s_X8_isIn v 0 (nI N - 1) = some 0 ∧ ∀ c, c < N → v ≠ nI c) := by
  rw [q_isInM]
  by_cases z : v < 0
  · refine Or.inr ⟨by rw [if_neg (fun y => y.1 z)], ?_⟩
    rintro c hc rfl
    exact nI_pos (by omega) z
  · obtain ⟨j, hj, rfl⟩ := nI_of z
    cases N with
    | zero =>
      refine Or.inr ⟨?_, fun c hc => by omega⟩
      rw [if_neg]
      intro y
      apply y.2
      have e : (nI 0 : Int32) - 1 = -1 := by decide
      rw [e]
      refine Int32.lt_of_le_of_ne (Int32.le_trans (by decide) (nI_pos' hj)) ?_
      intro w
      rw [← w] at z
      exact z (by decide)
    | succ n =>
      rw [nI_pred]
      by_cases c : j < n + 1
      · exact Or.inl ⟨j, c, rfl, by rw [if_pos ⟨z, nI_nlt (by omega) (by omega)⟩]⟩
      · refine Or.inr ⟨by rw [if_neg (fun y => y.2 (nI_lt (by omega) (by omega)))], ?_⟩
        intro d hd e
        have := (nI_eq hj (by omega)).mp e
        omega
theorem q_isHold {M : HS} {N L D : Nat} {v : Int32} (hL : LnM M) (h : RW (fM M) N L D) : (∃ c, c < N ∧ v = nI c ∧ s_X8_isHold v M = some 1) ∨ (s_X8_isHold v M = some 0 ∧ ∀ c, c < N → v ≠ nI c) := by
  have h5 := h.1
  unfold s_X8_isHold
  rw [m_at hL (x := 9) (i := 9) rfl (by omega), sb, h.2.2.2.1]
  rcases in_iff (v := v) (N := N) (by omega) with ⟨c, hc, e, g⟩ | ⟨g, hc⟩
  · exact Or.inl ⟨c, hc, e, by rw [g]; rfl⟩
  · exact Or.inr ⟨by rw [g]; rfl, hc⟩
theorem q_isLiq {M : HS} {N L D : Nat} {v : Int32} (hL : LnM M) (h : RW (fM M) N L D) : (∃ c, c < L ∧ v = nI c ∧ s_X8_isLiquid v M = some 1) ∨ (s_X8_isLiquid v M = some 0 ∧ ∀ c, c < L → v ≠ nI c) := by
  have h5 := h.2.1
  unfold s_X8_isLiquid
  rw [m_at hL (x := 10) (i := 10) rfl (by omega), sb, h.2.2.2.2.1]
  rcases in_iff (v := v) (N := L) (by omega) with ⟨c, hc, e, g⟩ | ⟨g, hc⟩
  · exact Or.inl ⟨c, hc, e, by rw [g]; rfl⟩
  · exact Or.inr ⟨by rw [g]; rfl, hc⟩
theorem q_isDrp {M : HS} {N L D : Nat} {v : Int32} (hL : LnM M) (h : RW (fM M) N L D) : (∃ c, c < D ∧ v = nI c ∧ s_X8_isDrop v M = some 1) ∨ (s_X8_isDrop v M = some 0 ∧ ∀ c, c < D → v ≠ nI c) := by
  have h5 := h.2.2.1
  unfold s_X8_isDrop
  rw [m_at hL (x := 13) (i := 13) rfl (by omega), sb, h.2.2.2.2.2.1]
  rcases in_iff (v := v) (N := D) (by omega) with ⟨c, hc, e, g⟩ | ⟨g, hc⟩
  · exact Or.inl ⟨c, hc, e, by rw [g]; rfl⟩
  · exact Or.inr ⟨by rw [g]; rfl, hc⟩
theorem k_bars {M : HS} (hL : LnM M) : ∃ v, s_X8_bars M = some v := by
  have l4 : ∀ (m a : Nat) (x : Int32) (K : Nat), a + m = 6 → m < K → ∃ v, s_X8_bars_L4 M K x (nI a) = some v := by
    intro m
    induction m with
    | zero =>
      intro a x K h1 h2
      obtain ⟨K, rfl⟩ : ∃ k, K = k + 1 := ⟨K - 1, by omega⟩
      rw [s_X8_bars_L4, if_pos (show (6 : Int32) ≤ nI a from nI_le (a := 6) (by omega) (by omega))]
      exact ⟨_, rfl⟩
    | succ m ih =>
      intro a x K h1 h2
      obtain ⟨K, rfl⟩ : ∃ k, K = k + 1 := ⟨K - 1, by omega⟩
      have l12 : ∀ (p b : Nat) (x : Int32) (K2 : Nat), b + p = 6 → p < K2 → ∃ v, s_X8_bars_L12 (s_X8_bars_L4 M K) (nI a) M K2 x (nI b) = some v := by
        intro p
        induction p with
        | zero =>
          intro b x K2 g1 g2
          obtain ⟨K2, rfl⟩ : ∃ k, K2 = k + 1 := ⟨K2 - 1, by omega⟩
          rw [s_X8_bars_L12, if_pos (show (6 : Int32) ≤ nI b from nI_le (a := 6) (by omega) (by omega)), ← nI_succ]
          exact ih (a + 1) x K (by omega) (by omega)
        | succ p ihp =>
          intro b x K2 g1 g2
          obtain ⟨K2, rfl⟩ : ∃ k, K2 = k + 1 := ⟨K2 - 1, by omega⟩
          rw [s_X8_bars_L12, if_neg (show ¬ (6 : Int32) ≤ nI b from nI_ge (b := 6) (by omega) (by omega)), show (21 : Int32) + nI a = nI (21 + a) from nI_add 21 a, m_at hL rfl (by omega), sb, q_has, sb, ← nI_succ]
          exact ex_ite (ihp _ _ _ (by omega) (by omega)) (ihp _ _ _ (by omega) (by omega))
      rw [s_X8_bars_L4, if_neg (show ¬ (6 : Int32) ≤ nI a from nI_ge (b := 6) (by omega) (by omega))]
      exact l12 6 0 x 40 (by omega) (by omega)
  exact l4 6 0 0 40 (by omega) (by omega)
theorem b_fault {M : HS} (h : IvM M) : GoM M (s_X8_fault M) := by
  unfold s_X8_fault
  rw [pf_ok, sb]
  exact go_i (go_m0 h)
theorem b_now {M : HS} {v : Int32} (h : IvM M) : GoM M (s_X8_now v M) := by
  have h0 := go_m0 h
  obtain ⟨hL, ⟨N, L, D, hR⟩, _⟩ := h0
  obtain ⟨M1, e1, f1, p1, _⟩ := k_laysNow hL hR
  have hf : fM M1 = fM (sf M 137 0 0) := fM_fr f1 (by unfold wN; omega)
  have hL1 : LnM M1 := LnM.fr (S := sf M 137 0 0) hL f1
  have hR1 : RW (fM M1) N L D := by rw [hf]; exact hR
  have i1 : IvM M1 := iv_w0 (go_m0 h) (fr_tr fr_rf f1 (fun k j z => by unfold wN at z; unfold w0; omega))
  obtain ⟨a, ea⟩ := k_bars hL1
  obtain ⟨b, eb⟩ := k_front (g := 0) hL1 hR1 p1
  obtain ⟨c, ec⟩ := k_rear (g := 0) hL1 hR1 p1
  obtain ⟨d, ed⟩ := k_stands (g := 0) hL1 hR1 p1
  have g : ∀ x : Int32, GoM M (some (x, M1)) := fun x => go_i i1
  unfold s_X8_now
  rw [pf_ok, sb, e1, sb, ea, sb, eb, sb, ec, sb, ed, sb, m_at hL1 (x := 9) (i := 9) rfl (by omega), sb, m_at hL1 (x := 10) (i := 10) rfl (by omega), sb, m_at hL1 (x := 13) (i := 13) rfl (by omega), sb, m_at hL1 (x := 14) (i := 14) rfl (by omega), sb]
  exact ok_iteM (fun _ => g _) (fun _ => ok_iteM (fun _ => g _) (fun _ => ok_iteM (fun _ => g _) (fun _ => ok_iteM (fun _ => g _) (fun _ => ok_iteM (fun _ => g _) (fun _ => ok_iteM (fun _ => g _) (fun _ => ok_iteM (fun _ => g _) (fun _ => ok_iteM (fun _ => g _) (fun _ => ok_iteM (fun _ => g _) (fun _ => ok_iteM (fun _ => g _) (fun _ => g _))))))))))
theorem b_compartment {M : HS} {v w : Int32} (h : IvM M) : GoM M (s_X8_compartment v w M) := by
  have h0 := go_m0 h
  obtain ⟨hL, ⟨N, L, D, hR⟩, _⟩ := h0
  have h5 := hR.1
  have g : ∀ x : Int32, GoM M (some (x, sf M 137 0 0)) := fun x => go_i (go_m0 h)
  unfold s_X8_compartment
  rw [pf_ok, sb]
  rcases q_isHold (v := v) hL hR with ⟨c, hc, rfl, e⟩ | ⟨e, _⟩
  · obtain ⟨u, eu, _⟩ := k_lastIn hL hR (show c < 5 by omega)
    have J : ∀ k : Nat, k < 6 → GoM M (s_X8_compartment_J60 (nI c) (nI k) (sf M 137 0 0)) := by
      intro k hk
      unfold s_X8_compartment_J60
      rw [q_holds hL (by omega) (x := nI k) (k := k) hk rfl, sb]
      exact g _
    rw [e, sb, if_pos (by decide), q_mtop hL (by omega), sb, q_holds hL (by omega) (x := 3) (k := 3) (by omega) rfl, sb, q_holds hL (by omega) (x := 4) (k := 4) (by omega) rfl, sb, eu, sb]
    refine ok_iteM (fun z => ?_) (fun _ => ok_iteM (fun z => ?_) (fun _ => ok_iteM (fun z => ?_) (fun _ => ok_iteM (fun _ => g _) (fun _ => ok_iteM (fun _ => g _) (fun _ => ok_iteM (fun _ => g _) (fun _ => ok_iteM (fun _ => g _) (fun _ => g _)))))))
    · rw [z]
      exact J 0 (by omega)
    · rw [z]
      exact J 1 (by omega)
    · rw [z]
      exact J 2 (by omega)
  · rw [e, sb, if_neg (by decide)]
    exact g _
theorem b_drop {M : HS} {v w : Int32} (h : IvM M) : GoM M (s_X8_drop v w M) := by
  have h0 := go_m0 h
  obtain ⟨hL, ⟨N, L, D, hR⟩, _⟩ := h0
  have h5 := hR.2.2.1
  have g : ∀ x : Int32, GoM M (some (x, sf M 137 0 0)) := fun x => go_i (go_m0 h)
  have g1 : ∀ x : Int32, GoM M (some (x, sf (sf M 137 0 0) 137 0 1)) := fun x => go_i (iv_w0 h (fr_sf (fr_sf fr_rf (by unfold w0; omega)) (by unfold w0; omega)))
  unfold s_X8_drop
  rw [pf_ok, sb]
  rcases q_isDrp (v := v) hL hR with ⟨c, hc, rfl, e⟩ | ⟨e, _⟩
  · obtain ⟨u, eu⟩ := k_mloaded (x := nI c) hL hR
    rw [e, sb, if_neg (by decide), eu, sb]
    rcases in_iff (v := w) (N := 6) (by omega) with ⟨k, hk, rfl, ek⟩ | ⟨ek, _⟩
    · rw [(show s_X8_isIn (nI k) 0 5 = some 1 from ek), sb, if_pos (by decide)]
      by_cases k2 : k = 2
      · rw [k2, if_neg (fun z => z rfl)]
        exact g _
      · rw [if_pos (nI_nec (x := 2) 2 rfl (by omega) (by omega) k2)]
        by_cases k3 : 2 ≤ k
        · rw [if_pos (show (2 : Int32) ≤ nI k from nI_le (a := 2) k3 (by omega))]
          obtain ⟨k, rfl⟩ : ∃ i, k = i + 1 := ⟨k - 1, by omega⟩
          rw [nI_pred, q_its hL (by omega) (x := nI k) (k := k) (by omega) rfl, sb]
          exact g _
        · rw [if_neg (show ¬ (2 : Int32) ≤ nI k from nI_ge (b := 2) (by omega) (by omega)), q_its hL (by omega) (x := nI k) (k := k) (by omega) rfl, sb]
          exact g _
    · rw [(show s_X8_isIn w 0 5 = some 0 from ek), sb, if_neg (by decide)]
      unfold s_X8_refuse
      rw [pf_ok, sb, sb]
      exact g1 _
  · rw [e, sb, if_pos rfl]
    unfold s_X8_refuse
    rw [pf_ok, sb, sb]
    exact g1 _
theorem b_may {M : HS} {v w : Int32} (h : IvM M) : GoM M (s_X8_may v w M) := by
  have h0 := go_m0 h
  obtain ⟨hL, ⟨N, L, D, hR⟩, _⟩ := h0
  have h5 := hR.1
  have g : ∀ x : Int32, GoM M (some (x, sf M 137 0 0)) := fun x => go_i (go_m0 h)
  unfold s_X8_may
  rw [pf_ok, sb]
  rcases q_isHold (v := v) hL hR with ⟨c, hc, rfl, e⟩ | ⟨e, _⟩
  · rw [e, sb, if_neg (by decide)]
    rcases q_isLiq (v := w) hL hR with ⟨q, hq, rfl, e⟩ | ⟨e, _⟩
    · obtain ⟨u, eu⟩ := k_mayCome (x := nI q) (w := 0) hL hR (show c < 5 by omega)
      rw [e, sb, if_neg (by decide), eu, sb]
      exact ok_iteM (fun _ => g _) (fun _ => g _)
    · rw [e, sb, if_pos rfl]
      exact g _
  · rw [e, sb, if_pos rfl]
    exact g _
theorem b_would {M : HS} {v w x : Int32} (h : IvM M) : GoM M (s_X8_would v w x M) := by
  have h0 := go_m0 h
  obtain ⟨hL, ⟨N, L, D, hR⟩, _⟩ := h0
  have h5 := hR.1
  have h6 := hR.2.1
  have g : ∀ x : Int32, GoM M (some (x, sf M 137 0 0)) := fun x => go_i (go_m0 h)
  unfold s_X8_would
  rw [pf_ok, sb]
  rcases q_isHold (v := v) hL hR with ⟨c, hc, rfl, e⟩ | ⟨e, _⟩
  · rw [e, sb, if_neg (by decide)]
    rcases q_isLiq (v := w) hL hR with ⟨q, hq, rfl, e⟩ | ⟨e, _⟩
    · rw [e, sb, if_neg (by decide), q_holds hL (by omega) (x := 0) (k := 0) (by omega) rfl, sb, q_isInM, sb]
      refine ok_iteM (fun _ => ?_) (fun _ => g _)
      obtain ⟨M1, e1, f1, p1, _⟩ := k_laysNow hL hR
      have hL1 : LnM M1 := LnM.fr (S := sf M 137 0 0) hL f1
      rw [e1, sb, wa_st (nM142 hL1) (by omega) (by omega), sb, wa_st (nM143 hL1.st) (by omega) (by omega), sb, wa_st (nM144 hL1.st.st) (by omega) (by omega), sb]
      have hf : fM (st (st (st M1 142 c x) 143 c (nI q)) 144 c (-1)) = fM (sf M 137 0 0) := by
        rw [← fM_fr f1 (by unfold wN; omega)]
        unfold fM
        rw [ga_st_ne (by omega), ga_st_ne (by omega), ga_st_ne (by omega)]
      have hp : PQ (st (st (st M1 142 c x) 143 c (nI q)) 144 c (-1)) N := by
        intro i hi
        rw [gd_st (by omega)]
        by_cases z : i = c
        · subst z
          rw [gd_st_eq (nM143 hL1.st) (by omega)]
          exact ⟨q, by omega, rfl⟩
        · rw [gd_st (by omega), gd_st (by omega)]
          exact p1 i hi
      obtain ⟨u, eu⟩ := k_stands (M := st (st (st M1 142 c x) 143 c (nI q)) 144 c (-1)) (g := 0) hL1.st.st.st (by rw [hf]; exact hR) hp
      rw [eu, sb]
      refine go_i (iv_w0 (go_m0 h) ?_)
      exact fr_st (fr_st (fr_st (fr_tr fr_rf f1 (fun k j z => by unfold wN at z; unfold w0; omega)) (by unfold w0; omega)) (by unfold w0; omega)) (by unfold w0; omega)
    · rw [e, sb, if_pos rfl]
      exact g _
  · rw [e, sb, if_pos rfl]
    exact g _
theorem b_orders {M : HS} (h : IvM M) : GoM M (s_X8_orders M) := by
  have h0 := go_m0 h
  obtain ⟨hL, ⟨N, L, D, hR⟩, _⟩ := h0
  obtain ⟨v, M1, a, M2, e1, e2, e3, f1, f2, _⟩ := k_now_ord hL hR
  unfold s_X8_orders
  rw [pf_ok, sb, e1, sb, e2, sb, e3, sb]
  exact go_i (iv_w0 (go_m0 h) (fr_tr (fr_tr fr_rf f1 (fun k j z => by unfold wN at z; unfold w0; omega)) f2 (fun k j z => by unfold wQ at z; unfold w0; omega)))
theorem b_ordered {M : HS} {x : Int32} (h : IvM M) : GoM M (s_X8_ordered x M) := by
  have h0 := go_m0 h
  obtain ⟨hL, ⟨N, L, D, hR⟩, _⟩ := h0
  obtain ⟨v, M1, a, M2, e1, e2, e3, f1, f2, hF⟩ := k_now_ord hL hR
  have i2 : IvM M2 := iv_w0 (go_m0 h) (fr_tr (fr_tr fr_rf f1 (fun k j z => by unfold wN at z; unfold w0; omega)) f2 (fun k j z => by unfold wQ at z; unfold w0; omega))
  unfold s_X8_ordered
  rw [pf_ok, sb, e1, sb, e2, sb, e3, sb]
  dsimp only
  rcases hF with hF | ⟨n, hn, hF⟩
  · rw [hF, q_isInM, sb]
    by_cases z : ¬ x < 0 ∧ ¬ (-1 : Int32) - 1 < x
    · exfalso
      apply z.2
      obtain ⟨j, hj, rfl⟩ := nI_of z.1
      refine Int32.lt_of_lt_of_le ?_ (nI_pos' hj)
      decide
    · rw [if_neg z, if_pos rfl]
      exact go_i i2
  · rw [hF]
    rcases in_iff (v := x) (N := n) (by omega) with ⟨c, hc, rfl, e⟩ | ⟨e, _⟩
    · rw [e, sb, if_neg (by decide), ag_ok (nM145 i2.1) (by omega) (by omega), sb]
      exact go_i i2
    · rw [e, sb, if_pos rfl]
      exact go_i i2
theorem b_without {M : HS} {v : Int32} (h : IvM M) : GoM M (s_X8_without v M) := by
  have h0 := go_m0 h
  obtain ⟨hL, ⟨N, L, D, hR⟩, _⟩ := h0
  have h5 := hR.2.2.1
  have g : ∀ x : Int32, GoM M (some (x, sf M 137 0 0)) := fun x => go_i (go_m0 h)
  unfold s_X8_without
  rw [pf_ok, sb]
  rcases q_isDrp (v := v) hL hR with ⟨c, hc, rfl, e⟩ | ⟨e, _⟩
  · rw [e, sb, if_neg (by decide), q_its hL (by omega) (x := 2) (k := 2) (by omega) rfl, sb]
    refine ok_iteM (fun _ => ?_) (fun _ => g _)
    obtain ⟨M1, e1, f1, p1, _⟩ := k_laysNow hL hR
    have hL1 : LnM M1 := LnM.fr (S := sf M 137 0 0) hL f1
    obtain ⟨u, eu⟩ := k_stands (g := (1 : Int32) <<< (nI c &&& (31 : Int32))) hL1 (by rw [fM_fr f1 (by unfold wN; omega)]; exact hR) p1
    rw [e1, sb, eu, sb]
    exact go_i (iv_w0 (go_m0 h) (fr_tr fr_rf f1 (fun k j z => by unfold wN at z; unfold w0; omega)))
  · rw [e, sb, if_pos rfl]
    exact g _
theorem b_plan {M : HS} {v : Int32} (h : IvM M) : GoM M (s_X8_plan v M) := by
  have h0 := go_m0 h
  obtain ⟨hL, ⟨N, L, D, hR⟩, _⟩ := h0
  have h5 := hR.1
  obtain ⟨M1, e1, f1, _⟩ := k_laysPlan (w := 0) hL hR
  have i1 : IvM M1 := iv_w0 (go_m0 h) (fr_tr fr_rf f1 (fun k j z => by unfold wM at z; unfold w0; omega))
  have g : ∀ x : Int32, GoM M (some (x, sf M 137 0 0)) := fun x => go_i (go_m0 h)
  have J52 : ∀ x : Int32, ((v = 0 ∨ v = 1) ∨ ∃ c, c < 5 ∧ x = nI c) → GoM M (s_X8_plan_J52 v x (sf M 137 0 0)) := by
    intro x hx
    unfold s_X8_plan_J52
    rw [e1, sb]
    refine ok_iteM (fun _ => ok_iteM (fun z0 => ok_iteM (fun z1 => ?_) (fun _ => go_i i1)) (fun _ => go_i i1)) (fun _ => go_i i1)
    rcases hx with hx | ⟨c, hc, rfl⟩
    · rcases hx with hx | hx
      · exact absurd hx z0
      · exact absurd hx z1
    · rw [ag_ok (nM150 i1.1) hc (by omega), sb, ag_ok (nM149 i1.1) hc (by omega), sb]
      exact ok_iteM (fun _ => go_i i1) (fun _ => go_i i1)
  have J22 : ∀ x : Int32, GoM M (s_X8_plan_J22 v x (sf M 137 0 0)) := by
    intro x
    unfold s_X8_plan_J22
    rcases in_iff (v := v) (N := 2) (by omega) with ⟨c, hc, hv, e⟩ | ⟨e, _⟩
    · rw [(show s_X8_isIn v 0 1 = some 1 from e), sb, if_pos (by decide)]
      refine J52 x (Or.inl ?_)
      rcases (show c = 0 ∨ c = 1 by omega) with rfl | rfl
      · exact Or.inl hv
      · exact Or.inr hv
    · rw [(show s_X8_isIn v 0 1 = some 0 from e), sb, if_neg (by decide), q_isInM, sb]
      refine ok_iteM (fun _ => g _) (fun _ => ?_)
      rcases q_isHold (v := x) hL hR with ⟨c, hc, hx, e⟩ | ⟨e, _⟩
      · rw [e, sb, if_pos (by decide)]
        exact J52 x (Or.inr ⟨c, by omega, hx⟩)
      · rw [e, sb, if_neg (by decide)]
        exact g _
  unfold s_X8_plan
  rw [pf_ok, sb]
  exact ok_iteM (fun _ => J22 _) (fun _ => J22 _)
theorem b_washes {M : HS} (h : IvM M) : GoM M (s_X8_washes M) := by
  have h0 := go_m0 h
  obtain ⟨hL, ⟨N, L, D, hR⟩, _⟩ := h0
  have h5 := hR.1
  have L46 : ∀ (m s : Nat) (x y : Int32) (M' : HS) (K : Nat), s + m = 32 → m < K → IvM M' → GoM M (s_X8_washes_L46 y K x (nI s) M') := by
    intro m
    induction m with
    | zero =>
      intro s x y M' K h1 h2 i'
      obtain ⟨K, rfl⟩ : ∃ k, K = k + 1 := ⟨K - 1, by omega⟩
      rw [s_X8_washes_L46, if_pos (show (32 : Int32) ≤ nI s from nI_le (a := 32) (by omega) (by omega))]
      exact go_i i'
    | succ m ih =>
      intro s x y M' K h1 h2 i'
      obtain ⟨K, rfl⟩ : ∃ k, K = k + 1 := ⟨K - 1, by omega⟩
      have nx : ∀ (x : Int32) (M' : HS), IvM M' → GoM M (s_X8_washes_L46 y K x (nI (s + 1)) M') := fun x M' i' => ih (s + 1) x y M' K (by omega) (by omega) i'
      have J : ∀ z : Int32, GoM M (s_X8_washes_J105 (s_X8_washes_L46 y K) y x (nI s) z M') := by
        intro z
        have i0 := i'
        obtain ⟨hL', ⟨N', L', D', hR'⟩, _⟩ := i0
        obtain ⟨M1, e1, f1, _⟩ := k_laysPlan (w := nI s) hL' hR'
        have i1 : IvM M1 := iv_w0 i' (fr_tr fr_rf f1 (fun k j z => by unfold wM at z; unfold w0; omega))
        obtain ⟨u, eu⟩ := k_having (M := M1) (x := 0) i1.1 (by rw [fM_fr f1 (by unfold wM; omega)]; exact hR')
        unfold s_X8_washes_J105
        rw [e1, sb, eu, sb, ← nI_succ]
        exact ok_iteM (fun _ => nx _ _ i1) (fun _ => nx _ _ i1)
      have L58 : ∀ (p c : Nat) (z : Int32) (K2 : Nat), c + p = 5 → p < K2 → GoM M (s_X8_washes_L58 (s_X8_washes_L46 y K) y x (nI s) K2 z (nI c) M') := by
        intro p
        induction p with
        | zero =>
          intro c z K2 g1 g2
          obtain ⟨K2, rfl⟩ : ∃ k, K2 = k + 1 := ⟨K2 - 1, by omega⟩
          rw [s_X8_washes_L58, if_pos (show (5 : Int32) ≤ nI c from nI_le (a := 5) (by omega) (by omega)), ← nI_succ]
          exact ok_iteM (fun _ => nx _ _ i') (fun _ => ok_iteM (fun _ => J _) (fun _ => ok_iteM (fun _ => J _) (fun _ => nx _ _ i')))
        | succ p ihp =>
          intro c z K2 g1 g2
          obtain ⟨K2, rfl⟩ : ∃ k, K2 = k + 1 := ⟨K2 - 1, by omega⟩
          rw [s_X8_washes_L58, if_neg (show ¬ (5 : Int32) ≤ nI c from nI_ge (b := 5) (by omega) (by omega)), q_has, sb, ← nI_succ]
          exact ok_iteM (fun _ => ihp _ _ _ (by omega) (by omega)) (fun _ => ihp _ _ _ (by omega) (by omega))
      rw [s_X8_washes_L46, if_neg (show ¬ (32 : Int32) ≤ nI s from nI_ge (b := 32) (by omega) (by omega))]
      exact L58 5 0 0 40 (by omega) (by omega)
  have L9 : ∀ (m c : Nat) (x : Int32) (K : Nat), c + m = N → m < K → GoM M (s_X8_washes_L9 K x (nI c) (sf M 137 0 0)) := by
    intro m
    induction m with
    | zero =>
      intro c x K h1 h2
      obtain ⟨K, rfl⟩ : ∃ k, K = k + 1 := ⟨K - 1, by omega⟩
      rw [s_X8_washes_L9, m_at hL (x := 9) (i := 9) rfl (by omega), sb, hR.2.2.2.1, if_pos (nI_le (by omega) (by omega))]
      exact L46 32 0 (-2) x _ 40 (by omega) (by omega) (go_m0 h)
    | succ m ih =>
      intro c x K h1 h2
      obtain ⟨K, rfl⟩ : ∃ k, K = k + 1 := ⟨K - 1, by omega⟩
      rw [s_X8_washes_L9, m_at hL (x := 9) (i := 9) rfl (by omega), sb, hR.2.2.2.1, if_neg (nI_ge (by omega) (by omega)), q_holds hL (by omega) (x := 4) (k := 4) (by omega) rfl, sb, ← nI_succ]
      exact ok_iteM (fun _ => ih _ _ _ (by omega) (by omega)) (fun _ => ih _ _ _ (by omega) (by omega))
  unfold s_X8_washes
  rw [pf_ok, sb]
  exact L9 N 0 0 40 (by omega) (by omega)
