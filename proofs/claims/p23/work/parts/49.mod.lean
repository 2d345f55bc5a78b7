/-! the model answers: its row as it stands -/
def fM (M : HS) (i : Nat) : Int32 := (ga M 139).getD i 0
def RW (f : Nat → Int32) (N L D : Nat) : Prop := N ≤ 5 ∧ L ≤ 6 ∧ D ≤ 20 ∧ f 9 = nI N ∧ f 10 = nI L ∧ f 13 = nI D ∧ (∀ c, c < 5 → ∃ n, n ≤ 20 ∧ f (31 + 6 * c) = nI n) ∧ (∀ c, c < 5 → ∃ n, n ≤ 6 ∧ f (32 + 6 * c) = nI n) ∧ (∀ d, d < 20 → ∃ q, q < 6 ∧ f (57 + 5 * d) = nI q) ∧ (∀ d, d < 20 → f (59 + 5 * d) = 1 → ∃ c, c < N ∧ f (31 + 6 * c) = nI (d + 1))
def IvM (M : HS) : Prop := LnM M ∧ (∃ N L D, RW (fM M) N L D) ∧ ∃ k, k ≤ 10 ∧ gf M 137 14 = nI k ∧ ∀ j, j < k → ∃ N L D, RW (fun i => (ga M 141).getD (157 * j + i) 0) N L D
theorem RW.of {f g : Nat → Int32} {N L D : Nat} (h : RW f N L D) (e : ∀ i, i < 157 → g i = f i) : RW g N L D := by
  obtain ⟨h1, h2, h3, a, b, c, d, i, j, k⟩ := h
  refine ⟨h1, h2, h3, by rw [e _ (by omega)]; exact a, by rw [e _ (by omega)]; exact b, by rw [e _ (by omega)]; exact c, fun x hx => ?_, fun x hx => ?_, fun x hx => ?_, fun x hx hz => ?_⟩
  · rw [e _ (by omega)]
    exact d x hx
  · rw [e _ (by omega)]
    exact i x hx
  · rw [e _ (by omega)]
    exact j x hx
  · rw [e _ (by omega)] at hz
    obtain ⟨y, hy, ey⟩ := k x hx hz
    refine ⟨y, hy, ?_⟩
    rw [e _ (by omega)]
    exact ey
def mI9 (M : HS) (x : Int32) (i : Nat) : Prop := ag (ga M 139) x = some (fM M i)
theorem m_at {M : HS} {x : Int32} {i : Nat} (h : LnM M) (hx : x = nI i) (hi : i < 157) : ag (ga M 139) x = some (fM M i) := by
  rw [hx]
  exact ag_ok (nM139 h) hi (by omega)
theorem q_holds {M : HS} {c k : Nat} {x : Int32} (h : LnM M) (hc : c < 5) (hk : k < 6) (hx : x = nI k) : s_X8_holds (nI c) x M = some (fM M (27 + k + 6 * c)) := by
  unfold s_X8_holds
  rw [hx, ix_k, m_at h rfl (by omega), sb]
theorem q_its {M : HS} {d k : Nat} {x : Int32} (h : LnM M) (hd : d < 20) (hk : k < 5) (hx : x = nI k) : s_X8_its (nI d) x M = some (fM M (57 + k + 5 * d)) := by
  unfold s_X8_its
  rw [hx, id_k, m_at h rfl (by omega), sb]
def hasB (x y : Int32) : Bool := decide (((x >>> (y &&& (31 : Int32))) &&& (1 : Int32)) = 1)
theorem q_has {x y : Int32} : s_X8_has x y = some (z1 (hasB x y)) := by
  unfold s_X8_has hasB z1
  by_cases c : ((x >>> (y &&& (31 : Int32))) &&& (1 : Int32)) = 1
  · rw [if_neg (fun z => z c), decide_eq_true c]
    rfl
  · rw [if_pos c, decide_eq_false c]
    rfl
theorem fM_fr {W : Nat → Nat → Prop} {M M1 : HS} (f : Fr W M M1) (hw : ¬ W 139 99) : fM M1 = fM M := by
  unfold fM
  rw [f.2.2.1 139 hw]
def PQ (M : HS) (N : Nat) : Prop := ∀ c, c < N → ∃ q, q < 6 ∧ (ga M 143).getD c 0 = nI q
/-- what lies now, on paper -/
theorem k_laysNow {M : HS} {N L D : Nat} (hL : LnM M) (h : RW (fM M) N L D) : ∃ M', s_X8_laysNow M = some M' ∧ Fr wN M M' ∧ PQ M' N ∧ (∀ c, c < N → (ga M' 144).getD c 0 = fM M (31 + 6 * c) - 1) := by
  have lp : ∀ (m j : Nat) (M' : HS) (K : Nat), j + m = N → m < K → LnM M' → fM M' = fM M → (∀ c, c < j → ∃ q, q < 6 ∧ (ga M' 143).getD c 0 = nI q) → (∀ c, c < j → (ga M' 144).getD c 0 = fM M (31 + 6 * c) - 1) → ∃ M'', s_X8_laysNow_L2 K (nI j) M' = some M'' ∧ PQ M'' N ∧ (∀ c, c < N → (ga M'' 144).getD c 0 = fM M (31 + 6 * c) - 1) := by
    intro m
    induction m with
    | zero =>
      intro j M' K h1 h2 hL' hf h3 h4
      obtain ⟨K, rfl⟩ : ∃ k, K = k + 1 := ⟨K - 1, by omega⟩
      refine ⟨M', ?_, fun c hc => h3 c (by omega), fun c hc => h4 c (by omega)⟩
      rw [s_X8_laysNow_L2, m_at hL' (x := 9) (i := 9) rfl (by omega), sb, hf, h.2.2.2.1, if_pos (nI_le (by omega) (by have := h.1; omega))]
    | succ m ih =>
      intro j M' K h1 h2 hL' hf h3 h4
      obtain ⟨K, rfl⟩ : ∃ k, K = k + 1 := ⟨K - 1, by omega⟩
      have h5 := h.1
      obtain ⟨o, ho, eo⟩ := h.2.2.2.2.2.2.1 j (by omega)
      rw [s_X8_laysNow_L2, m_at hL' (x := 9) (i := 9) rfl (by omega), sb, hf, h.2.2.2.1, if_neg (nI_ge (by omega) (by omega)), q_holds hL' (by omega) (x := 3) (k := 3) (by omega) rfl, sb, wa_st (nM142 hL') (by omega) (by omega), sb, q_holds hL'.st (by omega) (x := 4) (k := 4) (by omega) rfl, sb]
      have hf1 : ∀ x, fM (st M' 142 j x) = fM M := fun x => by
        unfold fM
        rw [ga_st_ne (by omega)]
        exact hf
      rw [hf1, hf, wa_st (nM144 hL'.st) (by omega) (by omega), sb, ag_ok (nM144 hL'.st.st) (by omega) (by omega), sb, gd_st_eq (nM144 hL'.st) (by omega), sb, ← nI_succ]
      have nx : ∀ (q : Nat), q < 6 → ∃ M'', s_X8_laysNow_L2 K (nI (j + 1)) (st (st (st M' 142 j (fM M (27 + 3 + 6 * j))) 144 j (fM M (27 + 4 + 6 * j) - 1)) 143 j (nI q)) = some M'' ∧ PQ M'' N ∧ (∀ c, c < N → (ga M'' 144).getD c 0 = fM M (31 + 6 * c) - 1) := by
        intro q hq
        refine ih (j + 1) _ K (by omega) (by omega) hL'.st.st.st ?_ ?_ ?_
        · unfold fM
          rw [ga_st_ne (by omega), ga_st_ne (by omega), ga_st_ne (by omega)]
          exact hf
        · intro c hc
          by_cases z : c = j
          · subst z
            rw [gd_st_eq (nM143 hL'.st.st) (by omega)]
            exact ⟨q, hq, rfl⟩
          · rw [gd_st (by omega), gd_st (by omega), gd_st (by omega)]
            exact h3 c (by omega)
        · intro c hc
          rw [gd_st (by omega)]
          by_cases z : c = j
          · subst z
            rw [gd_st_eq (nM144 hL'.st) (by omega)]
          · rw [gd_st (by omega), gd_st (by omega)]
            exact h4 c (by omega)
      by_cases z : fM M (27 + 4 + 6 * j) - 1 = -1
      · rw [if_neg (fun y => y z), (show wa (st (st M' 142 j (fM M (27 + 3 + 6 * j))) 144 j (fM M (27 + 4 + 6 * j) - 1)) 143 (nI j) 0 = some (st (st (st M' 142 j (fM M (27 + 3 + 6 * j))) 144 j (fM M (27 + 4 + 6 * j) - 1)) 143 j (nI 0)) from wa_st (nM143 hL'.st.st) (by omega) (by omega)), sb]
        exact nx 0 (by omega)
      · have e4 : fM M (27 + 4 + 6 * j) = nI o := eo
        have o0 : 0 < o := by
          rcases Nat.eq_zero_or_pos o with q | q
          · exfalso
            apply z
            rw [e4, q]
            decide
          · exact q
        obtain ⟨o, rfl⟩ : ∃ p, o = p + 1 := ⟨o - 1, by omega⟩
        have hf2 : fM (st (st M' 142 j (fM M (27 + 3 + 6 * j))) 144 j (fM M (27 + 4 + 6 * j) - 1)) = fM M := by
          unfold fM
          rw [ga_st_ne (by omega), ga_st_ne (by omega)]
          exact hf
        obtain ⟨q, hq, eq⟩ := h.2.2.2.2.2.2.2.2.1 o (by omega)
        have eI : s_X8_its (fM M (27 + 4 + 6 * j) - 1) 0 (st (st M' 142 j (fM M (27 + 3 + 6 * j))) 144 j (fM M (27 + 4 + 6 * j) - 1)) = some (nI q) := by
          rw [show s_X8_its (fM M (27 + 4 + 6 * j) - 1) 0 = s_X8_its (nI o) 0 by rw [e4, nI_pred], q_its hL'.st.st (by omega) (x := 0) (k := 0) (by omega) rfl, hf2]
          exact congrArg some eq
        rw [if_pos z, eI, sb, wa_st (nM143 hL'.st.st) (by omega) (by omega), sb]
        exact nx q hq
  obtain ⟨M'', a, b, c⟩ := lp N 0 M 40 (by omega) (by have := h.1; omega) hL rfl (fun c hc => by omega) (fun c hc => by omega)
  exact ⟨M'', a, fs_X8_laysNow fr_rf _ a, b, c⟩
theorem k_muchBut {M : HS} {c : Nat} {g : Int32} (hL : LnM M) (hc : c < 5) : ∃ v, s_X8_muchBut (nI c) g M = some v := by
  unfold s_X8_muchBut
  rw [ag_ok (nM144 hL) hc (by omega), sb, ag_ok (nM142 hL) hc (by omega), sb, sb, q_has, sb]
  split
  · exact ⟨_, rfl⟩
  · split <;> exact ⟨_, rfl⟩
theorem k_front {M : HS} {N L D : Nat} {g : Int32} (hL : LnM M) (h : RW (fM M) N L D) (hp : PQ M N) : ∃ v, s_X8_front g M = some v := by
  have h5 := h.1
  have lp : ∀ (m j : Nat) (a : Int32) (K : Nat), j + m = N → m < K → ∃ v, s_X8_front_L16 g M K a (nI j) = some v := by
    intro m
    induction m with
    | zero =>
      intro j a K h1 h2
      obtain ⟨K, rfl⟩ : ∃ k, K = k + 1 := ⟨K - 1, by omega⟩
      refine ⟨a, ?_⟩
      rw [s_X8_front_L16, m_at hL (x := 9) (i := 9) rfl (by omega), sb, h.2.2.2.1, if_pos (nI_le (by omega) (by omega))]
    | succ m ih =>
      intro j a K h1 h2
      obtain ⟨K, rfl⟩ : ∃ k, K = k + 1 := ⟨K - 1, by omega⟩
      obtain ⟨u, eu⟩ := k_muchBut (g := g) hL (show j < 5 by omega)
      obtain ⟨q, hq, eq⟩ := hp j (by omega)
      rw [s_X8_front_L16, m_at hL (x := 9) (i := 9) rfl (by omega), sb, h.2.2.2.1, if_neg (nI_ge (by omega) (by omega)), eu, sb, ag_ok (nM143 hL) (by omega) (by omega), sb, eq, show (15 : Int32) + nI q = nI (15 + q) from nI_add 15 q, m_at hL rfl (by omega), sb, m_at hL (x := 0) (i := 0) rfl (by omega), sb, q_holds hL (by omega) (x := 1) (k := 1) (by omega) rfl, sb, ← nI_succ]
      exact ih _ _ _ (by omega) (by omega)
  unfold s_X8_front
  rw [m_at hL (x := 1) (i := 1) rfl (by omega), sb, m_at hL (x := 0) (i := 0) rfl (by omega), sb]
  exact lp N 0 _ 40 (by omega) (by omega)
theorem k_rear {M : HS} {N L D : Nat} {g : Int32} (hL : LnM M) (h : RW (fM M) N L D) (hp : PQ M N) : ∃ v, s_X8_rear g M = some v := by
  have h5 := h.1
  have lp : ∀ (m j : Nat) (a : Int32) (K : Nat), j + m = N → m < K → ∃ v, s_X8_rear_L16 g M K a (nI j) = some v := by
    intro m
    induction m with
    | zero =>
      intro j a K h1 h2
      obtain ⟨K, rfl⟩ : ∃ k, K = k + 1 := ⟨K - 1, by omega⟩
      refine ⟨a, ?_⟩
      rw [s_X8_rear_L16, m_at hL (x := 9) (i := 9) rfl (by omega), sb, h.2.2.2.1, if_pos (nI_le (by omega) (by omega))]
    | succ m ih =>
      intro j a K h1 h2
      obtain ⟨K, rfl⟩ : ∃ k, K = k + 1 := ⟨K - 1, by omega⟩
      obtain ⟨u, eu⟩ := k_muchBut (g := g) hL (show j < 5 by omega)
      obtain ⟨q, hq, eq⟩ := hp j (by omega)
      rw [s_X8_rear_L16, m_at hL (x := 9) (i := 9) rfl (by omega), sb, h.2.2.2.1, if_neg (nI_ge (by omega) (by omega)), eu, sb, ag_ok (nM143 hL) (by omega) (by omega), sb, eq, show (15 : Int32) + nI q = nI (15 + q) from nI_add 15 q, m_at hL rfl (by omega), sb, q_holds hL (by omega) (x := 1) (k := 1) (by omega) rfl, sb, ← nI_succ]
      exact ih _ _ _ (by omega) (by omega)
  unfold s_X8_rear
  rw [m_at hL (x := 2) (i := 2) rfl (by omega), sb, m_at hL (x := 0) (i := 0) rfl (by omega), sb]
  exact lp N 0 _ 40 (by omega) (by omega)
theorem ex_ite {α : Type} {c : Prop} [Decidable c] {A B : Option α} (g1 : ∃ v, A = some v) (g2 : ∃ v, B = some v) : ∃ v, (if c then A else B) = some v := by
  split
  · exact g1
  · exact g2
theorem k_stands {M : HS} {N L D : Nat} {g : Int32} (hL : LnM M) (h : RW (fM M) N L D) (hp : PQ M N) : ∃ v, s_X8_stands g M = some v := by
  have h5 := h.1
  obtain ⟨fr, ef⟩ := k_front (g := g) hL h hp
  obtain ⟨re, er⟩ := k_rear (g := g) hL h hp
  have lp : ∀ (m j : Nat) (K : Nat), j + m = N → m < K → ∃ v, s_X8_stands_L2 g M K (nI j) = some v := by
    intro m
    induction m with
    | zero =>
      intro j K h1 h2
      obtain ⟨K, rfl⟩ : ∃ k, K = k + 1 := ⟨K - 1, by omega⟩
      rw [s_X8_stands_L2, m_at hL (x := 9) (i := 9) rfl (by omega), sb, h.2.2.2.1, if_pos (nI_le (by omega) (by omega)), ef, sb, m_at hL (x := 4) (i := 4) rfl (by omega), sb, m_at hL (x := 0) (i := 0) rfl (by omega), sb, sb, m_at hL (x := 3) (i := 3) rfl (by omega), sb, sb, er, sb, m_at hL (x := 5) (i := 5) rfl (by omega), sb, sb]
      exact ex_ite (ex_ite (ex_ite ⟨_, rfl⟩ ⟨_, rfl⟩) ⟨_, rfl⟩) ⟨_, rfl⟩
    | succ m ih =>
      intro j K h1 h2
      obtain ⟨K, rfl⟩ : ∃ k, K = k + 1 := ⟨K - 1, by omega⟩
      obtain ⟨u, eu⟩ := k_muchBut (g := g) hL (show j < 5 by omega)
      have nx := ih (j + 1) K (by omega) (by omega)
      rw [s_X8_stands_L2, m_at hL (x := 9) (i := 9) rfl (by omega), sb, h.2.2.2.1, if_neg (nI_ge (by omega) (by omega)), eu, sb, q_holds hL (by omega) (x := 2) (k := 2) (by omega) rfl, sb, m_at hL (x := 7) (i := 7) rfl (by omega), sb, q_holds hL (by omega) (x := 0) (k := 0) (by omega) rfl, sb, m_at hL (x := 8) (i := 8) rfl (by omega), sb, sb, ← nI_succ]
      exact ex_ite nx (ex_ite nx (ex_ite nx (ex_ite nx ⟨_, rfl⟩)))
  exact lp N 0 40 (by omega) (by omega)
