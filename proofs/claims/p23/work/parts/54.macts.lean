/-! the model's acts answer -/
def RWx (f : Nat → Int32) (N L D y : Nat) : Prop := N ≤ 5 ∧ L ≤ 6 ∧ D ≤ 20 ∧ f 9 = nI N ∧ f 10 = nI L ∧ f 13 = nI D ∧ (∀ c, c < 5 → ∃ n, n ≤ 20 ∧ f (31 + 6 * c) = nI n) ∧ (∀ c, c < 5 → ∃ n, n ≤ 6 ∧ f (32 + 6 * c) = nI n) ∧ (∀ d, d < 20 → ∃ q, q < 6 ∧ f (57 + 5 * d) = nI q) ∧ (∀ d, d < 20 → d ≠ y → f (59 + 5 * d) = 1 → ∃ c, c < N ∧ f (31 + 6 * c) = nI (d + 1))
theorem RW.toX {f : Nat → Int32} {N L D y : Nat} (h : RW f N L D) : RWx f N L D y := by
  obtain ⟨a, b, c, d, e, g, i, j, k, l⟩ := h
  exact ⟨a, b, c, d, e, g, i, j, k, fun d hd _ hz => l d hd hz⟩
theorem RWx.toW {f : Nat → Int32} {N L D y : Nat} (h : RWx f N L D y) (hy : y < 20 → f (59 + 5 * y) = 1 → ∃ c, c < N ∧ f (31 + 6 * c) = nI (y + 1)) : RW f N L D := by
  obtain ⟨a, b, c, d, e, g, i, j, k, l⟩ := h
  refine ⟨a, b, c, d, e, g, i, j, k, fun d hd hz => ?_⟩
  by_cases e : d = y
  · subst e
    exact hy hd hz
  · exact l d hd e hz
theorem fM_st {M : HS} {k : Nat} {x : Int32} (hL : LnM M) (hk : k < 157) (i : Nat) : fM (st M 139 k x) i = if i = k then x else fM M i := by
  unfold fM
  rw [ga_st_eq, gset (by rw [nM139 hL]; omega)]
/-- one place of the row is written -/
theorem RWx.set {f f' : Nat → Int32} {N L D y k : Nat} {v : Int32} (h : RWx f N L D y) (hf : ∀ i, f' i = if i = k then v else f i) (h9 : k ≠ 9 ∧ k ≠ 10 ∧ k ≠ 13) (h31 : ∀ c, c < 5 → k = 31 + 6 * c → ∃ n, n ≤ 20 ∧ v = nI n) (h32 : ∀ c, c < 5 → k = 32 + 6 * c → ∃ n, n ≤ 6 ∧ v = nI n) (h57 : ∀ d, d < 20 → k = 57 + 5 * d → ∃ q, q < 6 ∧ v = nI q) (hc : ∀ d, d < 20 → d ≠ y → f' (59 + 5 * d) = 1 → ∃ c, c < N ∧ f' (31 + 6 * c) = nI (d + 1)) : RWx f' N L D y := by
  obtain ⟨a, b, c, d, e, g, i, j, l, m⟩ := h
  refine ⟨a, b, c, ?_, ?_, ?_, fun x hx => ?_, fun x hx => ?_, fun x hx => ?_, hc⟩
  · rw [hf, if_neg (fun z => h9.1 z.symm)]
    exact d
  · rw [hf, if_neg (fun z => h9.2.1 z.symm)]
    exact e
  · rw [hf, if_neg (fun z => h9.2.2 z.symm)]
    exact g
  · rw [hf]
    by_cases z : 31 + 6 * x = k
    · rw [if_pos z]
      exact h31 x hx z.symm
    · rw [if_neg z]
      exact i x hx
  · rw [hf]
    by_cases z : 32 + 6 * x = k
    · rw [if_pos z]
      exact h32 x hx z.symm
    · rw [if_neg z]
      exact j x hx
  · rw [hf]
    by_cases z : 57 + 5 * x = k
    · rw [if_pos z]
      exact h57 x hx z.symm
    · rw [if_neg z]
      exact l x hx
def w41 (k j : Nat) : Prop := k = 141
theorem m157 {k i : Nat} : (157 : Int32) * nI k + nI i = nI (157 * k + i) := by
  show nI 157 * nI k + nI i = _
  rw [pk_mul, nI_add]
theorem q_snap52 {k : Nat} (hk : k < 10) : ∀ (m j : Nat) (M : HS) (K : Nat), j + m = 157 → m < K → LnM M → gf M 137 14 = nI k → (∀ i, i < j → (ga M 141).getD (157 * k + i) 0 = fM M i) → ∃ M', s_X8_snap_L52 K (nI j) M = some (sf M' 137 14 (nI (k + 1))) ∧ (∀ i, i < 157 → (ga M' 141).getD (157 * k + i) 0 = fM M i) ∧ (∀ i, i < 157 * k ∨ 157 * k + 157 ≤ i → (ga M' 141).getD i 0 = (ga M 141).getD i 0) ∧ Fr w41 M M' := by
  intro m
  induction m with
  | zero =>
    intro j M K h1 h2 hL hg h3
    obtain ⟨K, rfl⟩ : ∃ k, K = k + 1 := ⟨K - 1, by omega⟩
    rw [s_X8_snap_L52, if_pos (show (157 : Int32) ≤ nI j from nI_le (a := 157) (by omega) (by omega)), hg, pf_ok, sb, ← nI_succ]
    exact ⟨M, rfl, fun i hi => h3 i (by omega), fun i _ => rfl, fr_rf⟩
  | succ m ih =>
    intro j M K h1 h2 hL hg h3
    obtain ⟨K, rfl⟩ : ∃ k, K = k + 1 := ⟨K - 1, by omega⟩
    rw [s_X8_snap_L52, if_neg (show ¬ (157 : Int32) ≤ nI j from nI_ge (b := 157) (by omega) (by omega)), m_at hL rfl (by omega), sb, hg, m157, wa_st (nM141 hL) (by omega) (by omega), sb, ← nI_succ]
    have hf : fM (st M 141 (157 * k + j) (fM M j)) = fM M := by
      unfold fM
      rw [ga_st_ne (by omega)]
    obtain ⟨M', a, b, c, d⟩ := ih (j + 1) (st M 141 (157 * k + j) (fM M j)) K (by omega) (by omega) hL.st hg (by
      intro i hi
      rw [hf]
      by_cases z : i = j
      · subst z
        exact gd_st_eq (nM141 hL) (by omega)
      · rw [gd_st (by omega)]
        exact h3 i (by omega))
    rw [hf] at b
    refine ⟨M', a, b, fun i hi => ?_, fr_tr (fr_st fr_rf (by unfold w41; rfl)) d (fun k j z => z)⟩
    rw [c i hi, gd_st (by omega)]
theorem q_snap11 : ∀ (m j : Nat) (M : HS) (K : Nat), j + m = 1413 → m < K → LnM M → ∃ M', s_X8_snap_L11 K (nI j) M = (Option.bind (pf M' 137 14 ((gf M' 137 14) - (1 : Int32))) fun S4 => s_X8_snap_L52 1600 (0 : Int32) S4) ∧ (∀ i, j ≤ i → i < 1413 → (ga M' 141).getD i 0 = (ga M 141).getD (i + 157) 0) ∧ (∀ i, i < j → (ga M' 141).getD i 0 = (ga M 141).getD i 0) ∧ Fr w41 M M' := by
  intro m
  induction m with
  | zero =>
    intro j M K h1 h2 hL
    obtain ⟨K, rfl⟩ : ∃ k, K = k + 1 := ⟨K - 1, by omega⟩
    rw [s_X8_snap_L11, if_pos (show (1413 : Int32) ≤ nI j from nI_le (a := 1413) (by omega) (by omega))]
    exact ⟨M, rfl, fun i hi hi2 => by omega, fun i _ => rfl, fr_rf⟩
  | succ m ih =>
    intro j M K h1 h2 hL
    obtain ⟨K, rfl⟩ : ∃ k, K = k + 1 := ⟨K - 1, by omega⟩
    rw [s_X8_snap_L11, if_neg (show ¬ (1413 : Int32) ≤ nI j from nI_ge (b := 1413) (by omega) (by omega)), show nI j + 157 = nI (j + 157) from nI_add j 157, ag_ok (nM141 hL) (by omega) (by omega), sb, wa_st (nM141 hL) (by omega) (by omega), sb, ← nI_succ]
    obtain ⟨M', a, b, c, d⟩ := ih (j + 1) (st M 141 j ((ga M 141).getD (j + 157) 0)) K (by omega) (by omega) hL.st
    refine ⟨M', a, fun i hi hi2 => ?_, fun i hi => ?_, fr_tr (fr_st fr_rf (by unfold w41; rfl)) d (fun k j z => z)⟩
    · by_cases z : i = j
      · subst z
        rw [c i (by omega)]
        exact gd_st_eq (nM141 hL) (by omega)
      · rw [b i (by omega) hi2, gd_st (by omega)]
    · rw [c i (by omega), gd_st (by omega)]
theorem k_snap {M : HS} (h : IvM M) : ∃ M1, s_X8_snap M = some M1 ∧ LnM M1 ∧ fM M1 = fM M ∧ SnOk M1 := by
  obtain ⟨hL, ⟨N, L, D, hR⟩, k, hk, eg, hr⟩ := h
  have fin : ∀ {M1}, s_X8_snap M = some M1 → fM M1 = fM M ∧ LnM M1 := fun e => by
    have f := fs_X8_snap (S := M) fr_rf _ e
    exact ⟨fM_fr f (by unfold wZ; omega), hL.fr f⟩
  suffices hh : ∃ M1, s_X8_snap M = some M1 ∧ SnOk M1 by
    obtain ⟨M1, e, s⟩ := hh
    exact ⟨M1, e, (fin e).2, (fin e).1, s⟩
  unfold s_X8_snap
  rw [eg]
  by_cases z : k = 10
  · subst z
    obtain ⟨M2, e2, a2, b2, f2⟩ := q_snap11 1413 0 M 1600 (by omega) (by omega) hL
    have hL2 := hL.fr f2
    have hf2 : fM M2 = fM M := fM_fr f2 (by unfold w41; omega)
    have g2 : gf M2 137 14 = nI 10 := (f2.1 137 14 (by unfold w41; omega)).1.trans eg
    obtain ⟨M3, e3, a3, b3, f3⟩ := q_snap52 (k := 9) (by omega) 157 0 (sf M2 137 14 (nI 9)) 1600 (by omega) (by omega) hL2 rfl (fun i hi => by omega)
    rw [if_neg (fun z => z rfl), (show s_X8_snap_L11 1600 0 M = _ from e2), g2, pf_ok, sb, show nI 10 - 1 = nI 9 from nI_pred 9, (show s_X8_snap_L52 1600 0 (sf M2 137 14 (nI 9)) = _ from e3)]
    refine ⟨_, rfl, 10, by omega, rfl, fun j hj => ?_⟩
    by_cases z : j = 9
    · subst z
      refine ⟨N, L, D, hR.of (fun i hi => ?_)⟩
      show (ga M3 141).getD (157 * 9 + i) 0 = _
      rw [a3 i hi]
      exact congrFun hf2 i
    · obtain ⟨N', L', D', hR'⟩ := hr (j + 1) (by omega)
      refine ⟨N', L', D', hR'.of (fun i hi => ?_)⟩
      show (ga M3 141).getD (157 * j + i) 0 = _
      rw [b3 _ (by omega)]
      show (ga M2 141).getD (157 * j + i) 0 = _
      rw [a2 _ (by omega) (by omega), show 157 * j + i + 157 = 157 * (j + 1) + i by omega]
  · obtain ⟨M3, e3, a3, b3, f3⟩ := q_snap52 (k := k) (by omega) 157 0 M 1600 (by omega) (by omega) hL eg (fun i hi => by omega)
    rw [if_pos (nI_nec (x := 10) 10 rfl (by omega) (by omega) z), (show s_X8_snap_L52 1600 0 M = _ from e3)]
    refine ⟨_, rfl, k + 1, by omega, rfl, fun j hj => ?_⟩
    by_cases z : j = k
    · subst z
      refine ⟨N, L, D, hR.of (fun i hi => ?_)⟩
      exact a3 i hi
    · obtain ⟨N', L', D', hR'⟩ := hr j (by omega)
      refine ⟨N', L', D', hR'.of (fun i hi => ?_)⟩
      exact b3 _ (by omega)
theorem SnOk.wst {M : HS} {k i : Nat} {x : Int32} (h : SnOk M) (hk : k ≠ 141) : SnOk (st M k i x) := by
  obtain ⟨n, hn, e, r⟩ := h
  refine ⟨n, hn, e, ?_⟩
  rw [ga_st_ne (fun z => hk z.symm)]
  exact r
theorem w9_at {M : HS} {i : Nat} {x y : Int32} (h : LnM M) (hx : x = nI i) (hi : i < 157) : wa M 139 x y = some (st M 139 i y) := by
  rw [hx]
  exact wa_st (nM139 h) hi (by omega)
theorem b_cancel {M : HS} {v : Int32} (h : IvM M) : GoM M (s_X8_cancel v M) := by
  have h0 := go_m0 h
  obtain ⟨hL, ⟨N, L, D, hR⟩, _⟩ := h0
  have h51 := hR.1
  have h5 := hR.2.2.1
  have g : ∀ x : Int32, GoM M (some (x, sf M 137 0 0)) := fun x => go_i (go_m0 h)
  unfold s_X8_cancel
  rw [pf_ok, sb]
  rcases q_isDrp (v := v) hL hR with ⟨c, hc, rfl, e⟩ | ⟨e, _⟩
  · obtain ⟨u, eu⟩ := k_mloaded (x := nI c) hL hR
    rw [e, sb, if_neg (by decide), q_its hL (by omega) (x := 2) (k := 2) (by omega) rfl, sb, eu, sb]
    refine ok_iteM (fun _ => g _) (fun _ => ok_iteM (fun _ => ?_) (fun _ => g _))
    obtain ⟨M1, e1, l1, f1, s1⟩ := k_snap (go_m0 h)
    rw [e1, sb, w9_at l1 (x := (57 : Int32) + (5 : Int32) * nI c + (2 : Int32)) (i := 59 + 5 * c) (id_k (k := 2)) (by omega), sb]
    have hX : RWx (fM M1) N L D 20 := by rw [f1]; exact hR.toX
    have hf := fM_st (x := 3) l1 (show 59 + 5 * c < 157 by omega)
    refine go_i ⟨l1.st, ⟨N, L, D, (hX.set hf (by omega) (fun i hi z => by omega) (fun i hi z => by omega) (fun i hi z => by omega) (fun d hd _ hz => ?_)).toW (fun z => by omega)⟩, s1.wst (by omega)⟩
    rw [hf] at hz
    by_cases z : 59 + 5 * d = 59 + 5 * c
    · rw [if_pos z] at hz
      exact absurd hz (by decide)
    · rw [if_neg z] at hz
      obtain ⟨i, hi, ei⟩ := hX.2.2.2.2.2.2.2.2.2 d hd (by omega) hz
      refine ⟨i, hi, ?_⟩
      rw [hf, if_neg (by omega)]
      exact ei
  · rw [e, sb, if_pos rfl]
    exact g _
theorem b_wash {M : HS} {v : Int32} (h : IvM M) : GoM M (s_X8_wash v M) := by
  have h0 := go_m0 h
  obtain ⟨hL, ⟨N, L, D, hR⟩, _⟩ := h0
  have h5 := hR.1
  have g : ∀ x : Int32, GoM M (some (x, sf M 137 0 0)) := fun x => go_i (go_m0 h)
  unfold s_X8_wash
  rw [pf_ok, sb]
  rcases q_isHold (v := v) hL hR with ⟨c, hc, rfl, e⟩ | ⟨e, _⟩
  · rw [e, sb, if_neg (by decide), q_holds hL (by omega) (x := 4) (k := 4) (by omega) rfl, sb, q_holds hL (by omega) (x := 5) (k := 5) (by omega) rfl, sb]
    refine ok_iteM (fun _ => g _) (fun _ => ok_iteM (fun _ => ?_) (fun _ => g _))
    obtain ⟨M1, e1, l1, f1, s1⟩ := k_snap (go_m0 h)
    rw [e1, sb, w9_at l1 (x := (27 : Int32) + (6 : Int32) * nI c + (5 : Int32)) (i := 32 + 6 * c) (ix_k (k := 5)) (by omega), sb, m_at l1.st (x := 14) (i := 14) rfl (by omega), sb, w9_at l1.st (x := 14) (i := 14) rfl (by omega), sb]
    have hX : RWx (fM M1) N L D 20 := by rw [f1]; exact hR.toX
    have hf := fM_st (x := 0) l1 (show 32 + 6 * c < 157 by omega)
    have hX2 : RWx (fM (st M1 139 (32 + 6 * c) 0)) N L D 20 := hX.set hf (by omega) (fun i hi z => by omega) (fun i hi z => ⟨0, by omega, rfl⟩) (fun i hi z => by omega) (fun d hd hy hz => by
      rw [hf, if_neg (by omega)] at hz
      obtain ⟨i, hi, ei⟩ := hX.2.2.2.2.2.2.2.2.2 d hd hy hz
      refine ⟨i, hi, ?_⟩
      rw [hf, if_neg (by omega)]
      exact ei)
    have hf2 := fM_st (M := st M1 139 (32 + 6 * c) 0) (x := fM (st M1 139 (32 + 6 * c) 0) 14 + 1) l1.st (show 14 < 157 by omega)
    refine go_i ⟨l1.st.st, ⟨N, L, D, (hX2.set hf2 (by omega) (fun i hi z => by omega) (fun i hi z => by omega) (fun i hi z => by omega) (fun d hd hy hz => ?_)).toW (fun z => by omega)⟩, (s1.wst (by omega)).wst (by omega)⟩
    rw [hf2, if_neg (by omega)] at hz
    obtain ⟨i, hi, ei⟩ := hX2.2.2.2.2.2.2.2.2.2 d hd hy hz
    refine ⟨i, hi, ?_⟩
    rw [hf2, if_neg (by omega)]
    exact ei
  · rw [e, sb, if_pos rfl]
    exact g _
theorem b_undo {M : HS} (h : IvM M) : GoM M (s_X8_undo M) := by
  have h0 := go_m0 h
  obtain ⟨hL, hR, k, hk, eg, hr⟩ := h0
  unfold s_X8_undo
  rw [pf_ok, sb, eg]
  cases k with
  | zero =>
    rw [if_neg (fun z => z rfl)]
    exact go_i (go_m0 h)
  | succ k =>
    rw [if_pos (nI_ne0 (by omega) (by omega)), nI_pred, pf_ok, sb]
    obtain ⟨N, L, D, hRk⟩ := hr k (by omega)
    have lp : ∀ (m j : Nat) (M' : HS) (K : Nat), j + m = 157 → m < K → LnM M' → gf M' 137 14 = nI k → ga M' 141 = ga M 141 → (∀ i, i < j → fM M' i = (ga M 141).getD (157 * k + i) 0) → GoM M (s_X8_undo_L26 K (nI j) M') := by
      intro m
      induction m with
      | zero =>
        intro j M' K h1 h2 hL' hg h3 h4
        obtain ⟨K, rfl⟩ : ∃ k, K = k + 1 := ⟨K - 1, by omega⟩
        rw [s_X8_undo_L26, if_pos (show (157 : Int32) ≤ nI j from nI_le (a := 157) (by omega) (by omega))]
        refine go_i ⟨hL', ⟨N, L, D, hRk.of (fun i hi => h4 i (by omega))⟩, k, by omega, hg, fun i hi => ?_⟩
        rw [h3]
        exact hr i (by omega)
      | succ m ih =>
        intro j M' K h1 h2 hL' hg h3 h4
        obtain ⟨K, rfl⟩ : ∃ k, K = k + 1 := ⟨K - 1, by omega⟩
        rw [s_X8_undo_L26, if_neg (show ¬ (157 : Int32) ≤ nI j from nI_ge (b := 157) (by omega) (by omega)), hg, m157, ag_ok (nM141 hL') (by omega) (by omega), sb, wa_st (nM139 hL') (by omega) (by omega), sb, ← nI_succ]
        refine ih (j + 1) _ K (by omega) (by omega) hL'.st hg ?_ (fun i hi => ?_)
        · rw [ga_st_ne (by omega)]
          exact h3
        · rw [fM_st hL' (by omega)]
          by_cases z : i = j
          · rw [if_pos z, h3, z]
          · rw [if_neg z]
            exact h4 i (by omega)
    exact lp 157 0 _ 200 (by omega) (by omega) hL rfl rfl (fun i hi => by omega)
