/-! the model's acts answer: asks, put, load, unload, empty -/
theorem RWx.set2 {f f' : Nat → Int32} {N L D y k : Nat} {v : Int32} (h : RWx f N L D y) (hf : ∀ i, f' i = if i = k then v else f i) (h9 : k ≠ 9 ∧ k ≠ 10 ∧ k ≠ 13) (h31 : ∀ c, c < 5 → k ≠ 31 + 6 * c) (h32 : ∀ c, c < 5 → k = 32 + 6 * c → ∃ n, n ≤ 6 ∧ v = nI n) (h57 : ∀ d, d < 20 → k = 57 + 5 * d → ∃ q, q < 6 ∧ v = nI q) (hs : ∀ d, d < 20 → k = 59 + 5 * d → v ≠ 1) : RWx f' N L D y := by
  have h5 := h.1
  refine h.set hf h9 (fun c hc z => absurd z (h31 c hc)) h32 h57 (fun d hd hy hz => ?_)
  rw [hf] at hz
  by_cases z : 59 + 5 * d = k
  · rw [if_pos z] at hz
    exact absurd hz (hs d hd z.symm)
  · rw [if_neg z] at hz
    obtain ⟨i, hi, ei⟩ := h.2.2.2.2.2.2.2.2.2 d hd hy hz
    refine ⟨i, hi, ?_⟩
    rw [hf, if_neg (fun z => h31 i (by omega) z.symm)]
    exact ei
theorem RW.set13 {f f' : Nat → Int32} {N L D : Nat} (h : RW f N L D) (hf : ∀ i, f' i = if i = 13 then nI (D + 1) else f i) (hD : D < 20) : RW f' N L (D + 1) := by
  obtain ⟨a, b, c, d, e, g, i, j, k, l⟩ := h
  refine ⟨a, b, by omega, ?_, ?_, ?_, fun x hx => ?_, fun x hx => ?_, fun x hx => ?_, fun x hx hz => ?_⟩
  · rw [hf, if_neg (by omega)]
    exact d
  · rw [hf, if_neg (by omega)]
    exact e
  · rw [hf, if_pos rfl]
  · rw [hf, if_neg (by omega)]
    exact i x hx
  · rw [hf, if_neg (by omega)]
    exact j x hx
  · rw [hf, if_neg (by omega)]
    exact k x hx
  · rw [hf, if_neg (by omega)] at hz
    obtain ⟨y, hy, ey⟩ := l x hx hz
    refine ⟨y, hy, ?_⟩
    rw [hf, if_neg (by omega)]
    exact ey
theorem b_asks {M : HS} {v w : Int32} (h : IvM M) : GoM M (s_X8_asks v w M) := by
  have h0 := go_m0 h
  obtain ⟨hL, ⟨N, L, D, hR⟩, _⟩ := h0
  have h6 := hR.2.1
  have h20 := hR.2.2.1
  have g : ∀ x : Int32, GoM M (some (x, sf M 137 0 0)) := fun x => go_i (go_m0 h)
  unfold s_X8_asks
  rw [pf_ok, sb]
  rcases q_isLiq (v := v) hL hR with ⟨q, hq, rfl, e⟩ | ⟨e, _⟩
  · obtain ⟨u, eu⟩ := k_having (x := 0) hL hR
    rw [e, sb, if_neg (by decide), q_isInM, sb, eu, sb, m_at hL (x := 13) (i := 13) rfl (by omega), sb, hR.2.2.2.2.2.1]
    refine ok_iteM (fun _ => ok_iteM (fun _ => ok_iteM (fun zD => ?_) (fun _ => g _)) (fun _ => g _)) (fun _ => g _)
    have hD : D < 20 := by
      rcases Nat.lt_or_ge D 20 with q | q
      · exact q
      · exfalso
        apply zD
        have : D = 20 := by omega
        rw [this]
        rfl
    obtain ⟨M1, e1, l1, f1, s1⟩ := k_snap (go_m0 h)
    have e13 : fM M1 13 = nI D := by
      rw [f1]
      exact hR.2.2.2.2.2.1
    rw [e1, sb, m_at l1 (x := 13) (i := 13) rfl (by omega), sb, e13]
    have hX0 : RWx (fM M1) N L D 20 := by rw [f1]; exact hR.toX
    have hf1 := fM_st (M := M1) (x := nI q) l1 (show 57 + 5 * D < 157 by omega)
    have hX1 := hX0.set2 hf1 (by omega) (fun c hc => by omega) (fun c hc z => by omega) (fun d hd z => ⟨q, by omega, rfl⟩) (fun d hd z => by omega)
    have hf2 := fM_st (M := st M1 139 (57 + 5 * D) (nI q)) (x := w) l1.st (show 58 + 5 * D < 157 by omega)
    have hX2 := hX1.set2 hf2 (by omega) (fun c hc => by omega) (fun c hc z => by omega) (fun d hd z => by omega) (fun d hd z => by omega)
    have hf3 := fM_st (M := st (st M1 139 (57 + 5 * D) (nI q)) 139 (58 + 5 * D) w) (x := 0) l1.st.st (show 59 + 5 * D < 157 by omega)
    have hX3 := hX2.set2 hf3 (by omega) (fun c hc => by omega) (fun c hc z => by omega) (fun d hd z => by omega) (fun d hd z => by decide)
    have hf4 := fM_st (M := st (st (st M1 139 (57 + 5 * D) (nI q)) 139 (58 + 5 * D) w) 139 (59 + 5 * D) 0) (x := 0) l1.st.st.st (show 60 + 5 * D < 157 by omega)
    have hX4 := hX3.set2 hf4 (by omega) (fun c hc => by omega) (fun c hc z => by omega) (fun d hd z => by omega) (fun d hd z => by omega)
    have hf5 := fM_st (M := st (st (st (st M1 139 (57 + 5 * D) (nI q)) 139 (58 + 5 * D) w) 139 (59 + 5 * D) 0) 139 (60 + 5 * D) 0) (x := 0) l1.st.st.st.st (show 61 + 5 * D < 157 by omega)
    have hX5 := hX4.set2 hf5 (by omega) (fun c hc => by omega) (fun c hc z => by omega) (fun d hd z => by omega) (fun d hd z => by omega)
    have hf6 := fM_st (M := st (st (st (st (st M1 139 (57 + 5 * D) (nI q)) 139 (58 + 5 * D) w) 139 (59 + 5 * D) 0) 139 (60 + 5 * D) 0) 139 (61 + 5 * D) 0) (x := nI (D + 1)) l1.st.st.st.st.st (show 13 < 157 by omega)
    have hR6 := (hX5.toW (fun z => by omega)).set13 hf6 hD
    rw [w9_at l1 (x := (57 : Int32) + (5 : Int32) * nI D + (0 : Int32)) (i := 57 + 5 * D) (id_k (k := 0)) (by omega), sb, w9_at l1.st (x := (57 : Int32) + (5 : Int32) * nI D + (1 : Int32)) (i := 58 + 5 * D) (id_k (k := 1)) (by omega), sb, w9_at l1.st.st (x := (57 : Int32) + (5 : Int32) * nI D + (2 : Int32)) (i := 59 + 5 * D) (id_k (k := 2)) (by omega), sb, w9_at l1.st.st.st (x := (57 : Int32) + (5 : Int32) * nI D + (3 : Int32)) (i := 60 + 5 * D) (id_k (k := 3)) (by omega), sb, w9_at l1.st.st.st.st (x := (57 : Int32) + (5 : Int32) * nI D + (4 : Int32)) (i := 61 + 5 * D) (id_k (k := 4)) (by omega), sb, m_at l1.st.st.st.st.st (x := 13) (i := 13) rfl (by omega), sb, hX5.2.2.2.2.2.1, ← nI_succ, w9_at l1.st.st.st.st.st (x := 13) (i := 13) rfl (by omega), sb]
    exact go_i ⟨l1.st.st.st.st.st.st, ⟨N, L, D + 1, hR6⟩, (((((s1.wst (by omega)).wst (by omega)).wst (by omega)).wst (by omega)).wst (by omega)).wst (by omega)⟩
  · rw [e, sb, if_pos rfl]
    exact g _
/-- something of a drop is put into an empty compartment -/
theorem k_puts {M : HS} {N L D c d : Nat} {x : Int32} (hL : LnM M) (h : RW (fM M) N L D) (hc : c < N) (hd : d < D) (h0 : fM M (31 + 6 * c) = 0) : ∃ M1, s_X8_puts (nI c) (nI d) x M = some M1 ∧ LnM M1 ∧ RW (fM M1) N L D ∧ Fr w9 M M1 ∧ (∀ i, i < 5 → i ≠ c → fM M1 (31 + 6 * i) = fM M (31 + 6 * i)) := by
  have h5 := h.1
  have h20 := h.2.2.1
  obtain ⟨q, hq, eq⟩ := h.2.2.2.2.2.2.2.2.1 d (by omega)
  have hX0 : RWx (fM M) N L D 20 := h.toX
  have hf1 := fM_st (M := M) (x := x) hL (show 30 + 6 * c < 157 by omega)
  have hX1 := hX0.set2 hf1 (by omega) (fun c hc => by omega) (fun c hc z => by omega) (fun d hd z => by omega) (fun d hd z => by omega)
  have hf2 := fM_st (M := st M 139 (30 + 6 * c) x) (x := nI (d + 1)) hL.st (show 31 + 6 * c < 157 by omega)
  have hX2 : RWx (fM (st (st M 139 (30 + 6 * c) x) 139 (31 + 6 * c) (nI (d + 1)))) N L D 20 := hX1.set hf2 (by omega) (fun i hi z => ⟨d + 1, by omega, rfl⟩) (fun i hi z => by omega) (fun i hi z => by omega) (fun d' hd' hy hz => by
    rw [hf2, if_neg (by omega)] at hz
    obtain ⟨i, hi, ei⟩ := hX1.2.2.2.2.2.2.2.2.2 d' hd' hy hz
    refine ⟨i, hi, ?_⟩
    rw [hf2]
    by_cases z : 31 + 6 * i = 31 + 6 * c
    · exfalso
      rw [z, hf1, if_neg (by omega), h0] at ei
      exact nI_ne0 (n := d' + 1) (by omega) (by omega) ei.symm
    · rw [if_neg z]
      exact ei)
  have eI : s_X8_its (nI d) 0 (st (st M 139 (30 + 6 * c) x) 139 (31 + 6 * c) (nI (d + 1))) = some (nI q) := by
    rw [q_its hL.st.st (by omega) (x := 0) (k := 0) (by omega) rfl, hf2, if_neg (by omega), hf1, if_neg (by omega)]
    exact congrArg some eq
  have hf3 := fM_st (M := st (st M 139 (30 + 6 * c) x) 139 (31 + 6 * c) (nI (d + 1))) (x := nI (q + 1)) hL.st.st (show 32 + 6 * c < 157 by omega)
  have hX3 := hX2.set2 hf3 (by omega) (fun c hc => by omega) (fun c hc z => ⟨q + 1, by omega, rfl⟩) (fun d hd z => by omega) (fun d hd z => by omega)
  have hR3 := hX3.toW (fun z => by omega)
  obtain ⟨u, eu⟩ := k_mloaded (x := nI d) hL.st.st.st hR3
  have o3 : ∀ i, i < 5 → i ≠ c → fM (st (st (st M 139 (30 + 6 * c) x) 139 (31 + 6 * c) (nI (d + 1))) 139 (32 + 6 * c) (nI (q + 1))) (31 + 6 * i) = fM M (31 + 6 * i) := by
    intro i hi z
    rw [hf3, if_neg (by omega), hf2, if_neg (by omega), hf1, if_neg (by omega)]
  have fin : ∀ {M1}, s_X8_puts (nI c) (nI d) x M = some M1 → Fr w9 M M1 := fun e => fs_X8_puts fr_rf _ e
  suffices hh : ∃ M1, s_X8_puts (nI c) (nI d) x M = some M1 ∧ LnM M1 ∧ RW (fM M1) N L D ∧ (∀ i, i < 5 → i ≠ c → fM M1 (31 + 6 * i) = fM M (31 + 6 * i)) by
    obtain ⟨M1, e, a, b, o⟩ := hh
    exact ⟨M1, e, a, b, fin e, o⟩
  unfold s_X8_puts
  rw [w9_at hL (x := (27 : Int32) + (6 : Int32) * nI c + (3 : Int32)) (i := 30 + 6 * c) (ix_k (k := 3)) (by omega), sb, ← nI_succ, w9_at hL.st (x := (27 : Int32) + (6 : Int32) * nI c + (4 : Int32)) (i := 31 + 6 * c) (ix_k (k := 4)) (by omega), sb, eI, sb, ← nI_succ, w9_at hL.st.st (x := (27 : Int32) + (6 : Int32) * nI c + (5 : Int32)) (i := 32 + 6 * c) (ix_k (k := 5)) (by omega), sb, eu, sb, q_its hL.st.st.st (by omega) (x := 1) (k := 1) (by omega) rfl, sb]
  split
  · exact ⟨_, rfl, hL.st.st.st, hR3, o3⟩
  · rw [w9_at hL.st.st.st (x := (57 : Int32) + (5 : Int32) * nI d + (2 : Int32)) (i := 59 + 5 * d) (id_k (k := 2)) (by omega), sb]
    have hf4 := fM_st (M := st (st (st M 139 (30 + 6 * c) x) 139 (31 + 6 * c) (nI (d + 1))) 139 (32 + 6 * c) (nI (q + 1))) (x := 1) hL.st.st.st (show 59 + 5 * d < 157 by omega)
    refine ⟨_, rfl, hL.st.st.st.st, (hX3.set hf4 (by omega) (fun i hi z => by omega) (fun i hi z => by omega) (fun i hi z => by omega) (fun d' hd' hy hz => ?_)).toW (fun z => by omega), fun i hi z => ?_⟩
    · rw [hf4] at hz
      by_cases z : 59 + 5 * d' = 59 + 5 * d
      · have : d' = d := by omega
        subst this
        refine ⟨c, hc, ?_⟩
        rw [hf4, if_neg (by omega), hf3, if_neg (by omega), hf2, if_pos rfl]
      · rw [if_neg z] at hz
        obtain ⟨i, hi, ei⟩ := hX3.2.2.2.2.2.2.2.2.2 d' hd' hy hz
        refine ⟨i, hi, ?_⟩
        rw [hf4, if_neg (by omega)]
        exact ei
    · rw [hf4, if_neg (by omega)]
      exact o3 i hi z
theorem b_put {M : HS} {v w : Int32} (h : IvM M) : GoM M (s_X8_put v w M) := by
  have h0 := go_m0 h
  obtain ⟨hL, ⟨N, L, D, hR⟩, _⟩ := h0
  have h5 := hR.1
  have h20 := hR.2.2.1
  have g : ∀ x : Int32, GoM M (some (x, sf M 137 0 0)) := fun x => go_i (go_m0 h)
  unfold s_X8_put
  rw [pf_ok, sb]
  rcases q_isHold (v := v) hL hR with ⟨c, hc, rfl, e⟩ | ⟨e, _⟩
  · rw [e, sb, if_neg (by decide)]
    rcases q_isDrp (v := w) hL hR with ⟨d, hd, rfl, e⟩ | ⟨e, _⟩
    · obtain ⟨o, ho, eo⟩ := hR.2.2.2.2.2.2.1 c (by omega)
      obtain ⟨u, eu⟩ := k_mayCome (x := fM (sf M 137 0 0) (57 + 0 + 5 * d)) (w := 0) hL hR (show c < 5 by omega)
      rw [e, sb, if_neg (by decide), q_its hL (by omega) (x := 2) (k := 2) (by omega) rfl, sb, q_holds hL (by omega) (x := 4) (k := 4) (by omega) rfl, sb, q_its hL (by omega) (x := 0) (k := 0) (by omega) rfl, sb, eu, sb, q_mtop hL (by omega), sb, (show fM (sf M 137 0 0) (27 + 4 + 6 * c) = nI o from eo)]
      refine ok_iteM (fun _ => ok_iteM (fun zo => ok_iteM (fun _ => ok_iteM (fun _ => ?_) (fun _ => g _)) (fun _ => g _)) (fun _ => g _)) (fun _ => g _)
      have o0 : o = 0 := by
        rcases Nat.eq_zero_or_pos o with q | q
        · exact q
        · exact absurd zo (nI_nle q (by omega))
      obtain ⟨M1, e1, l1, f1, s1⟩ := k_snap (go_m0 h)
      have hR1 : RW (fM M1) N L D := by rw [f1]; exact hR
      obtain ⟨u2, eu2⟩ := k_mloaded (x := nI d) l1 hR1
      have z0 : fM M1 (31 + 6 * c) = 0 := by
        rw [f1, eo, o0]
        rfl
      have J : ∀ x : Int32, GoM M (s_X8_put_J108 (nI c) (nI d) x M1) := by
        intro x
        obtain ⟨M2, e2, l2, r2, f2, _⟩ := k_puts (x := x) l1 hR1 hc hd z0
        unfold s_X8_put_J108
        rw [e2, sb]
        exact go_i ⟨l2, ⟨N, L, D, r2⟩, SnOk.fr s1 f2 (by unfold w9; omega)⟩
      rw [e1, sb, q_its l1 (by omega) (x := 1) (k := 1) (by omega) rfl, sb, eu2, sb, q_mtop l1 (by omega), sb, sb]
      exact ok_iteM (fun _ => J _) (fun _ => J _)
    · rw [e, sb, if_pos rfl]
      exact g _
  · rw [e, sb, if_pos rfl]
    exact g _
theorem b_load {M : HS} (h : IvM M) : GoM M (s_X8_load M) := by
  have h0 := go_m0 h
  obtain ⟨hL, ⟨N, L, D, hR⟩, _⟩ := h0
  have h5 := hR.1
  obtain ⟨M1, e1, f1, gv⟩ := k_laysPlan (w := 0) hL hR
  have i1 : IvM M1 := iv_w0 (go_m0 h) (fr_tr fr_rf f1 (fun k j z => by unfold wM at z; unfold w0; omega))
  have ef1 : fM M1 = fM (sf M 137 0 0) := fM_fr f1 (by unfold wM; omega)
  unfold s_X8_load
  rw [pf_ok, sb, e1, sb]
  refine ok_iteM (fun _ => ok_iteM (fun _ => ?_) (fun _ => go_i i1)) (fun _ => go_i i1)
  obtain ⟨M2, e2, l2, f2, s2⟩ := k_snap i1
  have fS := fs_X8_snap (S := M1) fr_rf _ e2
  have g2 : ga M2 149 = ga M1 149 := fS.2.2.1 149 (by unfold wZ; omega)
  rw [e2, sb]
  have lp : ∀ (m c : Nat) (M' : HS) (K : Nat), c + m = N → m < K → LnM M' → RW (fM M') N L D → SnOk M' → ga M' 149 = ga M1 149 → (∀ i, c ≤ i → i < 5 → fM M' (31 + 6 * i) = fM (sf M 137 0 0) (31 + 6 * i)) → GoM M (s_X8_load_L36 K (nI c) M') := by
    intro m
    induction m with
    | zero =>
      intro c M' K h1 h2 hL' hR' hs hg ho
      obtain ⟨K, rfl⟩ : ∃ k, K = k + 1 := ⟨K - 1, by omega⟩
      rw [s_X8_load_L36, m_at hL' (x := 9) (i := 9) rfl (by omega), sb, hR'.2.2.2.1, if_pos (nI_le (by omega) (by omega))]
      exact go_i ⟨hL', ⟨N, L, D, hR'⟩, hs⟩
    | succ m ih =>
      intro c M' K h1 h2 hL' hR' hs hg ho
      obtain ⟨K, rfl⟩ : ∃ k, K = k + 1 := ⟨K - 1, by omega⟩
      rw [s_X8_load_L36, m_at hL' (x := 9) (i := 9) rfl (by omega), sb, hR'.2.2.2.1, if_neg (nI_ge (by omega) (by omega)), ag_ok (nM149 hL') (by omega) (by omega), sb, sb, ag_ok (nM150 hL') (by omega) (by omega), sb, hg, ← nI_succ]
      rcases gv c (by omega) with z | ⟨d, hd, z, z0⟩
      · rw [if_pos z]
        exact ih (c + 1) M' K (by omega) (by omega) hL' hR' hs hg (fun i hi hi5 => ho i (by omega) hi5)
      · have hne : nI d ≠ (-1 : Int32) := by
          intro y
          have hp := nI_pos (n := d) (by have := hR.2.2.1; omega)
          rw [y] at hp
          exact hp (by decide)
        obtain ⟨M3, e3, l3, r3, f3, o3⟩ := k_puts (x := (ga M' 150).getD c 0) hL' hR' (show c < N by omega) hd (by rw [ho c (Nat.le_refl _) (by omega)]; exact z0)
        rw [z, if_neg hne, e3, sb]
        refine ih (c + 1) M3 K (by omega) (by omega) l3 r3 (SnOk.fr hs f3 (by unfold w9; omega)) ?_ (fun i hi hi5 => ?_)
        · rw [f3.2.2.1 149 (by unfold w9; omega)]
          exact hg
        · rw [o3 i hi5 (by omega)]
          exact ho i (by omega) hi5
  refine lp N 0 M2 40 (by omega) (by omega) l2 (by rw [f2, ef1]; exact hR) s2 g2 (fun i _ _ => ?_)
  rw [f2, ef1]
/-- what lies in one goes -/
theorem k_goes {M : HS} {N L D c d : Nat} (hL : LnM M) (h : RWx (fM M) N L D d) (hc : c < N) (h1 : fM M (31 + 6 * c) = nI (d + 1)) (hd : d < 20) : ∃ M1, s_X8_goes (nI c) M = some M1 ∧ LnM M1 ∧ RWx (fM M1) N L D d ∧ Fr w9 M M1 := by
  have h5 := h.1
  have hf1 := fM_st (M := M) (x := 0) hL (show 30 + 6 * c < 157 by omega)
  have hX1 := h.set2 hf1 (by omega) (fun c hc => by omega) (fun c hc z => by omega) (fun d hd z => by omega) (fun d hd z => by omega)
  have hf2 := fM_st (M := st M 139 (30 + 6 * c) 0) (x := 0) hL.st (show 31 + 6 * c < 157 by omega)
  have hX2 := hX1.set hf2 (by omega) (fun i hi z => ⟨0, by omega, rfl⟩) (fun i hi z => by omega) (fun i hi z => by omega) (fun d' hd' hy hz => by
    rw [hf2, if_neg (by omega)] at hz
    obtain ⟨i, hi, ei⟩ := hX1.2.2.2.2.2.2.2.2.2 d' hd' hy hz
    refine ⟨i, hi, ?_⟩
    rw [hf2]
    by_cases z : 31 + 6 * i = 31 + 6 * c
    · exfalso
      rw [z, hf1, if_neg (by omega), h1, nI_eq (by omega) (by omega)] at ei
      omega
    · rw [if_neg z]
      exact ei)
  have e : s_X8_goes (nI c) M = some (st (st M 139 (30 + 6 * c) 0) 139 (31 + 6 * c) 0) := by
    unfold s_X8_goes
    rw [w9_at hL (x := (27 : Int32) + (6 : Int32) * nI c + (3 : Int32)) (i := 30 + 6 * c) (ix_k (k := 3)) (by omega), sb, w9_at hL.st (x := (27 : Int32) + (6 : Int32) * nI c + (4 : Int32)) (i := 31 + 6 * c) (ix_k (k := 4)) (by omega), sb]
  exact ⟨_, e, hL.st.st, hX2, fs_X8_goes fr_rf _ e⟩
theorem b_unload {M : HS} {v w : Int32} (h : IvM M) : GoM M (s_X8_unload v w M) := by
  have h0 := go_m0 h
  obtain ⟨hL, ⟨N, L, D, hR⟩, _⟩ := h0
  have h5 := hR.1
  have h20 := hR.2.2.1
  have g : ∀ x : Int32, GoM M (some (x, sf M 137 0 0)) := fun x => go_i (go_m0 h)
  unfold s_X8_unload
  rw [pf_ok, sb]
  rcases q_isDrp (v := v) hL hR with ⟨d, hd, rfl, e⟩ | ⟨e, _⟩
  · obtain ⟨u, eu⟩ := k_mloaded (x := nI d) hL hR
    rw [e, sb, if_neg (by decide), q_its hL (by omega) (x := 2) (k := 2) (by omega) rfl, sb, eu, sb, q_isInM, sb]
    refine ok_iteM (fun _ => g _) (fun _ => ok_iteM (fun _ => ?_) (fun _ => g _))
    obtain ⟨M1, e1, f1, p1, _⟩ := k_laysNow hL hR
    have hL1 : LnM M1 := LnM.fr (S := sf M 137 0 0) hL f1
    have i1 : IvM M1 := iv_w0 (go_m0 h) (fr_tr fr_rf f1 (fun k j z => by unfold wN at z; unfold w0; omega))
    have ef1 : fM M1 = fM (sf M 137 0 0) := fM_fr f1 (by unfold wN; omega)
    obtain ⟨t, et⟩ := k_stands (g := (1 : Int32) <<< (nI d &&& (31 : Int32))) hL1 (by rw [ef1]; exact hR) p1
    rw [e1, sb, et, sb]
    refine ok_iteM (fun _ => ?_) (fun _ => go_i i1)
    obtain ⟨M2, e2, l2, f2, s2⟩ := k_snap i1
    have hR2 : RW (fM M2) N L D := by rw [f2, ef1]; exact hR
    obtain ⟨y, ey⟩ := k_mloaded (x := nI d) l2 hR2
    rw [e2, sb, ey, sb]
    have lp : ∀ (m c : Nat) (x : Int32) (M' : HS) (K : Nat), c + m = N → m < K → LnM M' → RWx (fM M') N L D d → SnOk M' → GoM M (s_X8_unload_L70 (nI d) w x K (nI c) M') := by
      intro m
      induction m with
      | zero =>
        intro c x M' K h1 h2 hL' hX hs
        obtain ⟨K, rfl⟩ : ∃ k, K = k + 1 := ⟨K - 1, by omega⟩
        rw [s_X8_unload_L70, m_at hL' (x := 9) (i := 9) rfl (by omega), sb, hX.2.2.2.1, if_pos (nI_le (by omega) (by omega)), w9_at hL' (x := (57 : Int32) + (5 : Int32) * nI d + (2 : Int32)) (i := 59 + 5 * d) (id_k (k := 2)) (by omega), sb, w9_at hL'.st (x := (57 : Int32) + (5 : Int32) * nI d + (3 : Int32)) (i := 60 + 5 * d) (id_k (k := 3)) (by omega), sb, w9_at hL'.st.st (x := (57 : Int32) + (5 : Int32) * nI d + (4 : Int32)) (i := 61 + 5 * d) (id_k (k := 4)) (by omega), sb]
        have hf1 := fM_st (M := M') (x := 2) hL' (show 59 + 5 * d < 157 by omega)
        have hX1 := hX.set2 hf1 (by omega) (fun c hc => by omega) (fun c hc z => by omega) (fun d hd z => by omega) (fun d hd z => by decide)
        have hf2 := fM_st (M := st M' 139 (59 + 5 * d) 2) (x := w) hL'.st (show 60 + 5 * d < 157 by omega)
        have hX2 := hX1.set2 hf2 (by omega) (fun c hc => by omega) (fun c hc z => by omega) (fun d hd z => by omega) (fun d hd z => by omega)
        have hf3 := fM_st (M := st (st M' 139 (59 + 5 * d) 2) 139 (60 + 5 * d) w) (x := x) hL'.st.st (show 61 + 5 * d < 157 by omega)
        have hX3 := hX2.set2 hf3 (by omega) (fun c hc => by omega) (fun c hc z => by omega) (fun d hd z => by omega) (fun d hd z => by omega)
        refine go_i ⟨hL'.st.st.st, ⟨N, L, D, hX3.toW (fun _ hz => ?_)⟩, ((hs.wst (by omega)).wst (by omega)).wst (by omega)⟩
        rw [hf3, if_neg (by omega), hf2, if_neg (by omega), hf1, if_pos rfl] at hz
        exact absurd hz (by decide)
      | succ m ih =>
        intro c x M' K h1 h2 hL' hX hs
        obtain ⟨K, rfl⟩ : ∃ k, K = k + 1 := ⟨K - 1, by omega⟩
        rw [s_X8_unload_L70, m_at hL' (x := 9) (i := 9) rfl (by omega), sb, hX.2.2.2.1, if_neg (nI_ge (by omega) (by omega)), q_holds hL' (by omega) (x := 4) (k := 4) (by omega) rfl, sb, ← nI_succ, ← nI_succ]
        refine ok_iteM (fun _ => ih (c + 1) x M' K (by omega) (by omega) hL' hX hs) (fun z => ?_)
        have z1 : fM M' (31 + 6 * c) = nI (d + 1) := by
          by_cases y : fM M' (27 + 4 + 6 * c) = nI (d + 1)
          · exact y
          · exact absurd y z
        obtain ⟨M3, e3, l3, x3, f3⟩ := k_goes hL' hX (show c < N by omega) z1 (by omega)
        rw [e3, sb]
        exact ih (c + 1) x M3 K (by omega) (by omega) l3 x3 (SnOk.fr hs f3 (by unfold w9; omega))
    exact lp N 0 _ M2 40 (by omega) (by omega) l2 hR2.toX s2
  · rw [e, sb, if_pos rfl]
    exact g _
theorem b_empty {M : HS} {v : Int32} (h : IvM M) : GoM M (s_X8_empty v M) := by
  have h0 := go_m0 h
  obtain ⟨hL, ⟨N, L, D, hR⟩, _⟩ := h0
  have h5 := hR.1
  have g : ∀ x : Int32, GoM M (some (x, sf M 137 0 0)) := fun x => go_i (go_m0 h)
  unfold s_X8_empty
  rw [pf_ok, sb]
  rcases q_isHold (v := v) hL hR with ⟨c, hc, rfl, e⟩ | ⟨e, _⟩
  · obtain ⟨o, ho, eo⟩ := hR.2.2.2.2.2.2.1 c (by omega)
    rw [e, sb, if_neg (by decide), q_holds hL (by omega) (x := 4) (k := 4) (by omega) rfl, sb, sb, (show fM (sf M 137 0 0) (27 + 4 + 6 * c) = nI o from eo)]
    cases o with
    | zero =>
      rw [if_neg (fun z => z rfl)]
      exact g _
    | succ d =>
      obtain ⟨u, eu⟩ := k_having (x := 0) hL hR
      have J : GoM M (s_X8_empty_J55 (nI c) (nI d) (sf M 137 0 0)) := by
        obtain ⟨M1, e1, l1, f1, s1⟩ := k_snap (go_m0 h)
        have hX : RWx (fM M1) N L D d := by rw [f1]; exact hR.toX
        obtain ⟨M2, e2, l2, x2, f2⟩ := k_goes l1 hX hc (by rw [f1]; exact eo) (by omega)
        have hf := fM_st (M := M2) (x := 0) l2 (show 59 + 5 * d < 157 by omega)
        have hX3 := x2.set2 hf (by omega) (fun c hc => by omega) (fun c hc z => by omega) (fun d hd z => by omega) (fun d hd z => by decide)
        unfold s_X8_empty_J55
        rw [e1, sb, q_holds l1 (by omega) (x := 3) (k := 3) (by omega) rfl, sb, e2, sb, w9_at l2 (x := (57 : Int32) + (5 : Int32) * nI d + (2 : Int32)) (i := 59 + 5 * d) (id_k (k := 2)) (by omega), sb]
        refine go_i ⟨l2.st, ⟨N, L, D, hX3.toW (fun _ hz => ?_)⟩, (SnOk.fr s1 f2 (by unfold w9; omega)).wst (by omega)⟩
        rw [hf, if_pos rfl] at hz
        exact absurd hz (by decide)
      rw [if_pos (nI_ne0 (by omega) (by omega)), nI_pred, q_its hL (by omega) (x := 2) (k := 2) (by omega) rfl, sb, eu, sb]
      exact ok_iteM (fun _ => J) (fun _ => ok_iteM (fun _ => J) (fun _ => g _))
  · rw [e, sb, if_pos rfl]
    exact g _
