/-! the desk's acts answer -/
theorem iv_st7 {S : HS} {t i q : Nat} (h : IvD S) (ht : isT t) (hi : i < 20) (hq : q < 6) : IvD (st S (t + 7) i (nI q)) := by
  obtain ⟨a, b, c, d, e, f, g, k⟩ := h
  refine ⟨a.st, b, c, d, fun t' ht' => ?_, f, g, k⟩
  obtain ⟨d1, d2, d3, d4⟩ := e t' ht'
  refine ⟨d1, d2, d3, fun i' hi' => ?_⟩
  rw [ga_st]
  by_cases ee : t' + 7 = t + 7
  · have et : t' = t := by omega
    rw [if_pos ee, gset (by rw [nT7 a ht]; omega)]
    by_cases z : i' = i
    · rw [if_pos z]
      exact ⟨q, hq, rfl⟩
    · rw [if_neg z, ← et]
      exact d4 i' hi'
  · rw [if_neg ee]
    exact d4 i' hi'
theorem iv_layC {S : HS} {t c q : Nat} {v x : Int32} (h : IvD S) : IvD (layC S 23 t c v q x) := by
  unfold layC
  exact iv_st (iv_st (iv_st (iv_st h (by omega) (by omega)) (by omega) (by omega)) (by omega) (by omega)) (by omega) (by omega)
theorem iv_toC {S : HS} {c : Nat} (h : IvD S) : IvD (toC S 23 c) := by
  unfold toC
  exact iv_st (iv_st (iv_st h (by omega) (by omega)) (by omega) (by omega)) (by omega) (by omega)
theorem up_P {α : Type} {f : Nat → α → α} {P : α → Prop} (hf : ∀ j S, P S → P (f j S)) : ∀ (m j : Nat) (S : α), P S → P (up f m j S) := by
  intro m
  induction m with
  | zero =>
    intro j S h
    exact h
  | succ m ih =>
    intro j S h
    exact ih _ _ (hf j S h)
theorem a_asks {S : HS} {v w : Int32} (hI : IvD S) : Ok (GoD S) (s_X7_asks v w S) := by
  obtain ⟨t, ht, hr⟩ := hI.2.2.1
  obtain ⟨M, h6, hM⟩ := (hI.2.2.2.2.1 t ht).2.1
  obtain ⟨D, h20, hD⟩ := hI.2.2.2.2.2.1 22 mS22
  have hn := isT_num ht
  have rf_ : ∀ x : Int32, Ok (GoD S) (some (x, S)) := fun x => ok_some ⟨hI, rfl⟩
  unfold s_X7_asks
  rw [tl_ok hr ht]
  simp only [sb]
  rcases q_hasL (v := v) hM h6 with ⟨q, hq, rfl, e⟩ | ⟨e, _⟩
  · rw [e, sb, if_neg (by decide)]
    refine ok_ite (fun _ => rf_ _) (fun _ => ok_ite (fun _ => ?_) (fun _ => rf_ _))
    rw [q_waiting hI.1 ht hD h20, sb]
    refine ok_ite (fun _ => ok_ite (fun z => ?_) (fun _ => rf_ _)) (fun _ => rf_ _)
    have hD20 : D < 20 := by
      rw [hD] at z
      exact (nI_ltI (b := 20) (by omega) (by omega)).mp z
    obtain ⟨S1, e1, h1, f1, r1, _, _⟩ := k_keep hI
    have hD1 : gf S1 22 1 = nI D := (f1 22 1 (by omega)).trans hD
    have hr1 : gr S1 0 4 = .ref t := (r1 0 4).trans hr
    have h2 : IvD (st S1 (t + 7) D (nI q)) := iv_st7 h1 ht hD20 (by omega)
    have h3 : IvD (st (st S1 (t + 7) D (nI q)) (t + 8) D w) := iv_st h2 (by omega) (by omega)
    rw [e1, sb, hD1, tl_ok hr1 ht, sb, wa_st (nT7 h1.1 ht) (by omega) (by omega), sb, gr_st, tl_ok hr1 ht, sb, wa_st (nT8 h2.1 ht) (by omega) (by omega), sb, w_addDrop (D := D) h3.1 hD1 (by omega), sb, if_neg (by omega)]
    refine ok_some ⟨?_, ?_⟩
    · unfold adD
      exact iv_sfS (iv_st (iv_st h3 (by omega) (by omega)) (by omega) (by omega)) mS22 (by omega)
    · unfold adD
      show gf (sf _ 22 1 _) 0 1 = _
      rw [gf_sf, if_neg (by omega)]
      exact f1 0 1 (by omega)
  · rw [e, sb, if_pos rfl]
    exact rf_ _
theorem a_cancel {S : HS} {v : Int32} (hI : IvD S) : Ok (GoD S) (s_X7_cancel v S) := by
  obtain ⟨t, ht, hr⟩ := hI.2.2.1
  obtain ⟨D, h20, hD⟩ := hI.2.2.2.2.2.1 22 mS22
  unfold s_X7_cancel
  rcases k_isSo (v := v) (w := 0) hI ht hr hD h20 with ⟨d, hd, rfl, _, e⟩ | ⟨e, _⟩
  · rw [e, sb, if_neg (by decide), q_loaded (b := 23) (nD24 hI.1) (nD25 hI.1), sb]
    refine ok_ite (fun _ => ?_) (fun _ => ok_some ⟨hI, rfl⟩)
    obtain ⟨S1, e1, h1, f1, _, _, _⟩ := k_keep hI
    rw [e1, sb, wa_st (nD28 h1.1) (by omega) (by omega), sb]
    exact ok_some ⟨iv_st h1 (by omega) (by omega), f1 0 1 (by omega)⟩
  · rw [e, sb, if_pos rfl]
    exact ok_some ⟨hI, rfl⟩
theorem a_put {S : HS} {v w : Int32} (hI : IvD S) : Ok (GoD S) (s_X7_put v w S) := by
  obtain ⟨t, ht, hr⟩ := hI.2.2.1
  obtain ⟨N, h5, hN⟩ := (hI.2.2.2.2.1 t ht).1
  obtain ⟨D, h20, hD⟩ := hI.2.2.2.2.2.1 22 mS22
  have hn := isT_num ht
  have rf_ : ∀ x : Int32, Ok (GoD S) (some (x, S)) := fun x => ok_some ⟨hI, rfl⟩
  unfold s_X7_put
  rw [tl_ok hr ht]
  simp only [sb]
  rcases q_hasC (v := v) hN h5 with ⟨c, hc, rfl, e⟩ | ⟨e, _⟩
  · rw [e, sb, if_neg (by decide)]
    rcases k_isSo (v := w) (w := 0) hI ht hr hD h20 with ⟨d, hd, rfl, _, e⟩ | ⟨e, _⟩
    · obtain ⟨q, hq, eq⟩ := (hI.2.2.2.2.1 t ht).2.2.2 d (by omega)
      rw [e, sb, if_pos (by decide), ag_ok (nD24 hI.1) (by omega) (by omega), sb]
      refine ok_ite (fun _ => ?_) (fun _ => rf_ _)
      rw [ag_ok (nT7 hI.1 ht) (by omega) (by omega), sb, eq, ag_ok (nD26 hI.1) (by omega) (by omega), sb, q_barred, sb]
      refine ok_ite (fun _ => ?_) (fun _ => rf_ _)
      rw [q_top hI.1 ht (by omega), sb]
      refine ok_ite (fun _ => ?_) (fun _ => rf_ _)
      obtain ⟨S1, e1, h1, f1, r1, _, _⟩ := k_keep hI
      have hr1 : gr S1 0 4 = .ref t := (r1 0 4).trans hr
      rw [e1, sb, tl_ok hr1 ht]
      simp only [sb]
      rw [ag_ok (nT8 h1.1 ht) (by omega) (by omega), sb, q_loaded (b := 23) (nD24 h1.1) (nD25 h1.1), sb, w_lay h1.1 mC23 ht (by omega) hq, sb]
      exact ok_some ⟨iv_layC h1, f1 0 1 (by omega)⟩
    · rw [e, sb, if_neg (by decide)]
      exact rf_ _
  · rw [e, sb, if_pos rfl]
    exact rf_ _
theorem a_load {S : HS} (hI : IvD S) : Ok (GoD S) (s_X7_load S) := by
  obtain ⟨t, ht, hr⟩ := hI.2.2.1
  have hn := isT_num ht
  unfold s_X7_load
  rw [tl_ok hr ht, sb]
  refine ok_bind (k_plan hI ht) ?_
  rintro ⟨x, S1⟩ ⟨hx, h1, f⟩
  dsimp only
  have g1 : gf S1 0 1 = gf S 0 1 := (f.1 0 1 (by unfold wP; omega)).1
  have hr1 : gr S1 0 4 = .ref t := by
    rw [(f.1 0 4 (by unfold wP; omega)).2]
    exact hr
  obtain ⟨S2, e2, h2, f2, r2, _, _⟩ := k_keep h1
  have hr2 : gr S2 0 4 = .ref t := (r2 0 4).trans hr1
  obtain ⟨N, h5, hN⟩ := (h2.2.2.2.2.1 t ht).1
  obtain ⟨D, h20, hD⟩ := h2.2.2.2.2.2.1 22 mS22
  have L : ∀ (m j : Nat) (S' : HS) (K : Nat), IvD S' → gf S' 0 1 = gf S 0 1 → gr S' 0 4 = .ref t → gf S' t 1 = nI N → gf S' 22 1 = nI D → j + m = N → m < K → Ok (GoD S) (s_X7_load_L46 K (nI j) S') := by
    intro m
    induction m with
    | zero =>
      intro j S' K hI' hg hr' hN' hD' h3 h4
      obtain ⟨K, rfl⟩ : ∃ k, K = k + 1 := ⟨K - 1, by omega⟩
      rw [s_X7_load_L46, tl_ok hr' ht, sb, hN', if_pos (nI_le (by omega) (by omega))]
      exact ok_some ⟨hI', hg⟩
    | succ m ih =>
      intro j S' K hI' hg hr' hN' hD' h3 h4
      obtain ⟨K, rfl⟩ : ∃ k, K = k + 1 := ⟨K - 1, by omega⟩
      rw [s_X7_load_L46, tl_ok hr' ht]
      simp only [sb]
      rw [hN', if_neg (nI_ge (by omega) (by omega)), ag_ok (nD135 hI'.1) (by omega) (by omega), sb, ← nI_succ]
      rcases q_hasD (v := (ga S' 135).getD j 0) hD' h20 with ⟨d, hd, ed, e⟩ | ⟨e, _⟩
      · obtain ⟨q, hq, eq⟩ := (hI'.2.2.2.2.1 t ht).2.2.2 d (by omega)
        rw [e, sb, if_neg (by decide), ed, ag_ok (nT7 hI'.1 ht) (by omega) (by omega), sb, eq, ag_ok (nD136 hI'.1) (by omega) (by omega), sb, w_lay hI'.1 mC23 ht (by omega) hq, sb]
        exact ih _ _ _ (iv_layC hI') hg hr' hN' hD' (by omega) (by omega)
      · rw [e, sb, if_pos rfl]
        exact ih _ _ _ hI' hg hr' hN' hD' (by omega) (by omega)
  refine ok_ite (fun _ => ok_ite (fun _ => ?_) (fun _ => ok_some ⟨h1, g1⟩)) (fun _ => ok_some ⟨h1, g1⟩)
  rw [e2, sb]
  exact L N 0 S2 40 h2 ((f2 0 1 (by omega)).trans g1) hr2 hN hD (by omega) (by omega)
theorem a_unload {S : HS} {v w : Int32} (hI : IvD S) : Ok (GoD S) (s_X7_unload v w S) := by
  obtain ⟨t, ht, hr⟩ := hI.2.2.1
  obtain ⟨N, h5, hN⟩ := (hI.2.2.2.2.1 t ht).1
  obtain ⟨D, h20, hD⟩ := hI.2.2.2.2.2.1 22 mS22
  have rf_ : ∀ x : Int32, Ok (GoD S) (some (x, S)) := fun x => ok_some ⟨hI, rfl⟩
  unfold s_X7_unload
  rcases k_isSo (v := v) (w := 1) hI ht hr hD h20 with ⟨d, hd, rfl, _, e⟩ | ⟨e, _⟩
  · rw [e, sb, if_neg (by decide)]
    refine ok_ite (fun _ => rf_ _) (fun _ => ?_)
    rw [q_loaded (b := 23) (nD24 hI.1) (nD25 hI.1), sb]
    refine ok_ite (fun _ => ?_) (fun _ => rf_ _)
    rw [q_partsOf (b := 23) (nD25 hI.1), sb, tl_ok hr ht, sb, q_standing hI.1 mC23 ht hN h5, sb]
    refine ok_ite (fun _ => ?_) (fun _ => rf_ _)
    obtain ⟨S1, e1, h1, f1, r1, _, _⟩ := k_keep hI
    have hQ : ∀ v : Int32, let S2 := up (fun j S => if bt v j then toC S 23 j else S) 5 0 S1; IvD S2 ∧ gf S2 0 1 = gf S1 0 1 ∧ gr S2 0 4 = gr S1 0 4 := fun v => up_P (P := fun S2 => IvD S2 ∧ gf S2 0 1 = gf S1 0 1 ∧ gr S2 0 4 = gr S1 0 4) (fun j S h => by
      show IvD (if _ then _ else _) ∧ gf (if _ then _ else _) 0 1 = _ ∧ gr (if _ then _ else _) 0 4 = _
      split
      · exact ⟨iv_toC h.1, h.2⟩
      · exact h) 5 0 S1 ⟨h1, rfl, rfl⟩
    obtain ⟨h2, g2, r2⟩ := hQ (pD 23 (nI d) S)
    have hr2 := (r2.trans (r1 0 4)).trans hr
    rw [e1, sb, w_takeAll h1.1 mC23, sb, wa_st (nD28 h2.1) (by omega) (by omega), sb, wa_st (nD29 h2.1.st) (by omega) (by omega), sb, gr_st, gr_st, tl_ok hr2 ht, sb, q_short h2.1.st.st ht (by omega), sb]
    exact ok_some ⟨iv_st (iv_st h2 (by omega) (by omega)) (by omega) (by omega), g2.trans (f1 0 1 (by omega))⟩
  · rw [e, sb, if_pos rfl]
    exact rf_ _
theorem a_empty {S : HS} {v : Int32} (hI : IvD S) : Ok (GoD S) (s_X7_empty v S) := by
  obtain ⟨t, ht, hr⟩ := hI.2.2.1
  obtain ⟨N, h5, hN⟩ := (hI.2.2.2.2.1 t ht).1
  obtain ⟨D, h20, hD⟩ := hI.2.2.2.2.2.1 22 mS22
  have rf_ : ∀ x : Int32, Ok (GoD S) (some (x, S)) := fun x => ok_some ⟨hI, rfl⟩
  unfold s_X7_empty
  rw [tl_ok hr ht]
  simp only [sb]
  rcases q_hasC (v := v) hN h5 with ⟨c, hc, rfl, e⟩ | ⟨e, _⟩
  · have J : Ok (GoD S) (s_X7_empty_J66 (nI c) S) := by
      obtain ⟨S1, e1, h1, f1, r1, _, _⟩ := k_keep hI
      unfold s_X7_empty_J66
      rw [e1, sb, ag_ok (nD24 h1.1) (by omega) (by omega), sb, w_takeOut h1.1 mC23 (by omega), sb]
      exact ok_some ⟨iv_toC h1, f1 0 1 (by omega)⟩
    rw [e, sb, if_neg (by decide), ag_ok (nD24 hI.1) (by omega) (by omega), sb]
    refine ok_ite (fun _ => ?_) (fun _ => rf_ _)
    rw [ag_ok (nD25 hI.1) (by omega) (by omega), sb]
    rcases k_isSo (v := (ga S 25).getD c 0) (w := 1) hI ht hr hD h20 with ⟨d, hd, _, _, e⟩ | ⟨e, _⟩
    · rw [e, sb, if_neg (by decide), q_waiting hI.1 ht hD h20, sb]
      exact ok_ite (fun _ => J) (fun _ => rf_ _)
    · rw [e, sb, if_pos rfl]
      exact J
  · rw [e, sb, if_pos rfl]
    exact rf_ _
theorem a_wash {S : HS} {v : Int32} (hI : IvD S) : Ok (GoD S) (s_X7_wash v S) := by
  obtain ⟨t, ht, hr⟩ := hI.2.2.1
  obtain ⟨N, h5, hN⟩ := (hI.2.2.2.2.1 t ht).1
  have rf_ : ∀ x : Int32, Ok (GoD S) (some (x, S)) := fun x => ok_some ⟨hI, rfl⟩
  unfold s_X7_wash
  rw [tl_ok hr ht, sb]
  rcases q_hasC (v := v) hN h5 with ⟨c, hc, rfl, e⟩ | ⟨e, _⟩
  · rw [e, sb, if_neg (by decide), ag_ok (nD24 hI.1) (by omega) (by omega), sb]
    refine ok_ite (fun _ => rf_ _) (fun _ => ?_)
    rw [ag_ok (nD26 hI.1) (by omega) (by omega), sb]
    refine ok_ite (fun _ => ?_) (fun _ => rf_ _)
    obtain ⟨S1, e1, h1, f1, r1, _, _⟩ := k_keep hI
    rw [e1, sb, wa_st (nD26 h1.1) (by omega) (by omega), sb, pf_ok, sb]
    refine ok_some ⟨iv_sf (iv_st h1 (by omega) (by omega)) (by omega) (by omega) (by omega) (by omega), ?_⟩
    show gf (sf _ 22 4 _) 0 1 = _
    rw [gf_sf, if_neg (by omega)]
    exact f1 0 1 (by omega)
  · rw [e, sb, if_pos rfl]
    exact rf_ _
theorem k_goBack {S : HS} (hI : IvD S) : Ok (GoD S) (s_X1_goBack S) := by
  obtain ⟨a, h9, ha⟩ := hI.2.2.2.2.2.2.1
  obtain ⟨k, h10, hk⟩ := hI.2.2.2.2.2.2.2
  unfold s_X1_goBack
  rw [hk]
  cases k with
  | zero =>
    rw [if_neg (by decide)]
    exact ok_some ⟨hI, rfl⟩
  | succ k =>
    have J : ∀ b, b < 10 → Ok (GoD S) (s_X1_goBack_J28 (nI b) S) := by
      intro b hb
      have h1 : IvD (sf S 30 1 (nI b)) := iv_h1 hI hb
      have h2 : IvD (sf (sf S 30 1 (nI b)) 30 2 (nI k)) := iv_h2 h1 (by omega)
      have e1 : gf (sf (sf S 30 1 (nI b)) 30 2 (nI k)) 30 1 = nI b := rfl
      have e2 : gf (sf S 30 1 (nI b)) 30 2 = nI (k + 1) := hk
      unfold s_X1_goBack_J28
      rw [pf_ok, sb, e2, nI_pred, pf_ok, sb, e1, rw_ok hb, sb, w_copyS h2.1 mS22 (isS_row hb) (by omega), sb]
      refine ok_some ⟨iv_cpS h2 mS22 (isS_row hb), ?_⟩
      show gf (cpS _ 22 _) 0 1 = _
      rw [gf_cpS (by omega), gf_sf, if_neg (by omega), gf_sf, if_neg (by omega)]
    refine ok_ite (fun _ => ok_ite (fun _ => J 9 (by omega)) (fun z => ?_)) (fun _ => ok_some ⟨hI, rfl⟩)
    rw [ha] at z ⊢
    cases a with
    | zero => exact absurd (by decide) z
    | succ a =>
      rw [nI_pred]
      exact J a (by omega)
theorem a_undo {S : HS} (hI : IvD S) : Ok (GoD S) (s_X7_undo S) := by
  unfold s_X7_undo
  refine ok_bind (k_goBack hI) (fun q h => ?_)
  exact ok_ite (fun _ => ok_some h) (fun _ => ok_some h)
