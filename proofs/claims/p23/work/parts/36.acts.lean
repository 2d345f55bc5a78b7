/-! the desk's methods answer -/
abbrev GoD (S : HS) (r : Int32 × HS) : Prop := IvD r.2 ∧ gf r.2 0 1 = gf S 0 1
theorem a_fault {S : HS} : Ok (fun _ => True) (s_X7_fault S) := ok_some trivial
theorem a_now {S : HS} {v : Int32} (hI : IvD S) : Ok (fun _ => True) (s_X7_now v S) := by
  obtain ⟨t, ht, hr⟩ := hI.2.2.1
  obtain ⟨N, h5, hN⟩ := (hI.2.2.2.2.1 t ht).1
  unfold s_X7_now
  rw [tl_ok hr ht]
  simp only [sb]
  rw [q_front hI.1 mC23 ht hN h5, q_rear hI.1 mC23 ht hN h5, q_standing hI.1 mC23 ht hN h5]
  simp only [sb]
  refine ok_ite (fun _ => ok_some trivial) (fun _ => ok_ite (fun _ => ok_some trivial) (fun _ => ok_ite (fun _ => ok_some trivial) (fun _ => ok_ite (fun _ => ?_) (fun _ => ok_ite (fun _ => ok_some trivial) (fun _ => ok_ite (fun _ => ok_some trivial) (fun _ => ok_ite (fun _ => ok_some trivial) (fun _ => ok_ite (fun _ => ok_some trivial) (fun _ => ok_ite (fun _ => ok_some trivial) (fun _ => ok_ite (fun _ => ok_some trivial) (fun _ => ok_some trivial))))))))))
  unfold s_J13_bitCount_95d88
  simp only [sb]
  exact ok_some trivial
theorem a_compartment {S : HS} {v w : Int32} (hI : IvD S) : Ok (fun _ => True) (s_X7_compartment v w S) := by
  obtain ⟨t, ht, hr⟩ := hI.2.2.1
  obtain ⟨N, h5, hN⟩ := (hI.2.2.2.2.1 t ht).1
  unfold s_X7_compartment
  rw [tl_ok hr ht]
  simp only [sb]
  rcases q_hasC (v := v) hN h5 with ⟨c, hc, rfl, e⟩ | ⟨e, _⟩
  · rw [e]
    simp only [sb]
    rw [if_pos (by decide), ag_ok (nT2 hI.1 ht) (by omega) (by omega), ag_ok (nT3 hI.1 ht) (by omega) (by omega), ag_ok (nT4 hI.1 ht) (by omega) (by omega), q_top hI.1 ht (by omega), ag_ok (nD24 hI.1) (by omega) (by omega), ag_ok (nD25 hI.1) (by omega) (by omega), ag_ok (nD26 hI.1) (by omega) (by omega)]
    simp only [sb]
    exact ok_ite (fun _ => ok_some trivial) (fun _ => ok_ite (fun _ => ok_some trivial) (fun _ => ok_ite (fun _ => ok_some trivial) (fun _ => ok_ite (fun _ => ok_some trivial) (fun _ => ok_ite (fun _ => ok_some trivial) (fun _ => ok_ite (fun _ => ok_some trivial) (fun _ => ok_ite (fun _ => ok_some trivial) (fun _ => ok_some trivial)))))))
  · rw [e, sb, if_neg (by decide)]
    exact ok_some trivial
/-- drop: refused (it throws), or it answers -/
theorem a_drop {S : HS} {v w : Int32} (hI : IvD S) : (s_X5_hasDrop v S = some 0) ∨ (s_X5_hasDrop v S = some 1 ∧ (w < 0 ∨ ¬ w ≤ 5)) ∨ Ok (fun _ => True) (s_X7_drop v w S) := by
  obtain ⟨t, ht, hr⟩ := hI.2.2.1
  obtain ⟨D, h20, hD⟩ := hI.2.2.2.2.2.1 22 mS22
  rcases q_hasD (v := v) hD h20 with ⟨d, hd, rfl, e⟩ | ⟨e, _⟩
  · by_cases w1 : w < 0
    · exact Or.inr (Or.inl ⟨e, Or.inl w1⟩)
    · by_cases w2 : w ≤ 5
      · refine Or.inr (Or.inr ?_)
        unfold s_X7_drop
        rw [e, sb, if_neg (by decide), if_neg w1, if_pos w2, tl_ok hr ht]
        simp only [sb]
        rw [ag_ok (nT7 hI.1 ht) (by omega) (by omega), ag_ok (nT8 hI.1 ht) (by omega) (by omega), q_loaded (b := 23) (nD24 hI.1) (nD25 hI.1), q_how hI.1 ht (by omega), ag_ok (nD29 hI.1) (by omega) (by omega), q_short hI.1 ht (by omega)]
        simp only [sb]
        exact ok_ite (fun _ => ok_some trivial) (fun _ => ok_ite (fun _ => ok_some trivial) (fun _ => ok_ite (fun _ => ok_some trivial) (fun _ => ok_ite (fun _ => ok_some trivial) (fun _ => ok_ite (fun _ => ok_some trivial) (fun _ => ok_some trivial)))))
      · exact Or.inr (Or.inl ⟨e, Or.inr w2⟩)
  · exact Or.inl e
theorem a_may {S : HS} {v w : Int32} (hI : IvD S) : Ok (fun _ => True) (s_X7_may v w S) := by
  obtain ⟨t, ht, hr⟩ := hI.2.2.1
  obtain ⟨N, h5, hN⟩ := (hI.2.2.2.2.1 t ht).1
  obtain ⟨M, h6, hM⟩ := (hI.2.2.2.2.1 t ht).2.1
  unfold s_X7_may
  rw [tl_ok hr ht]
  simp only [sb]
  rcases q_hasC (v := v) hN h5 with ⟨c, hc, rfl, e⟩ | ⟨e, _⟩
  · rw [e, sb, if_neg (by decide)]
    rcases q_hasL (v := w) hM h6 with ⟨q, hq, rfl, e⟩ | ⟨e, _⟩
    · rw [e, sb, if_neg (by decide), ag_ok (nD26 hI.1) (by omega) (by omega), sb, q_barred, sb]
      exact ok_ite (fun _ => ok_some trivial) (fun _ => ok_some trivial)
    · rw [e, sb, if_pos rfl]
      exact ok_some trivial
  · rw [e, sb, if_pos rfl]
    exact ok_some trivial
theorem a_would {S : HS} {v w x : Int32} (hI : IvD S) : Ok (GoD S) (s_X7_would v w x S) := by
  obtain ⟨t, ht, hr⟩ := hI.2.2.1
  obtain ⟨N, h5, hN⟩ := (hI.2.2.2.2.1 t ht).1
  obtain ⟨M, h6, hM⟩ := (hI.2.2.2.2.1 t ht).2.1
  have hn := isT_num ht
  unfold s_X7_would
  rw [tl_ok hr ht]
  simp only [sb]
  rcases q_hasC (v := v) hN h5 with ⟨c, hc, rfl, e⟩ | ⟨e, _⟩
  · rw [e, sb, if_neg (by decide)]
    rcases q_hasL (v := w) hM h6 with ⟨q, hq, rfl, e⟩ | ⟨e, _⟩
    · rw [e, sb, if_neg (by decide), ag_ok (nT2 hI.1 ht) (by omega) (by omega), sb]
      refine ok_ite (fun _ => ok_some ⟨hI, rfl⟩) (fun _ => ok_ite (fun _ => ?_) (fun _ => ok_some ⟨hI, rfl⟩))
      have h1 : IvD (cpC S 112 23) := iv_cpC hI mC112 mC23
      have h2 : IvD (layC (cpC S 112 23) 112 t c (-1) q x) := by
        unfold layC
        exact iv_st (iv_st (iv_st (iv_st h1 (by omega) (by omega)) (by omega) (by omega)) (by omega) (by omega)) (by omega) (by omega)
      rw [w_copyC hI.1 mC112 mC23 (by omega), sb, show gr (cpC S 112 23) 0 4 = gr S 0 4 from rfl, tl_ok hr ht, sb, w_lay h1.1 mC112 ht (by omega) (by omega), sb, show gr (layC (cpC S 112 23) 112 t c (-1) q x) 0 4 = gr S 0 4 from rfl, tl_ok hr ht, sb, q_standing h2.1 mC112 ht (N := N) hN h5, sb]
      exact ok_some ⟨h2, rfl⟩
    · rw [e, sb, if_pos rfl]
      exact ok_some ⟨hI, rfl⟩
  · rw [e, sb, if_pos rfl]
    exact ok_some ⟨hI, rfl⟩
theorem c_count {S : HS} {t N D : Nat} (hI : IvD S) (ht : isT t) (hN : gf S t 1 = nI N) (h5 : N ≤ 5) (h20 : D ≤ 20) : Ok (fun r => GoD S r ∧ ∃ A, A ≤ 5 ∧ gf r.2 117 0 = nI A) (s_X2_count 117 t 23 (nI D) S) := by
  refine ok_mono (ok_and (k_count hI.1 mO117 ht mC23 h20 hN h5) (fs_X2_count (o := 117) fr_rf)) ?_
  rintro r ⟨hA, f⟩
  exact ⟨⟨iv_hi hI f (fun k j w => by unfold wO at w; omega), (f.1 0 1 (by unfold wO; omega)).1⟩, hA⟩
theorem a_orders {S : HS} (hI : IvD S) : Ok (GoD S) (s_X7_orders S) := by
  obtain ⟨t, ht, hr⟩ := hI.2.2.1
  obtain ⟨N, h5, hN⟩ := (hI.2.2.2.2.1 t ht).1
  obtain ⟨D, h20, hD⟩ := hI.2.2.2.2.2.1 22 mS22
  unfold s_X7_orders
  rw [tl_ok hr ht, sb, hD]
  exact ok_bind (c_count hI ht hN h5 h20) (fun q h => ok_some h.1)
theorem k_first {S : HS} {o A : Nat} {v : Int32} (hL : LnD S) (ho : isO o) (hA : gf S o 0 = nI A) (h5 : A ≤ 5) : Ok (fun _ => True) (s_X2_dropOfFirst o v S) := by
  have e0 : ag (ga S (o + 3)) (0 : Int32) = some ((ga S (o + 3)).getD 0 0) := ag_ok (k := 0) (nO3 hL ho) (by omega) (by omega)
  unfold s_X2_dropOfFirst
  rw [hA, e0, sb]
  rcases pk_ix v (n := A) (by omega) with h | h | ⟨c, hc, rfl⟩
  · rw [if_pos h]
    exact ok_some trivial
  · refine ok_ite (fun _ => ok_some trivial) (fun _ => ?_)
    rw [if_pos h]
    exact ok_some trivial
  · rw [if_neg (nI_pos (by omega)), if_neg (nI_ge hc (by omega))]
    refine ok_ite (fun _ => ?_) (fun _ => ok_some trivial)
    have L : ∀ (m k : Nat) (x : Int32) (u : Nat) (K : Nat), k + m = c + 1 → u < 32 → (k = 0 ∨ ∃ i, i < 5 ∧ x = nI i) → m < K → Ok (fun _ => True) (s_X2_dropOfFirst_L30 o (nI c) S K (nI u) x (nI k)) := by
      intro m
      induction m with
      | zero =>
        intro k x u K h3 hu hx h4
        obtain ⟨K, rfl⟩ : ∃ k, K = k + 1 := ⟨K - 1, by omega⟩
        rw [s_X2_dropOfFirst_L30, if_pos (nI_lt (by omega) (by omega))]
        rcases hx with hx | ⟨i, hi, rfl⟩
        · omega
        · rw [ag_ok (nO1 hL ho) hi (by omega), sb]
          exact ok_some trivial
      | succ m ih =>
        intro k x u K h3 hu hx h4
        obtain ⟨K, rfl⟩ : ∃ k, K = k + 1 := ⟨K - 1, by omega⟩
        rw [s_X2_dropOfFirst_L30, if_neg (nI_nlt (by omega) (by omega)), q_least hL ho hA h5 hu, sb]
        cases hq : lsD o u S A 0 with
        | none =>
          rw [show oI1 none = -1 from rfl, if_neg (by decide)]
          exact ok_some trivial
        | some i =>
          have hi := lsD_lt _ _ _ hq
          rw [show oI1 (some i) = nI i from rfl, or_ix hu (by omega), ← nI_succ]
          refine ok_ite (fun _ => ?_) (fun _ => ok_some trivial)
          exact ih _ _ _ _ (by omega) (or_lt32 hu (by omega)) (Or.inr ⟨i, by omega, rfl⟩) (by omega)
    exact L (c + 1) 0 (-1) 0 40 (by omega) (by omega) (Or.inl rfl) (by omega)
theorem a_ordered {S : HS} {v : Int32} (hI : IvD S) : Ok (GoD S) (s_X7_ordered v S) := by
  obtain ⟨t, ht, hr⟩ := hI.2.2.1
  obtain ⟨N, h5, hN⟩ := (hI.2.2.2.2.1 t ht).1
  obtain ⟨D, h20, hD⟩ := hI.2.2.2.2.2.1 22 mS22
  unfold s_X7_ordered
  rw [tl_ok hr ht, sb, hD]
  refine ok_bind (c_count hI ht hN h5 h20) ?_
  rintro q ⟨h, A, hA, eA⟩
  exact ok_bind (k_first h.1.1 mO117 eA hA) (fun x _ => ok_some h)
theorem k_isSo {S : HS} {v w : Int32} (hI : IvD S) {t D : Nat} (ht : isT t) (hr : gr S 0 4 = .ref t) (hD : gf S 22 1 = nI D) (h20 : D ≤ 20) : (∃ d, d < D ∧ v = nI d ∧ howD t d S = w ∧ s_X7_isSo v w S = some 1) ∨ (s_X7_isSo v w S = some 0 ∧ ∀ d, d < D → v = nI d → howD t d S ≠ w) := by
  unfold s_X7_isSo
  rcases q_hasD (v := v) hD h20 with ⟨d, hd, rfl, e⟩ | ⟨e, hno⟩
  · rw [e, sb, if_neg (by decide), tl_ok hr ht, sb, q_how hI.1 ht (by omega), sb]
    by_cases c : howD t d S = w
    · rw [if_neg (fun z => z c)]
      exact Or.inl ⟨d, hd, rfl, c, rfl⟩
    · rw [if_pos c]
      refine Or.inr ⟨rfl, ?_⟩
      intro d' hd' ed
      rw [nI_eq (by omega) (by omega)] at ed
      rw [← ed]
      exact c
  · rw [e, sb, if_pos rfl]
    exact Or.inr ⟨rfl, fun d hd ed => absurd ed (hno d hd)⟩
theorem a_without {S : HS} {v : Int32} (hI : IvD S) : Ok (fun _ => True) (s_X7_without v S) := by
  obtain ⟨t, ht, hr⟩ := hI.2.2.1
  obtain ⟨N, h5, hN⟩ := (hI.2.2.2.2.1 t ht).1
  obtain ⟨D, h20, hD⟩ := hI.2.2.2.2.2.1 22 mS22
  unfold s_X7_without
  rcases k_isSo (v := v) (w := 1) hI ht hr hD h20 with ⟨d, hd, rfl, _, e⟩ | ⟨e, _⟩
  · rw [e, sb, if_pos (by decide), tl_ok hr ht, sb, q_partsOf (b := 23) (nD25 hI.1), sb, q_standing hI.1 mC23 ht hN h5, sb]
    exact ok_some trivial
  · rw [e, sb, if_neg (by decide)]
    exact ok_some trivial
theorem a_plan {S : HS} {v : Int32} (hI : IvD S) : Ok (GoD S) (s_X7_plan v S) := by
  obtain ⟨t, ht, hr⟩ := hI.2.2.1
  unfold s_X7_plan
  rw [tl_ok hr ht, sb]
  refine ok_bind (k_plan hI ht) ?_
  rintro ⟨x, S1⟩ ⟨hx, h1, f⟩
  have g : GoD S (x, S1) := ⟨h1, (f.1 0 1 (by unfold wP; omega)).1⟩
  have hr1 : gr S1 0 4 = .ref t := by
    rw [(f.1 0 4 (by unfold wP; omega)).2]
    exact hr
  obtain ⟨N, h5, hN⟩ := (h1.2.2.2.2.1 t ht).1
  dsimp only
  have hs : ∀ y : Int32, Ok (GoD S) (some (y, S1)) := fun y => ok_some ⟨h1, g.2⟩
  have J : Ok (GoD S) (s_X7_plan_J79 v S1) := by
    unfold s_X7_plan_J79
    refine ok_ite (fun _ => hs _) (fun _ => ?_)
    rw [tl_ok hr1 ht, sb]
    rcases q_hasC (v := v - 20) hN h5 with ⟨c, hc, e2, e⟩ | ⟨e, _⟩
    · rw [e, sb, if_neg (by decide), e2, ag_ok (nD136 h1.1) (by omega) (by omega), sb]
      exact hs _
    · rw [e, sb, if_pos rfl]
      exact hs _
  refine ok_ite (fun _ => ok_ite (fun _ => ok_ite (fun _ => ok_ite (fun _ => J) (fun _ => ?_)) (fun _ => hs _)) (fun _ => hs _)) (fun _ => hs _)
  rw [tl_ok hr1 ht, sb]
  rcases q_hasC (v := v - 10) hN h5 with ⟨c, hc, e2, e⟩ | ⟨e, _⟩
  · rw [e, sb, if_neg (by decide), e2, ag_ok (nD135 h1.1) (by omega) (by omega), sb]
    exact hs _
  · rw [e, sb, if_pos rfl]
    exact J
theorem a_washes {S : HS} (hI : IvD S) : Ok (GoD S) (s_X7_washes S) := by
  obtain ⟨t, ht, hr⟩ := hI.2.2.1
  unfold s_X7_washes
  rw [tl_ok hr ht, sb]
  refine ok_bind (k_fewest hI ht) ?_
  rintro ⟨x, S1⟩ ⟨h1, f⟩
  have g : GoD S (x, S1) := ⟨h1, (f.1 0 1 (by unfold wP; omega)).1⟩
  exact ok_ite (fun _ => ok_some g) (fun _ => ok_some g)
