/-! load, alike -/
theorem e_load {S M : HS} {t : Nat} {A : Nat → Nat} (h : FH S M t A) : ∃ v S1 M1 A1, s_X7_load S = some (v, S1) ∧ s_X8_load M = some (v, M1) ∧ FH S1 M1 t A1 := by
  have h := h.thrown (x := 0)
  obtain ⟨hF, hH⟩ := h
  obtain ⟨S1, M1, e1, e2, hF1, hB, fS, fM'⟩ := e_plan hF
  have hH1 : HR S1 M1 A := hH.of Tl.rf (fun k j _ hk => (fS.1 k j (by unfold wP; omega)).1) (fun k _ hk => fS.2.2.1 k (by unfold wP; omega)) (fM'.1 137 14 (by unfold wM; omega)).1 (fM'.2.2.1 141 (by unfold wM; omega))
  have hW := hF.2.2.2.2.2.2.2
  have h5 := hW.1.1
  have h20 := hW.1.2.2.2.2.1
  have h6 := hW.1.2.1
  have ht := hF.2.2.2.1
  have hr := hF.2.2.1
  unfold s_X7_load s_X8_load
  rw [pf_ok, sb, tl_ok hr ht, sb, e1, sb, e2, sb]
  dsimp only
  rcases hB with ⟨f0, m26⟩ | ⟨f1, G, sv, us, hV, hK, hsv, hus, d14, m26, d15, m27, hrow⟩
  · rw [f0, i0n, m26, if_neg (show ¬ (-1 : Int32) ≠ -1 by decide)]
    exact ⟨-2, S1, M1, A, rfl, rfl, hF1, hH1⟩
  · rw [f1, i1n, d14, m26, if_pos (show nI sv ≠ (-1 : Int32) from nI_nm (by omega))]
    by_cases z : sv = 0
    · rw [z, if_neg (show ¬ nI 0 ≠ 0 by decide), if_neg (show ¬ nI 0 ≠ 0 by decide)]
      exact ⟨-1, S1, M1, A, rfl, rfl, hF1, hH1⟩
    · rw [if_pos (nI_ne0 (n := sv) (by omega) (by omega)), if_pos (nI_ne0 (n := sv) (by omega) (by omega))]
      obtain ⟨S2, M2, k1, k2, hF2, hH2, g1, g2, g3, g4, g4f, fZ⟩ := h_keep hF1 hH1
      rw [k1, sb, k2, sb]
      have L : ∀ (m c : Nat) (S' M' : HS) (B : Nat → Nat) (K K2 : Nat), c + m = A 9 → m < K → m < K2 → FS S' M' t B → HR S' M' B → ga S' 135 = ga S1 135 → ga S' 136 = ga S1 136 → ga M' 149 = ga M1 149 → ga M' 150 = ga M1 150 → gf S' 121 14 = nI sv → gf M' 137 26 = nI sv → Tl B A → Tl A B → (∀ i, c ≤ i → i < 5 → B (31 + 6 * i) = A (31 + 6 * i)) → (∀ d, d < A 13 → ldA B d 5 = ldA A d 5 + (lkA A d - lfA A G d c)) → (∀ d, d < A 13 → wtA A d = true → B (59 + 5 * d) ≤ 1) → ∃ S3 M3 A3, s_X7_load_L46 K (nI c) S' = some (nI sv, S3) ∧ s_X8_load_L36 K2 (nI c) M' = some (nI sv, M3) ∧ FH S3 M3 t A3 := by
        intro m
        induction m with
        | zero =>
          intro c S' M' B K K2 h1 h2 h3 hF' hH' r1 r2 r3 r4 r5 r6 tB tA ho hl hs
          obtain ⟨K, rfl⟩ : ∃ k, K = k + 1 := ⟨K - 1, by omega⟩
          obtain ⟨K2, rfl⟩ : ∃ k, K2 = k + 1 := ⟨K2 - 1, by omega⟩
          have b9 : B 9 = A 9 := (tA.1 9 (by omega))
          rw [s_X7_load_L46, tl_ok hF'.2.2.1 ht, sb, hF'.2.2.2.2.1.1, b9, if_pos (nI_le (by omega) (by omega)), s_X8_load_L36, m_at hF'.2.1 (x := 9) (i := 9) rfl (by omega), sb, (show fM M' 9 = nI (B 9) from hF'.2.2.2.2.2.2.1 9 (by omega)), b9, if_pos (nI_le (by omega) (by omega)), r5, r6]
          exact ⟨S', M', B, rfl, rfl, hF', hH'⟩
        | succ m ih =>
          intro c S' M' B K K2 h1 h2 h3 hF' hH' r1 r2 r3 r4 r5 r6 tB tA ho hl hs
          obtain ⟨K, rfl⟩ : ∃ k, K = k + 1 := ⟨K - 1, by omega⟩
          obtain ⟨K2, rfl⟩ : ∃ k, K2 = k + 1 := ⟨K2 - 1, by omega⟩
          have b9 : B 9 = A 9 := (tA.1 9 (by omega))
          have b13 : B 13 = A 13 := by
            have q1 := tA.2.2.2.1
            have q2 := tB.2.2.2.1
            omega
          obtain ⟨w1, w2, w3, w4⟩ := hrow c (by omega)
          have hL' := hF'.1
          have hLM' := hF'.2.1
          rw [s_X7_load_L46, tl_ok hF'.2.2.1 ht]
          simp only [sb]
          rw [hF'.2.2.2.2.1.1, b9, if_neg (show ¬ nI (A 9) ≤ nI c from nI_ge (by omega) (by omega)), ag_ok (nD135 hL') (by omega) (by omega), sb, r1, w1, s_X8_load_L36, m_at hLM' (x := 9) (i := 9) rfl (by omega), sb, (show fM M' 9 = nI (B 9) from hF'.2.2.2.2.2.2.1 9 (by omega)), b9, if_neg (show ¬ nI (A 9) ≤ nI c from nI_ge (by omega) (by omega)), ag_ok (nM149 hLM') (by omega) (by omega), sb, r3, w2, sb, ← nI_succ]
          by_cases y : G c = 0
          · have eh : s_X5_hasDrop (-1) S' = some 0 := by
              unfold s_X5_hasDrop
              rw [if_pos (by decide)]
            rw [y, dn_0, eh, sb, i0e, if_pos (show (-1 : Int32) = -1 from rfl)]
            refine ih (c + 1) S' M' B K K2 (by omega) (by omega) (by omega) hF' hH' r1 r2 r3 r4 r5 r6 tB tA (fun i hi h5' => ho i (by omega) h5') (fun d hd => ?_) hs
            rw [lfA, if_neg (show ¬ G c = d + 1 by omega)]
            exact hl d hd
          · obtain ⟨d, ed⟩ : ∃ d, G c = d + 1 := ⟨G c - 1, by omega⟩
            obtain ⟨_, v2, v3, v4⟩ := hV c y
            rw [ed, show d + 1 - 1 = d by omega] at v4
            have hd : d < A 13 := by omega
            have hwt : wtA A d = true := decide_eq_true v4
            have hgd := ((hK d hd).1 c (by omega) ed).1
            have eam : amA A G c = min (lfA A G d c) (tpA A c) := by
              unfold amA
              rw [ed, show d + 1 - 1 = d by omega]
            have htp := tp_999 hW (c := c) (by omega)
            have hlk := lf_le (A := A) (G := G) (d := d) 0 c
            rw [Nat.zero_add] at hlk
            have e0 : lfA A G d 0 = lkA A d := rfl
            have hq : B (58 + 5 * d) = A (58 + 5 * d) := (tA.2.2.2.2 d (by omega)).2
            have hld : ldA A d 5 ≤ A (58 + 5 * d) := by
              rcases hW.2.2.2.1 d hd with q | q | q
              · omega
              · omega
              · omega
            have hlB := hl d hd
            have hsB := hs d hd hwt
            have hWB := hF'.2.2.2.2.2.2.2
            have hs0 : B (59 + 5 * d) = 0 := by
              rcases hWB.2.2.2.1 d (by omega) with q | q | q
              · exact q.1
              · exfalso
                have q2 := q.2
                rw [hq, hlB] at q2
                unfold lkA at *
                omega
              · omega
            have h31 : B (31 + 6 * c) = 0 := (ho c (Nat.le_refl _) (by omega)).trans v2
            have hsum : ldA B d 5 + amA A G c ≤ B (58 + 5 * d) := by
              rw [hq, hlB]
              unfold lkA at *
              omega
            obtain ⟨M3, p1, p2, p3, p4, p5, p6⟩ := put_step (c := c) (d := d) (x := amA A G c) hF' (by omega) (by omega) h31 hs0 (by omega) (by omega) hsum
            have eh : s_X5_hasDrop (nI d) S' = some 1 := by
              rcases q_hasD (v := nI d) hF'.2.2.2.2.2.1.1 (by omega) with ⟨_, _, _, g⟩ | ⟨_, n1⟩
              · exact g
              · exact absurd rfl (n1 d (by omega))
            have e7 : (ga S' (t + 7)).getD d 0 = nI (B (57 + 5 * d)) := (hF'.2.2.2.2.1.2.2.2.2.2.2 d (by omega)).1
            have hq6 := (hWB.1.2.2.2.2.2.2.2.2.2.2.2 d (by omega)).1
            have hb10 := hWB.1.2.1
            rw [if_neg y] at w3 w4
            rw [ed, dn_s, eh, sb, i1e, ag_ok (nT7 hL' ht) (by omega) (by omega), sb, e7, ag_ok (nD136 hL') (by omega) (by omega), sb, r2, w3, w_lay hL' mC23 ht (by omega) (by omega), sb, if_neg (show ¬ nI d = (-1 : Int32) from nI_nm (by omega)), ag_ok (nM150 hLM') (by omega) (by omega), sb, r4, w4, p1, sb]
            have gaL : ∀ k, k ≠ 24 → k ≠ 25 → k ≠ 26 → k ≠ 27 → ga (layC S' 23 t c (nI d) (B (57 + 5 * d)) (nI (amA A G c))) k = ga S' k := by
              intro k k1 k2 k3 k4
              unfold layC
              rw [ga_st_ne (by omega), ga_st_ne (by omega), ga_st_ne (by omega), ga_st_ne (by omega)]
            refine ih (c + 1) _ M3 _ K K2 (by omega) (by omega) (by omega) p3 (hH'.of p4 (fun _ _ _ _ => rfl) (fun k _ _ => gaL k (by omega) (by omega) (by omega) (by omega)) (p2.1 137 14 (by unfold w9; omega)).1 (p2.2.2.1 141 (by unfold w9; omega))) ?_ ?_ ?_ ?_ r5 ?_ (p4.tr tB) (tA.tr p5) (fun i hi h5' => ?_) (fun e he => ?_) (fun e he hwe => ?_)
            · rw [gaL 135 (by omega) (by omega) (by omega) (by omega)]
              exact r1
            · rw [gaL 136 (by omega) (by omega) (by omega) (by omega)]
              exact r2
            · rw [p2.2.2.1 149 (by unfold w9; omega)]
              exact r3
            · rw [p2.2.2.1 150 (by unfold w9; omega)]
              exact r4
            · rw [(p2.1 137 26 (by unfold w9; omega)).1]
              exact r6
            · rw [putB_o (by omega), putA_o (by omega) (by omega) (by omega)]
              exact ho i (by omega) h5'
            · rw [p6 e, hl e he, lfA]
              by_cases u : e = d
              · subst u
                rw [if_pos rfl, if_pos ed, eam]
                omega
              · rw [if_neg u, if_neg (show ¬ G c = e + 1 by omega)]
                omega
            · by_cases u : e = d
              · subst u
                rw [putB_s (by omega) hs0]
                split <;> omega
              · rw [putB_o (by omega), putA_o (by omega) (by omega) (by omega)]
                exact hs e he hwe
      obtain ⟨S3, M3, A3, q1, q2, q3⟩ := L (A 9) 0 S2 M2 A 40 40 (by omega) (by omega) (by omega) hF2 hH2 (g4 135 (by omega)) (g4 136 (by omega)) (fZ.2.2.1 149 (by unfold wZ; omega)) (fZ.2.2.1 150 (by unfold wZ; omega)) ((g4f 121 14 (by omega)).trans d14) ((fZ.1 137 26 (by unfold wZ; omega)).1.trans m26) Tl.rf Tl.rf (fun _ _ _ => rfl) (fun d hd => by
        show ldA A d 5 = ldA A d 5 + (lkA A d - lkA A d)
        omega) (fun d hd hw => by
        have := of_decide_eq_true hw
        omega)
      exact ⟨nI sv, S3, M3, A3, q1, q2, q3⟩
