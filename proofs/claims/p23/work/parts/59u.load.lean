/-! the plan is prepared and found; load -/
theorem e_prepare {S M : HS} {t : Nat} {A : Nat → Nat} (h : FS S M t A) : ∃ S1, s_X3_prepare t 0 S = some S1 ∧ PSd S1 t A (fun _ => 0) 0 ∧ gf S1 121 12 = 0 := by
  have hW := h.2.2.2.2.2.2.2
  have h5 := hW.1.1
  have h20 := hW.1.2.2.2.2.1
  have h4 := wt4 hW
  have ht := h.2.2.2.1
  have htn := isT_num ht
  have lp : ∀ (m d : Nat) (S' : HS) (K : Nat), PrI S' M t A d → d + m = A 13 → m < K → ∃ S1, s_X3_prepare_L52 t K (nI d) S' = some S1 ∧ PSd S1 t A (fun _ => 0) 0 ∧ gf S1 121 12 = 0 := by
    intro m
    induction m with
    | zero =>
      intro d S' K hP h1 h2
      obtain ⟨K, rfl⟩ : ∃ k, K = k + 1 := ⟨K - 1, by omega⟩
      have ed : d = A 13 := by omega
      subst ed
      rw [s_X3_prepare_L52, rc_ok hP.2.2.1, sb, (show gf S' 22 1 = nI (A 13) from hP.1.2.2.2.2.2.1.1), if_pos (nI_le (Nat.le_refl _) (by omega))]
      exact e_room hP
    | succ m ih =>
      intro d S' K hP h1 h2
      obtain ⟨K, rfl⟩ : ∃ k, K = k + 1 := ⟨K - 1, by omega⟩
      have hd : d < A 13 := by omega
      have e1 : rnk (wtA A) (d + 1) = rnk (wtA A) d + if wtA A d = true then 1 else 0 := rfl
      have hmon := rnk_mono (p := wtA A) (m := d) (A 13 - d)
      rw [show d + (A 13 - d) = A 13 by omega] at hmon
      have hho := how_eq hP.1 hd
      have hs3 := hW.s3 hd
      have hP0 := hP
      obtain ⟨hF, p1, p2, p3, p4, p5, p6, p7, p8⟩ := hP
      rw [s_X3_prepare_L52, rc_ok p2, sb, (show gf S' 22 1 = nI (A 13) from hF.2.2.2.2.2.1.1), if_neg (show ¬ nI (A 13) ≤ nI d from nI_ge hd (by omega)), p6]
      by_cases z4 : rnk (wtA A) d = 4
      · rw [z4, if_pos (show (4 : Int32) ≤ nI 4 by decide)]
        refine e_room ⟨hF, p1, p2, p3, p4, p5, ?_, fun e he hw => ?_, p8⟩
        · rw [p6]
          congr 1
          omega
        · by_cases u : e < d
          · exact p7 e u hw
          · exfalso
            have q1 := rnk_lt (p := wtA A) he hw
            have q2 := rnk_mono (p := wtA A) (m := d) (e - d)
            rw [show d + (e - d) = e by omega] at q2
            omega
      · have hL := hF.1
        rw [if_neg (show ¬ (4 : Int32) ≤ nI (rnk (wtA A) d) from nI_ge (b := 4) (by omega) (by omega)), sb, tl_ok p1 ht, sb, q_how hL ht (by omega), sb, hho, ← nI_succ]
        by_cases hw : wtA A d = true
        · have hs0 : A (59 + 5 * d) = 0 := of_decide_eq_true hw
          have hL1 : LnD (st S' 131 (rnk (wtA A) d) (nI d)) := hL.st
          have hle : ldA A d 5 ≤ A (58 + 5 * d) := by
            rcases hW.2.2.2.1 d hd with w | w | w
            · omega
            · omega
            · omega
          have hC1 : RCa (st S' 131 (rnk (wtA A) d) (nI d)) 23 A := fun c hc => by
            rw [ga_st_ne (by omega), ga_st_ne (by omega), ga_st_ne (by omega), ga_st_ne (by omega)]
            exact hF.2.2.2.2.2.1.2.2.1 c hc
          have e8 : (ga S' (t + 8)).getD d 0 = nI (A (58 + 5 * d)) := (hF.2.2.2.2.1.2.2.2.2.2.2 d hd).2
          rw [hs0, if_neg (show ¬ nI 0 ≠ 0 by decide), wa_st (nD131 hL) (by omega) (by omega), sb, gr_st, tl_ok p1 ht, sb, ag_ok (nT8 hL1 ht) (by omega) (by omega), sb, gd_st (by omega), e8, gr_st, rc_ok p2, sb, q_dloaded hL1 mC23 hC1 (fun c hc => hW.o20 hc) (by omega), sb, gf_st, p6, pk_sub hle, wa_st (nD132 hL1) (by omega) (by omega), sb, gf_st, gf_st, p6, ag_ok (nD132 hL1.st) (by omega) (by omega), sb, gd_st_eq (nD132 hL1) (by omega), wa_st (nD133 hL1.st) (by omega) (by omega), sb, gf_st, gf_st, gf_st, p6, pf_ok, sb, ← nI_succ]
          refine ih (d + 1) _ K ⟨?_, p1, p2, ?_, ?_, ?_, ?_, fun e he hwe => ?_, fun c hc => ?_⟩ (by omega) (by omega)
          · refine hF.hi hL1.st.st.sf (fun k j hk => ?_) rfl (fun _ _ => rfl) (fun k hk => ?_)
            · rw [gf_sf, if_neg (by omega)]
              rfl
            · rw [ga_sf, ga_st_ne (by omega), ga_st_ne (by omega), ga_st_ne (by omega)]
          · rw [gf_sf, if_neg (by omega)]
            exact p3
          · rw [gf_sf, if_neg (by omega)]
            exact p4
          · rw [gf_sf, if_neg (by omega)]
            exact p5
          · rw [gf_sf, if_pos ⟨rfl, rfl⟩, e1, if_pos hw]
          · rw [ga_sf, ga_sf, ga_sf]
            by_cases u : e = d
            · subst u
              rw [gd_st (by omega), gd_st (by omega), gd_st_eq (nD131 hL) (by omega), gd_st (by omega), gd_st_eq (nD132 hL1) (by omega), gd_st_eq (nD133 hL1.st) (by omega)]
              exact ⟨rfl, rfl, rfl⟩
            · have hne := rnk_ne (p := wtA A) u hwe hw
              rw [gd_st (by omega), gd_st (by omega), gd_st (by omega), gd_st (by omega), gd_st (by omega), gd_st (by omega), gd_st (by omega), gd_st (by omega), gd_st (by omega)]
              exact p7 e (by omega) hwe
          · rw [ga_sf, ga_sf, ga_sf, ga_sf, ga_st_ne (by omega), ga_st_ne (by omega), ga_st_ne (by omega), ga_st_ne (by omega), ga_st_ne (by omega), ga_st_ne (by omega), ga_st_ne (by omega), ga_st_ne (by omega), ga_st_ne (by omega), ga_st_ne (by omega), ga_st_ne (by omega), ga_st_ne (by omega)]
            exact p8 c hc
        · have hs0 : A (59 + 5 * d) ≠ 0 := fun q => hw (decide_eq_true q)
          rw [if_pos (nI_ne0 (n := A (59 + 5 * d)) (by omega) (by omega))]
          refine ih (d + 1) S' K ⟨hF, p1, p2, p3, p4, p5, ?_, fun e he hwe => ?_, p8⟩ (by omega) (by omega)
          · rw [p6, e1, if_neg hw]
            rfl
          · refine p7 e ?_ hwe
            by_cases u : e = d
            · subst u
              exact absurd hwe hw
            · omega
  have hL3 : LnD (sf (sr (sr S 121 2 (.ref t)) 121 3 (.ref 22)) 121 4 0) := h.1
  have hL4 : LnD (cpC (sf (sr (sr S 121 2 (.ref t)) 121 3 (.ref 22)) 121 4 0) 126 23) := by
    unfold cpC
    refine LnD.sa (LnD.sa (LnD.sa (LnD.sa hL3 ?_) ?_) ?_) ?_
    · exact nD24 hL3
    · exact nD27 hL3
    · exact nD25 hL3
    · exact nD26 hL3
  unfold s_X3_prepare
  rw [pr_ok, sb, pr_ok, sb, pz0, sb, rc_ok (by rfl), sb, w_copyC hL3 mC126 mC23 (by omega), sb, pf_ok, sb, pf_ok, sb, pf_ok, sb, pf_ok, sb]
  refine lp (A 13) 0 _ 40 ⟨?_, rfl, rfl, ?_, ?_, ?_, ?_, fun e he => absurd he (Nat.not_lt_zero _), fun c hc => ?_⟩ (by omega) (by omega)
  · refine h.hi hL4.sf.sf.sf.sf (fun k j hk => ?_) rfl (fun _ _ => rfl) (fun k hk => ?_)
    · rw [gf_sf, if_neg (by omega), gf_sf, if_neg (by omega), gf_sf, if_neg (by omega), gf_sf, if_neg (by omega)]
      show gf (sf (sr (sr S 121 2 (.ref t)) 121 3 (.ref 22)) 121 4 0) k j = _
      rw [gf_sf, if_neg (by omega)]
      rfl
    · rw [ga_sf, ga_sf, ga_sf, ga_sf, ga_cpC (by omega)]
      rfl
  · rw [gf_sf, if_neg (by omega), gf_sf, if_neg (by omega), gf_sf, if_neg (by omega), gf_sf, if_neg (by omega)]
    rfl
  · rw [gf_sf, if_neg (by omega), gf_sf, if_pos ⟨rfl, rfl⟩]
  · rw [gf_sf, if_neg (by omega), gf_sf, if_neg (by omega), gf_sf, if_neg (by omega), gf_sf, if_pos ⟨rfl, rfl⟩]
  · rw [gf_sf, if_pos ⟨rfl, rfl⟩]
    rfl
  · have hC := h.2.2.2.2.2.1.2.2.1 c hc
    rw [ga_sf, ga_sf, ga_sf, ga_sf, ga_sf, ga_sf, ga_sf, ga_sf, ga_sf, ga_sf, ga_sf, ga_sf, ga_sf, ga_sf, ga_sf, ga_sf]
    unfold cpC
    rw [ga_sa, if_neg (by omega), ga_sa, if_neg (by omega), ga_sa, if_neg (by omega), ga_sa, if_pos rfl]
    rw [ga_sa, if_neg (by omega), ga_sa, if_pos rfl]
    rw [ga_sa, if_pos rfl]
    rw [ga_sa, if_neg (by omega), ga_sa, if_neg (by omega), ga_sa, if_pos rfl]
    exact hC
theorem e_plan {S M : HS} {t : Nat} {A : Nat → Nat} (h : FS S M t A) : ∃ S1 M1, s_X3_findsPlan t S = some (gf S1 121 12, S1) ∧ s_X8_laysPlan 0 M = some M1 ∧ FS S1 M1 t A ∧ BRl S1 M1 A ∧ Fr wP S S1 ∧ Fr wM M M1 := by
  have hW := h.2.2.2.2.2.2.2
  have h5 := hW.1.1
  obtain ⟨S1, e1, hS1, g12⟩ := e_prepare h
  have lp : ∀ (m c : Nat) (M' : HS) (K : Nat), c + m = 5 → m < K → LnM M' → RMt M' 139 A → gf M' 137 26 = -1 → ∃ M1, s_X8_laysPlan_L12 0 K (nI c) M' = some M1 ∧ ∃ S2, s_X3_deal 8 0 S1 = some S2 ∧ PSd S2 t A (fun _ => 0) 0 ∧ PMd M1 A (fun _ => 0) 0 ∧ BRl S2 M1 A := by
    intro m
    induction m with
    | zero =>
      intro c M' K h1 h2 hL' hM' g26
      obtain ⟨K, rfl⟩ : ∃ k, K = k + 1 := ⟨K - 1, by omega⟩
      obtain ⟨S2, M2, d1, d2, p1, p2, p3⟩ := e_deal hW 8 0 (fun _ => 0) S1 M' hS1 ⟨hL', hM', fun c hc => absurd hc (Nat.not_lt_zero _)⟩ (fun c hc => absurd rfl hc) (fun c hc => absurd hc (Nat.not_lt_zero _)) (Or.inl ⟨g12, g26⟩) (by omega) (by omega)
      rw [s_X8_laysPlan_L12, if_pos (show (5 : Int32) ≤ nI c from nI_le (a := 5) (by omega) (by omega)), (show s_X8_tries 8 0 0 M' = _ from d2), sb]
      exact ⟨M2, rfl, S2, d1, p1, p2, p3⟩
    | succ m ih =>
      intro c M' K h1 h2 hL' hM' g26
      obtain ⟨K, rfl⟩ : ∃ k, K = k + 1 := ⟨K - 1, by omega⟩
      rw [s_X8_laysPlan_L12, if_neg (show ¬ (5 : Int32) ≤ nI c from nI_ge (b := 5) (by omega) (by omega)), wa_st (nM147 hL') (by omega) (by omega), sb, wa_st (nM149 hL'.st) (by omega) (by omega), sb, wa_st (nM150 hL'.st.st) (by omega) (by omega), sb, ← nI_succ]
      refine ih (c + 1) _ K (by omega) (by omega) hL'.st.st.st (fun i hi => ?_) g26
      rw [ga_st_ne (by omega), ga_st_ne (by omega), ga_st_ne (by omega)]
      exact hM' i hi
  obtain ⟨M1, e2, S2, e3, p1, p2, p3⟩ := lp 5 0 (sf (sf M 137 26 (-1)) 137 27 0) 40 (by omega) (by omega) h.2.1 h.2.2.2.2.2.2.1 (by rw [gf_sf, if_neg (by omega), gf_sf, if_pos ⟨rfl, rfl⟩])
  have eM : s_X8_laysPlan 0 M = some M1 := by
    unfold s_X8_laysPlan
    rw [pf_ok, sb, pf_ok, sb]
    exact e2
  have g01 : gf S2 121 12 = 0 ∨ gf S2 121 12 = 1 := by
    rcases p3 with q | q
    · exact Or.inl q.1
    · exact Or.inr q.1
  have eS : s_X3_findsPlan t S = some (gf S2 121 12, S2) := by
    unfold s_X3_findsPlan
    rw [e1, sb, e3, sb, gz_ok g01, sb]
  have fS : Fr wP S S2 := fs_X3_findsPlan (t := t) (S := S) fr_rf _ eS
  have fM' : Fr wM M M1 := fs_X8_laysPlan fr_rf _ eM
  refine ⟨S2, M1, eS, eM, ?_, p3, fS, fM'⟩
  have hF2 := h.hi (h.1.fr fS) (fun k j hk => (fS.1 k j (by unfold wP; omega)).1) (fS.1 0 4 (by unfold wP; omega)).2 (fun k hk => fS.2.1 k (by unfold wP; omega)) (fun k hk => fS.2.2.1 k (by unfold wP; omega))
  exact ⟨hF2.1, p2.1, hF2.2.2.1, hF2.2.2.2.1, hF2.2.2.2.2.1, hF2.2.2.2.2.2.1, p2.2.1, hF2.2.2.2.2.2.2.2⟩
