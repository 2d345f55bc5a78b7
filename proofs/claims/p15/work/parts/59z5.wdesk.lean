/-! the desk deals with washing -/
def PSw (S : HS) (t : Nat) (A G : Nat → Nat) (n : Nat) : Prop := LnD S ∧ isT t ∧ gr S 121 2 = .ref t ∧ gr S 121 3 = .ref 22 ∧ RDt S t A ∧ RSt S 22 A ∧ gf S 121 4 = 1 ∧ gf S 121 5 = nI (rnk (wtA A) (A 13)) ∧ (∀ d, d < A 13 → wtA A d = true → (ga S 131).getD (rnk (wtA A) d) 0 = nI d ∧ (ga S 132).getD (rnk (wtA A) d) 0 = nI (lkA A d) ∧ (ga S 133).getD (rnk (wtA A) d) 0 = nI (lfA A G d n)) ∧ (∀ c, c ≤ A 9 → (ga S 134).getD c 0 = nI (rmA A c)) ∧ RCa S 126 (layA A G) ∧ gf S 121 10 = nI (rnk (fun c => decide (G c ≠ 0)) (A 9)) ∧ gf S 121 11 = nI (wcA A G)
theorem PSw.of {S S1 : HS} {t n : Nat} {A G : Nat → Nat} (h : PSw S t A G n) (hL : LnD S1) (h1 : ∀ k j, k < 112 → gf S1 k j = gf S k j) (h2 : ∀ j, j = 4 ∨ j = 5 ∨ j = 10 ∨ j = 11 → gf S1 121 j = gf S 121 j) (h3 : ∀ j, gr S1 121 j = gr S 121 j) (h4 : ∀ k, k < 112 → gl S1 k = gl S k) (h5 : ∀ k, k < 112 ∨ (126 ≤ k ∧ k ≤ 134) → ga S1 k = ga S k) : PSw S1 t A G n := by
  obtain ⟨_, ht, p1, p2, p3, p4, p5, p6, p7, p8, p9, p10, p11⟩ := h
  have htn := isT_num ht
  refine ⟨hL, ht, by rw [h3]; exact p1, by rw [h3]; exact p2, p3.keep (fun j => h1 _ _ (by omega)) (h4 _ (by omega)) (fun i hi => h5 _ (by omega)), p4.of (h1 _ _ (by omega)) (h1 _ _ (by omega)) (fun i _ _ => h5 _ (by omega)), by rw [h2 4 (by omega)]; exact p5, by rw [h2 5 (by omega)]; exact p6, fun d hd hw => ?_, fun c hc => ?_, fun c hc => ?_, by rw [h2 10 (by omega)]; exact p10, by rw [h2 11 (by omega)]; exact p11⟩
  · rw [h5 131 (by omega), h5 132 (by omega), h5 133 (by omega)]
    exact p7 d hd hw
  · rw [h5 134 (by omega)]
    exact p8 c hc
  · rw [h5 (126 + 1) (by omega), h5 (126 + 2) (by omega), h5 (126 + 3) (by omega), h5 (126 + 4) (by omega)]
    exact p9 c hc
theorem q_keepDealW {S : HS} {t : Nat} {A G : Nat → Nat} (hW : Wf A) (h : PSw S t A G (A 9)) (hV : GVa A G (A 9)) (hg : ∀ c, c < A 9 → G c ≠ 0 → 0 < amA A G c) : ∃ S1, s_X3_keepDeal S = some S1 ∧ Fr wKD S S1 ∧ ∀ c, c < A 9 → (ga S1 135).getD c 0 = dn (G c) ∧ (ga S1 136).getD c 0 = nI (if G c = 0 then 0 else amA A G c) := by
  have h5 := hW.1.1
  have L : ∀ (m j : Nat) (S' : HS) (K : Nat), Fr wKD S S' → j + m = A 9 → m < K → (∀ c, c < j → (ga S' 135).getD c 0 = dn (G c) ∧ (ga S' 136).getD c 0 = nI (if G c = 0 then 0 else amA A G c)) → ∃ S1, s_X3_keepDeal_L2 K (nI j) S' = some S1 ∧ Fr wKD S S1 ∧ ∀ c, c < A 9 → (ga S1 135).getD c 0 = dn (G c) ∧ (ga S1 136).getD c 0 = nI (if G c = 0 then 0 else amA A G c) := by
    intro m
    induction m with
    | zero =>
      intro j S' K f hj hK hr
      obtain ⟨K, rfl⟩ : ∃ k, K = k + 1 := ⟨K - 1, by omega⟩
      have hP' : PSw S' t A G (A 9) := h.of (h.1.fr f) (fun k j hk => (f.1 k j (by unfold wKD; omega)).1) (fun j _ => (f.1 _ _ (by unfold wKD; omega)).1) (fun j => (f.1 _ _ (by unfold wKD; omega)).2) (fun k hk => f.2.1 k (by unfold wKD; omega)) (fun k hk => f.2.2.1 k (by unfold wKD; omega))
      rw [s_X3_keepDeal_L2, tl_ok hP'.2.2.1 hP'.2.1, sb, hP'.2.2.2.2.1.1, if_pos (nI_le (by omega) (by omega))]
      exact ⟨S', rfl, f, fun c hc => hr c (by omega)⟩
    | succ m ih =>
      intro j S' K f hj hK hr
      obtain ⟨K, rfl⟩ : ∃ k, K = k + 1 := ⟨K - 1, by omega⟩
      have hP' : PSw S' t A G (A 9) := h.of (h.1.fr f) (fun k j hk => (f.1 k j (by unfold wKD; omega)).1) (fun j _ => (f.1 _ _ (by unfold wKD; omega)).1) (fun j => (f.1 _ _ (by unfold wKD; omega)).2) (fun k hk => f.2.1 k (by unfold wKD; omega)) (fun k hk => f.2.2.1 k (by unfold wKD; omega))
      have hL' := hP'.1
      have hC := hP'.2.2.2.2.2.2.2.2.2.2.1 j (by omega)
      have h24 := (hP'.2.2.2.2.2.1.2.2.1 j (by omega)).1
      obtain ⟨l0, l1, _⟩ := lay_c (A := A) (G := G) (c := j) (by omega)
      have hw := hW.2.2.1 j (by omega)
      have nx : ∀ x y, x = dn (G j) → y = nI (if G j = 0 then 0 else amA A G j) → ∃ S1, s_X3_keepDeal_L2 K (nI (j + 1)) (st (st S' 135 j x) 136 j y) = some S1 ∧ Fr wKD S S1 ∧ ∀ c, c < A 9 → (ga S1 135).getD c 0 = dn (G c) ∧ (ga S1 136).getD c 0 = nI (if G c = 0 then 0 else amA A G c) := by
        intro x y ex ey
        refine ih (j + 1) _ K (fr_st (fr_st f (by unfold wKD; omega)) (by unfold wKD; omega)) (by omega) (by omega) (fun c hc => ?_)
        by_cases u : c = j
        · subst u
          rw [gd_st (by omega), gd_st_eq (nD135 hL') (by omega), gd_st_eq (nD136 hL'.st) (by omega)]
          exact ⟨ex, ey⟩
        · rw [gd_st (by omega), gd_st (by omega), gd_st (by omega), gd_st (by omega)]
          exact hr c (by omega)
      have J0 : G j = 0 → ∃ S1, s_X3_keepDeal_J44 (s_X3_keepDeal_L2 K) (nI j) S' = some S1 ∧ Fr wKD S S1 ∧ ∀ c, c < A 9 → (ga S1 135).getD c 0 = dn (G c) ∧ (ga S1 136).getD c 0 = nI (if G c = 0 then 0 else amA A G c) := by
        intro z
        rw [s_X3_keepDeal_J44, s_X3_keepDeal_J45, i0e, s_X3_keepDeal_J68, wa_st (nD135 hL') (by omega) (by omega), sb, i0e, wa_st (nD136 hL'.st) (by omega) (by omega), sb, ← nI_succ]
        exact nx _ _ (by rw [z, dn_0]) (by rw [if_pos z]; rfl)
      rw [s_X3_keepDeal_L2, tl_ok hP'.2.2.1 hP'.2.1, sb, hP'.2.2.2.2.1.1, if_neg (nI_ge (by omega) (by omega)), rc_ok hP'.2.2.2.1, sb, ag_ok (nD24 hL') (by omega) (by omega), sb, show (ga S' 24).getD j 0 = _ from h24, ag_ok (nD127 hL') (by omega) (by omega), sb, show (ga S' 127).getD j 0 = _ from hC.1, l0]
      by_cases z : G j = 0
      · by_cases y : A (30 + 6 * j) = 0
        · rw [y, if_pos z, if_neg (show ¬ nI 0 ≠ 0 by decide), if_pos (show nI 0 ≤ 0 by decide)]
          exact J0 z
        · rw [if_pos (nI_ne0 (n := A (30 + 6 * j)) (by omega) (by omega))]
          exact J0 z
      · obtain ⟨_, v2, v3, _⟩ := hV j z
        have y : A (30 + 6 * j) = 0 := hw.2.1.mpr v2
        have ga0 := hg j (by omega) z
        have ht := tp_999 hW (c := j) (by omega)
        have ha9 : amA A G j ≤ 999 := by
          unfold amA
          omega
        rw [y, if_neg z, if_neg (show ¬ nI 0 ≠ 0 by decide), if_neg (show ¬ nI (amA A G j) ≤ 0 from nI_ge (a := 0) (b := amA A G j) (by omega) (by omega)), s_X3_keepDeal_J45, i1e, ag_ok (nD128 hL') (by omega) (by omega), sb, show (ga S' 128).getD j 0 = _ from hC.2.1, l1, if_neg z, s_X3_keepDeal_J68, wa_st (nD135 hL') (by omega) (by omega), sb, i1e, ag_ok (nD127 hL'.st) (by omega) (by omega), sb, gd_st (by omega), show (ga S' 127).getD j 0 = _ from hC.1, l0, if_neg z, wa_st (nD136 hL'.st) (by omega) (by omega), sb, ← nI_succ]
        exact nx _ _ rfl (by rw [if_neg z])
  exact L (A 9) 0 S 40 fr_rf (by omega) (by omega) (fun c hc => absurd hc (Nat.not_lt_zero _))
theorem up_br {A G : Nat → Nat} {n d : Nat} : brG A (upG G n (d + 1)) n = bA A n (A (57 + 5 * d)) := by
  have e1 : upG G n (d + 1) n = d + 1 := if_pos rfl
  unfold brG
  rw [e1, decide_eq_true (show d + 1 ≠ 0 by omega), Bool.true_and, show d + 1 - 1 = d by omega]
theorem up_bo {A G : Nat → Nat} {n x c : Nat} (h : c ≠ n) : brG A (upG G n x) c = brG A G c := by
  have e1 : upG G n x c = G c := if_neg h
  unfold brG
  rw [e1]
theorem up_wc {A G : Nat → Nat} {n d : Nat} (hn : n < A 9) (h0 : G n = 0) : wcA A (upG G n (d + 1)) = wcA A G + (if bA A n (A (57 + 5 * d)) = true then 1 else 0) := by
  have hb0 : brG A G n = false := by
    unfold brG
    rw [decide_eq_false (show ¬ G n ≠ 0 from fun q => q h0)]
    rfl
  unfold wcA
  cases hb : bA A n (A (57 + 5 * d)) with
  | true =>
    rw [if_pos rfl, rnk_cnt, rnk_cnt, ← cnt_ins (p := brG A G) (x := n) (A 9) 0 (by omega) (by omega) hb0]
    refine cnt_congr (A 9) 0 (fun c _ _ => ?_)
    by_cases z : c = n
    · rw [z, up_br, hb, decide_eq_true (show n = n from rfl), Bool.or_true]
    · rw [up_bo z, decide_eq_false (show ¬ n = c from fun q => z q.symm), Bool.or_false]
  | false =>
    rw [if_neg (by decide), Nat.add_zero]
    refine rnk_congr (A 9) (fun c _ => ?_)
    by_cases z : c = n
    · rw [z, up_br, hb, hb0]
    · exact up_bo z
theorem q_givesW {S : HS} {t n d : Nat} {A G : Nat → Nat} (hW : Wf A) (h : PSw S t A G n) (hV : GVa A G n) (hn : n < A 9) (hd : d < A 13) (hw : wtA A d = true) (h0 : A (31 + 6 * n) = 0) : (s_X3_gives (nI n) (nI (rnk (wtA A) d)) S = some (0, S) ∧ min (lfA A G d n) (tpA A n) = 0) ∨ ∃ S1, s_X3_gives (nI n) (nI (rnk (wtA A) d)) S = some (1, S1) ∧ 0 < min (lfA A G d n) (tpA A n) ∧ PSw S1 t A (upG G n (d + 1)) (n + 1) ∧ BsD S S1 := by
  have h5 := hW.1.1
  have h20 := hW.1.2.2.2.2.1
  have h6 := hW.1.2.1
  have h4 := wt4 hW
  have hlt := rnk_lt hd hw
  have h0' := h
  obtain ⟨hL, ht, p1, p2, p3, p4, p5, p6, p7, p8, p9, p10, p11⟩ := h
  have htn := isT_num ht
  obtain ⟨r1, r2, r3⟩ := p7 d hd hw
  have hl := lf_4995 (G := G) hW hd n
  have htp := tp_999 hW hn
  have hGn := gv_n hV
  obtain ⟨hq6, _, _⟩ := hW.1.2.2.2.2.2.2.2.2.2.2.2 d hd
  have emn : mn (nI (tpA A n)) (nI (lfA A G d n)) = nI (min (lfA A G d n) (tpA A n)) := by
    unfold mn
    by_cases q : lfA A G d n < tpA A n
    · rw [if_pos (nI_lt q (by omega)), Nat.min_eq_left (by omega)]
    · rw [if_neg (nI_nlt (by omega) (by omega)), Nat.min_eq_right (by omega)]
  obtain ⟨l0, l1, l2⟩ := lay_c (A := A) (G := G) (c := n) (by omega)
  have e129 : (ga S 129).getD n 0 = dn (A (32 + 6 * n)) := by
    have := (p9 n (by omega)).2.2.1
    rw [l2, if_pos hGn] at this
    exact this
  have e7 : (ga S (t + 7)).getD d 0 = nI (A (57 + 5 * d)) := (p3.2.2.2.2.2.2 d hd).1
  rw [s_X3_gives, tl_ok p1 ht, sb, e_dtop hL ht p3 hW hn, sb, ag_ok (nD133 hL) (by omega) (by omega), sb, r3, emn, sb, ag_ok (nD131 hL) (by omega) (by omega), sb, r1, ag_ok (nT7 hL ht) (by omega) (by omega), sb, e7, sb, ag_ok (nD129 hL) (by omega) (by omega), sb, e129, q_barred, sb, br_bA p3.2.2.2.2.2.1 hW.1 (by omega) (by omega)]
  by_cases z : min (lfA A G d n) (tpA A n) = 0
  · refine Or.inl ⟨?_, z⟩
    rw [z, if_neg (show ¬ nI 0 ≠ 0 by decide)]
  · rw [if_pos (nI_ne0 (n := min (lfA A G d n) (tpA A n)) (by omega) (by omega))]
    right
    have J : ∃ S1, s_X3_gives_J74 (nI n) (nI (rnk (wtA A) d)) (nI (min (lfA A G d n) (tpA A n))) (nI (A (57 + 5 * d))) (if bA A n (A (57 + 5 * d)) = true then 1 else 0) S = some (1, S1) ∧ 0 < min (lfA A G d n) (tpA A n) ∧ PSw S1 t A (upG G n (d + 1)) (n + 1) ∧ BsD S S1 := by
      obtain ⟨x, ex⟩ : ∃ x, x = min (lfA A G d n) (tpA A n) := ⟨_, rfl⟩
      rw [← ex]
      have hL1 : LnD (layC S 126 t n (nI d) (A (57 + 5 * d)) (nI x)) := hL.layC
      have gaL : ∀ k, k ≠ 127 → k ≠ 128 → k ≠ 129 → k ≠ 130 → ga (layC S 126 t n (nI d) (A (57 + 5 * d)) (nI x)) k = ga S k := by
        intro k k1 k2 k3 k4
        unfold layC
        rw [ga_st_ne (by omega), ga_st_ne (by omega), ga_st_ne (by omega), ga_st_ne (by omega)]
      rw [s_X3_gives_J74, tl_ok p1 ht, sb, ag_ok (nD131 hL) (by omega) (by omega), sb, r1, w_lay hL mC126 ht (by omega) (by omega), sb, ag_ok (nD133 hL1) (by omega) (by omega), sb, gaL 133 (by omega) (by omega) (by omega) (by omega), r3, pk_sub (by omega), wa_st (nD133 hL1) (by omega) (by omega), sb, pf_ok, sb]
      have e11 : ∀ S2 : HS, gf S2 121 11 = nI (wcA A G) → (if (if bA A n (A (57 + 5 * d)) = true then (1 : Int32) else 0) = 0 then Option.bind (pf S2 121 11 (gf S2 121 11 + (0 : Int32))) (fun S16 => some ((1 : Int32), S16)) else Option.bind (pf S2 121 11 (gf S2 121 11 + (1 : Int32))) (fun S17 => some ((1 : Int32), S17))) = some (1, sf S2 121 11 (nI (wcA A (upG G n (d + 1))))) := by
        intro S2 h2
        rw [h2, up_wc hn hGn, pf_ok, pf_ok, sb, sb]
        cases bA A n (A (57 + 5 * d)) with
        | true =>
          rw [if_neg (show ¬ (if true = true then (1 : Int32) else 0) = 0 by decide), if_pos rfl, nI_succ]
        | false =>
          rw [if_pos (show (if false = true then (1 : Int32) else 0) = 0 by decide), if_neg (by decide), Nat.add_zero, Int32.add_zero]
      rw [e11 _ (by
        rw [gf_sf, if_neg (by omega)]
        exact p11)]
      refine ⟨_, rfl, by omega, ⟨hL1.st.sf.sf, ht, p1, p2, ?_, ?_, ?_, ?_, fun e he hwe => ?_, fun c hc => ?_, fun c hc => ?_, ?_, ?_⟩, ⟨fun j hj => ?_, ?_, ?_⟩⟩
      · refine p3.keep (fun j => ?_) rfl (fun i hi => ?_)
        · rw [gf_sf, if_neg (by omega), gf_sf, if_neg (by omega)]
          rfl
        · rw [ga_sf, ga_sf, ga_st_ne (by omega), gaL _ (by omega) (by omega) (by omega) (by omega)]
      · refine p4.of ?_ ?_ (fun i h1 h2 => ?_)
        · rw [gf_sf, if_neg (by omega), gf_sf, if_neg (by omega)]
          rfl
        · rw [gf_sf, if_neg (by omega), gf_sf, if_neg (by omega)]
          rfl
        · rw [ga_sf, ga_sf, ga_st_ne (by omega), gaL _ (by omega) (by omega) (by omega) (by omega)]
      · rw [gf_sf, if_neg (by omega), gf_sf, if_neg (by omega)]
        exact p5
      · rw [gf_sf, if_neg (by omega), gf_sf, if_neg (by omega)]
        exact p6
      · obtain ⟨q1, q2, q3⟩ := p7 e he hwe
        rw [ga_sf, ga_sf, ga_sf, ga_sf, ga_sf, ga_sf, ga_st_ne (by omega), ga_st_ne (by omega), gaL 131 (by omega) (by omega) (by omega) (by omega), gaL 132 (by omega) (by omega) (by omega) (by omega), up_lf1]
        refine ⟨q1, q2, ?_⟩
        by_cases u : d = e
        · subst u
          rw [if_pos rfl, gd_st_eq (nD133 hL1) (by omega)]
          congr 1
          omega
        · have hne := rnk_ne (p := wtA A) u hw hwe
          rw [if_neg u, gd_st (by omega), gaL 133 (by omega) (by omega) (by omega) (by omega)]
          exact q3
      · rw [ga_sf, ga_sf, ga_st_ne (by omega), gaL 134 (by omega) (by omega) (by omega) (by omega)]
        exact p8 c hc
      · rw [ga_sf, ga_sf, ga_sf, ga_sf, ga_sf, ga_sf, ga_sf, ga_sf, ga_st_ne (by omega), ga_st_ne (by omega), ga_st_ne (by omega), ga_st_ne (by omega)]
        by_cases u : c = n
        · subst u
          have e1 : upG G c (d + 1) c = d + 1 := if_pos rfl
          obtain ⟨m0, m1, m2⟩ := lay_c (A := A) (G := upG G c (d + 1)) hc
          rw [m0, m1, m2, lq_lay hc, e1, if_neg (by omega), if_neg (by omega), if_neg (by omega), if_neg (by omega), show d + 1 - 1 = d by omega, dn_s, dn_s, up_am, ← ex, lay_out (A := A) (G := upG G c (d + 1)) (i := 15 + A (57 + 5 * d)) (Or.inl (by omega))]
          unfold layC
          refine ⟨?_, ?_, ?_, ?_⟩
          · rw [gd_st (by omega), gd_st (by omega), gd_st (by omega), gd_st_eq (k := 126 + 1) (nD127 hL) (by omega)]
          · rw [gd_st (by omega), gd_st_eq (k := 126 + 2) (nD128 hL.st.st) (by omega)]
          · rw [gd_st_eq (k := 126 + 3) (nD129 hL.st.st.st) (by omega)]
          · rw [gd_st (by omega), gd_st (by omega), gd_st_eq (k := 126 + 4) (nD130 hL.st) (by omega), p3.2.2.2.2.1 _ hq6]
        · obtain ⟨u1, u2, u3, u4⟩ := up_lay (x := d + 1) (N := n) hV (Nat.le_refl _) hc u
          have hl6 : lqA (layA A G) c < 6 := by
            rw [lq_lay hc]
            by_cases z : G c = 0
            · rw [if_pos z]
              exact lq_lt hW hc
            · rw [if_neg z]
              have h3 := (hV c z).2.2.1
              have := (hW.1.2.2.2.2.2.2.2.2.2.2.2 (G c - 1) (by omega)).1
              omega
          rw [u1, u2, u3, u4, lay_out (A := A) (G := upG G n (d + 1)) (i := 15 + lqA (layA A G) c) (Or.inl (by omega)), ← lay_out (A := A) (G := G) (i := 15 + lqA (layA A G) c) (Or.inl (by omega))]
          unfold layC
          rw [gd_st (by omega), gd_st (by omega), gd_st (by omega), gd_st (by omega), gd_st (by omega), gd_st (by omega), gd_st (by omega), gd_st (by omega), gd_st (by omega), gd_st (by omega), gd_st (by omega), gd_st (by omega), gd_st (by omega), gd_st (by omega), gd_st (by omega), gd_st (by omega)]
          exact p9 c hc
      · rw [gf_sf, if_neg (by omega), gf_sf, if_pos ⟨rfl, rfl⟩, up_rnk hn hGn, nI_succ]
        show gf S 121 10 + 1 = _
        rw [p10]
      · rw [gf_sf, if_pos ⟨rfl, rfl⟩]
      · rw [gf_sf, if_neg (by omega), gf_sf, if_neg (by omega)]
        rfl
      · rw [ga_sf, ga_sf, ga_st_ne (by omega), gaL 135 (by omega) (by omega) (by omega) (by omega)]
      · rw [ga_sf, ga_sf, ga_st_ne (by omega), gaL 136 (by omega) (by omega) (by omega) (by omega)]
    cases hb : bA A n (A (57 + 5 * d)) with
    | true =>
      rw [hb] at J
      rw [if_neg (show ¬ (if true = true then (1 : Int32) else 0) = 0 by decide), p5, i1n]
      exact J
    | false =>
      rw [hb] at J
      rw [if_pos (show (if false = true then (1 : Int32) else 0) = 0 by decide)]
      exact J
theorem q_takeBackW {S : HS} {t n d : Nat} {A G : Nat → Nat} (hW : Wf A) (h : PSw S t A (upG G n (d + 1)) (n + 1)) (hV : GVa A G n) (hn : n < A 9) (hd : d < A 13) (hw : wtA A d = true) (h0 : A (31 + 6 * n) = 0) : ∃ S1, s_X3_takeBack (nI n) (nI (rnk (wtA A) d)) S = some S1 ∧ PSw S1 t A G n ∧ BsD S S1 := by
  have h5 := hW.1.1
  have h20 := hW.1.2.2.2.2.1
  have h6 := hW.1.2.1
  have h4 := wt4 hW
  have hlt := rnk_lt hd hw
  obtain ⟨hL, ht, p1, p2, p3, p4, p5, p6, p7, p8, p9, p10, p11⟩ := h
  have htn := isT_num ht
  obtain ⟨r1, r2, r3⟩ := p7 d hd hw
  rw [up_lf1, if_pos rfl] at r3
  have hl := lf_4995 (G := G) hW hd n
  have hGn := gv_n hV
  have e1 : upG G n (d + 1) n = d + 1 := if_pos rfl
  have e30 : A (30 + 6 * n) = 0 := (hW.2.2.1 n hn).2.1.mpr h0
  obtain ⟨m0, m1, m2⟩ := lay_c (A := A) (G := upG G n (d + 1)) (c := n) (by omega)
  have e127 : (ga S 127).getD n 0 = nI (min (lfA A G d n) (tpA A n)) := by
    have := (p9 n (by omega)).1
    rw [m0, e1, if_neg (by omega), up_am] at this
    exact this
  have e26 : (ga S 26).getD n 0 = dn (A (32 + 6 * n)) := (p4.2.2.1 n (by omega)).2.2.1
  have e7 : (ga S (t + 7)).getD d 0 = nI (A (57 + 5 * d)) := (p3.2.2.2.2.2.2 d hd).1
  have hq6 := (hW.1.2.2.2.2.2.2.2.2.2.2.2 d hd).1
  obtain ⟨S3, eS3⟩ : ∃ S3, S3 = sf (st (toC (st S 133 (rnk (wtA A) d) (nI (lfA A G d n))) 126 n) 129 n (dn (A (32 + 6 * n)))) 121 10 (nI (rnk (fun c => decide (G c ≠ 0)) (A 9))) := ⟨_, rfl⟩
  have gaT : ∀ k, k ≠ 133 → k ≠ 127 → k ≠ 128 → k ≠ 129 → k ≠ 130 → ga S3 k = ga S k := by
    intro k k0 k1 k2 k3 k4
    rw [eS3, ga_sf, ga_st_ne k3]
    unfold toC
    rw [ga_st_ne (by omega), ga_st_ne (by omega), ga_st_ne (by omega), ga_st_ne k0]
  have hL3 : LnD S3 := by
    rw [eS3]
    exact hL.st.toC.st.sf
  have hgr : ∀ j, gr S3 121 j = gr S 121 j := fun j => by
    rw [eS3]
    rfl
  have hgf : ∀ k j, ¬ (k = 121 ∧ j = 10) → gf S3 k j = gf S k j := fun k j hk => by
    rw [eS3, gf_sf, if_neg hk]
    rfl
  have hS3 : PSw (sf S3 121 11 (nI (wcA A G))) t A G n ∧ BsD S (sf S3 121 11 (nI (wcA A G))) := by
    refine ⟨⟨hL3, ht, (hgr 2).trans p1, (hgr 3).trans p2, ?_, ?_, ?_, ?_, fun e he hwe => ?_, fun c hc => ?_, fun c hc => ?_, ?_, ?_⟩, ⟨fun j hj => ?_, gaT 135 (by omega) (by omega) (by omega) (by omega) (by omega), gaT 136 (by omega) (by omega) (by omega) (by omega) (by omega)⟩⟩
    · refine p3.keep (fun j => ?_) ?_ (fun i hi => gaT _ (by omega) (by omega) (by omega) (by omega) (by omega))
      · rw [gf_sf, if_neg (by omega)]
        exact hgf _ _ (by omega)
      · rw [eS3]
        rfl
    · refine p4.of ?_ ?_ (fun i h1 h2 => gaT _ (by omega) (by omega) (by omega) (by omega) (by omega))
      · rw [gf_sf, if_neg (by omega)]
        exact hgf _ _ (by omega)
      · rw [gf_sf, if_neg (by omega)]
        exact hgf _ _ (by omega)
    · rw [gf_sf, if_neg (by omega), hgf _ _ (by omega)]
      exact p5
    · rw [gf_sf, if_neg (by omega), hgf _ _ (by omega)]
      exact p6
    · obtain ⟨q1, q2, q3⟩ := p7 e he hwe
      rw [ga_sf, ga_sf, ga_sf, gaT 131 (by omega) (by omega) (by omega) (by omega) (by omega), gaT 132 (by omega) (by omega) (by omega) (by omega) (by omega)]
      refine ⟨q1, q2, ?_⟩
      rw [eS3, ga_sf, ga_st_ne (by omega)]
      unfold toC
      rw [ga_st_ne (by omega), ga_st_ne (by omega), ga_st_ne (by omega)]
      by_cases u : d = e
      · subst u
        rw [gd_st_eq (nD133 hL) (by omega)]
      · have hne := rnk_ne (p := wtA A) u hw hwe
        rw [up_lf1, if_neg u] at q3
        rw [gd_st (by omega)]
        exact q3
    · rw [ga_sf, gaT 134 (by omega) (by omega) (by omega) (by omega) (by omega)]
      exact p8 c hc
    · rw [ga_sf, ga_sf, ga_sf, ga_sf, eS3, ga_sf, ga_sf, ga_sf, ga_sf]
      by_cases u : c = n
      · subst u
        obtain ⟨l0, l1, l2⟩ := lay_c (A := A) (G := G) hc
        rw [l0, l1, l2, if_pos hGn, if_pos hGn, if_pos hGn, e30, h0, dn_0]
        unfold toC
        refine ⟨?_, ?_, ?_, ?_⟩
        · rw [gd_st (by omega), gd_st (by omega), gd_st (by omega), gd_st_eq (k := 126 + 1) (nD127 hL.st) (by omega)]
          rfl
        · rw [gd_st (by omega), gd_st_eq (k := 126 + 2) (nD128 hL.st.st.st) (by omega)]
        · rw [gd_st_eq (k := 126 + 3) (nD129 hL.st.st.st.st) (by omega)]
        · rw [gd_st (by omega), gd_st (by omega), gd_st_eq (k := 126 + 4) (nD130 hL.st.st) (by omega), show nI 0 = 0 from rfl, Int32.zero_mul]
      · obtain ⟨u1, u2, u3, u4⟩ := up_lay (x := d + 1) (N := n) hV (Nat.le_refl _) hc u
        have hl6 : lqA (layA A G) c < 6 := by
          rw [lq_lay hc]
          by_cases z : G c = 0
          · rw [if_pos z]
            exact lq_lt hW hc
          · rw [if_neg z]
            have h3 := (hV c z).2.2.1
            have := (hW.1.2.2.2.2.2.2.2.2.2.2.2 (G c - 1) (by omega)).1
            omega
        have q := p9 c hc
        rw [u1, u2, u3, u4, lay_out (A := A) (G := upG G n (d + 1)) (i := 15 + lqA (layA A G) c) (Or.inl (by omega))] at q
        rw [lay_out (i := 15 + lqA (layA A G) c) (Or.inl (by omega))]
        unfold toC
        rw [gd_st (by omega), gd_st (by omega), gd_st (by omega), gd_st (by omega), gd_st (by omega), gd_st (by omega), gd_st (by omega), gd_st (by omega), gd_st (by omega), gd_st (by omega), gd_st (by omega), gd_st (by omega), gd_st (by omega), gd_st (by omega), gd_st (by omega), gd_st (by omega), gd_st (by omega), gd_st (by omega), gd_st (by omega), gd_st (by omega)]
        exact q
    · rw [gf_sf, if_neg (by omega), eS3, gf_sf, if_pos ⟨rfl, rfl⟩]
    · rw [gf_sf, if_pos ⟨rfl, rfl⟩]
    · by_cases u : j = 11
      · omega
      · rw [gf_sf, if_neg (by omega)]
        exact hgf _ _ (by omega)
  have esum : nI (lfA A G d n - tpA A n) + nI (min (lfA A G d n) (tpA A n)) = nI (lfA A G d n) := by
    rw [nI_add]
    congr 1
    omega
  have eu : gf S 121 10 - 1 = nI (rnk (fun c => decide (G c ≠ 0)) (A 9)) := by
    rw [p10, up_rnk hn hGn, nI_pred]
  have e3 : (ga S3 131).getD (rnk (wtA A) d) 0 = nI d := by
    rw [gaT 131 (by omega) (by omega) (by omega) (by omega) (by omega)]
    exact r1
  have e4 : (ga S3 (t + 7)).getD d 0 = nI (A (57 + 5 * d)) := by
    rw [gaT (t + 7) (by omega) (by omega) (by omega) (by omega) (by omega)]
    exact e7
  have g10 : ∀ x, gf (st (toC (st S 133 (rnk (wtA A) d) (nI (lfA A G d n))) 126 n) 129 n x) 121 10 = gf S 121 10 := fun _ => rfl
  rw [s_X3_takeBack, rc_ok p2, sb, ag_ok (nD26 hL) (by omega) (by omega), sb, e26, ag_ok (nD133 hL) (by omega) (by omega), sb, r3, ag_ok (nD127 hL) (by omega) (by omega), sb, e127, esum, wa_st (nD133 hL) (by omega) (by omega), sb, w_takeOut hL.st mC126 (by omega), sb, wa_st (nD129 hL.st.toC) (by omega) (by omega), sb, g10, eu, pf_ok, sb, ← eS3, tl_ok ((hgr 2).trans p1) ht, sb, sb, ag_ok (nD131 hL3) (by omega) (by omega), sb, e3, ag_ok (nT7 hL3 ht) (by omega) (by omega), sb, e4, q_barred, sb, pf_ok, pf_ok, sb, sb]
  have hT3 : RBr S3 t A := by
    have := p3.2.2.2.2.2.1
    obtain ⟨m, m1, m2, m3⟩ := this
    refine ⟨m, m1, ?_, m3⟩
    rw [eS3]
    exact m2
  have g11 : gf S3 121 11 = nI (wcA A (upG G n (d + 1))) := (hgf _ _ (by omega)).trans p11
  rw [br_bA hT3 hW.1 (by omega) (by omega), g11, up_wc hn hGn]
  cases hb : bA A n (A (57 + 5 * d)) with
  | true =>
    rw [if_neg (show ¬ (if true = true then (1 : Int32) else 0) = 0 by decide), if_pos rfl, nI_pred]
    exact ⟨_, rfl, hS3⟩
  | false =>
    rw [if_pos (show (if false = true then (1 : Int32) else 0) = 0 by decide), if_neg (by decide), Nat.add_zero, Int32.sub_zero]
    exact ⟨_, rfl, hS3⟩
