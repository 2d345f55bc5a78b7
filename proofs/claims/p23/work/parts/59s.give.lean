/-! the desk deals: hopeless, gives, takes back -/
theorem sP_leN {F : Nat → Nat} {p : Nat → Bool} {B : Nat} : ∀ n, (∀ d, d < n → F d ≤ if p d then B else 0) → sP F n ≤ rnk p n * B := by
  intro n
  induction n with
  | zero => intro _; exact Nat.zero_le _
  | succ n ih =>
    intro h
    have h1 := h n (by omega)
    have h2 := ih (fun d hd => h d (by omega))
    rw [sP, rnk, Nat.add_mul]
    by_cases z : p n = true
    · rw [if_pos z] at h1 ⊢
      rw [Nat.one_mul]
      omega
    · rw [if_neg z] at h1 ⊢
      rw [Nat.zero_mul]
      omega
theorem rm_bnd {A : Nat → Nat} (hW : Wf A) : ∀ k c, c + k ≤ A 9 → rmS A k c ≤ k * 999 := by
  intro k
  induction k with
  | zero => intro c _; exact Nat.zero_le _
  | succ k ih =>
    intro c hc
    have h1 := ih (c + 1) (by omega)
    have h2 := tp_999 hW (c := c) (by omega)
    have e : (k + 1) * 999 = k * 999 + 999 := Nat.succ_mul k 999
    rw [e, rmS]
    by_cases z : A (30 + 6 * c) = 0
    · rw [if_pos z]
      omega
    · rw [if_neg z]
      omega
theorem rm_5000 {A : Nat → Nat} (hW : Wf A) {c : Nat} (hc : c ≤ A 9) : rmA A c ≤ 5000 := by
  have h5 := hW.1.1
  have := rm_bnd hW (A 9 - c) c (by omega)
  unfold rmA
  have h2 : (A 9 - c) * 999 ≤ 5 * 999 := Nat.mul_le_mul_right _ (by omega)
  omega
theorem wt4 {A : Nat → Nat} (hW : Wf A) : rnk (wtA A) (A 13) ≤ 4 := by
  rw [rnk_cnt]
  exact hW.2.2.2.2.2
theorem q_hopeless {S : HS} {t n : Nat} {A G : Nat → Nat} (hW : Wf A) (h : PSd S t A G n) (hn : n ≤ A 9) : s_X3_isHopeless (nI n) S = some (if owA A G n ≤ rmA A n then 0 else 1) := by
  have h5 := hW.1.1
  have h20 := hW.1.2.2.2.2.1
  have h4 := wt4 hW
  have hL := h.1
  have hrm := rm_5000 hW hn
  have how : owA A G n ≤ 4 * 4995 := by
    refine Nat.le_trans (sP_leN (p := wtA A) (B := 4995) (A 13) (fun d hd => ?_)) (Nat.mul_le_mul_right _ h4)
    by_cases z : wtA A d = true ∧ lfA A G d n < lkA A d
    · rw [if_pos z, if_pos z.1]
      exact lf_4995 hW hd n
    · rw [if_neg z]
      omega
  have lp : ∀ (m d : Nat) (K : Nat), d + m = A 13 → rnk (wtA A) (A 13) - rnk (wtA A) d < K → s_X3_isHopeless_L31 (nI n) S K (nI (sP (fun d => if wtA A d = true ∧ lfA A G d n < lkA A d then lfA A G d n else 0) d)) (nI (rnk (wtA A) d)) = some (if owA A G n ≤ rmA A n then 0 else 1) := by
    intro m
    induction m with
    | zero =>
      intro d K h1 h2
      obtain ⟨K, rfl⟩ : ∃ k, K = k + 1 := ⟨K - 1, by omega⟩
      have ed : d = A 13 := by omega
      subst ed
      rw [s_X3_isHopeless_L31, h.2.2.2.2.2.2.2.1, if_pos (nI_le (Nat.le_refl _) (by omega)), ag_ok (nD134 hL) (by omega) (by omega), sb, h.2.2.2.2.2.2.2.2.2.1 n hn]
      show (if nI (owA A G n) ≤ nI (rmA A n) then some (0 : Int32) else some 1) = _
      by_cases z : owA A G n ≤ rmA A n
      · rw [if_pos z, if_pos (nI_le z (by omega))]
      · rw [if_neg z, if_neg (nI_ge (by omega) (by omega))]
    | succ m ih =>
      intro d K h1 h2
      have hd : d < A 13 := by omega
      have e1 : rnk (wtA A) (d + 1) = rnk (wtA A) d + if wtA A d = true then 1 else 0 := rfl
      have e2 : sP (fun d => if wtA A d = true ∧ lfA A G d n < lkA A d then lfA A G d n else 0) (d + 1) = sP (fun d => if wtA A d = true ∧ lfA A G d n < lkA A d then lfA A G d n else 0) d + (if wtA A d = true ∧ lfA A G d n < lkA A d then lfA A G d n else 0) := rfl
      by_cases hw : wtA A d = true
      · obtain ⟨K, rfl⟩ : ∃ k, K = k + 1 := ⟨K - 1, by omega⟩
        have hlt := rnk_lt hd hw
        have nx := ih (d + 1) K (by omega) (by rw [e1, if_pos hw]; omega)
        rw [e1, e2, if_pos hw] at nx
        obtain ⟨_, r2, r3⟩ := h.2.2.2.2.2.2.2.2.1 d hd hw
        have hl := lf_4995 (G := G) hW hd n
        have hk := lk_4995 hW hd
        rw [s_X3_isHopeless_L31, h.2.2.2.2.2.2.2.1, if_neg (nI_ge hlt (by omega)), h.2.2.2.2.2.2.1, i0n, ag_ok (nD133 hL) (by omega) (by omega), sb, r3, ag_ok (nD132 hL) (by omega) (by omega), sb, r2, sb, ← nI_succ]
        by_cases z : lfA A G d n < lkA A d
        · rw [if_pos ⟨hw, z⟩] at nx
          rw [if_neg (nI_ge z (by omega)), nI_add]
          exact nx
        · rw [if_neg (fun q => z q.2), Nat.add_zero] at nx
          rw [if_pos (nI_le (by omega) (by omega))]
          exact nx
      · have nx := ih (d + 1) K (by omega) (by rw [e1, if_neg hw]; omega)
        rw [e1, e2, if_neg hw, if_neg (fun q => hw q.1)] at nx
        exact nx
  unfold s_X3_isHopeless
  rw [h.2.2.2.2.2.2.1, i0e]
  exact lp (A 13) 0 40 (by omega) (by omega)
theorem up_lf {A G : Nat → Nat} {n x e : Nat} : lfA A (upG G n x) e n = lfA A G e n := lf_congr n (fun c hc => if_neg (by omega))
theorem up_lf1 {A G : Nat → Nat} {n d e : Nat} : lfA A (upG G n (d + 1)) e (n + 1) = if d = e then lfA A G e n - tpA A n else lfA A G e n := by
  have e1 : upG G n (d + 1) n = d + 1 := if_pos rfl
  rw [lfA, e1, up_lf]
  by_cases z : d = e
  · rw [if_pos z, if_pos (by omega)]
  · rw [if_neg z, if_neg (by omega)]
theorem up_am {A G : Nat → Nat} {n d : Nat} : amA A (upG G n (d + 1)) n = min (lfA A G d n) (tpA A n) := by
  have e1 : upG G n (d + 1) n = d + 1 := if_pos rfl
  unfold amA
  rw [e1, show d + 1 - 1 = d by omega, up_lf]
theorem up_gd {A G : Nat → Nat} {n d : Nat} : GdA A (upG G n (d + 1)) n ↔ 0 < min (lfA A G d n) (tpA A n) ∧ bA A n (A (57 + 5 * d)) = false := by
  have e1 : upG G n (d + 1) n = d + 1 := if_pos rfl
  unfold GdA
  rw [up_am, e1, show d + 1 - 1 = d by omega]
theorem up_rnk {G : Nat → Nat} {n d N : Nat} (hn : n < N) (h0 : G n = 0) : rnk (fun c => decide (upG G n (d + 1) c ≠ 0)) N = rnk (fun c => decide (G c ≠ 0)) N + 1 := by
  rw [rnk_cnt, rnk_cnt, ← cnt_ins (p := fun c => decide (G c ≠ 0)) (x := n) N 0 (by omega) (by omega) (decide_eq_false (fun q => q h0))]
  refine cnt_congr N 0 (fun c _ _ => ?_)
  unfold upG
  by_cases z : c = n
  · rw [if_pos z, decide_eq_true (show d + 1 ≠ 0 by omega), decide_eq_true (show n = c from z.symm), Bool.or_true]
  · rw [if_neg z, decide_eq_false (show ¬ n = c from fun q => z q.symm), Bool.or_false]
/-- the row at the other places is the same -/
theorem up_lay {A G : Nat → Nat} {n x c N : Nat} (hV : GVa A G n) (hN : n ≤ N) (hc : c < 5) (hne : c ≠ n) : layA A (upG G n x) (30 + 6 * c) = layA A G (30 + 6 * c) ∧ layA A (upG G n x) (31 + 6 * c) = layA A G (31 + 6 * c) ∧ layA A (upG G n x) (32 + 6 * c) = layA A G (32 + 6 * c) ∧ lqA (layA A (upG G n x)) c = lqA (layA A G) c := by
  have e1 : upG G n x c = G c := if_neg hne
  obtain ⟨a0, a1, a2⟩ := lay_c (A := A) (G := upG G n x) hc
  obtain ⟨b0, b1, b2⟩ := lay_c (A := A) (G := G) hc
  rw [a0, a1, a2, b0, b1, b2, lq_lay hc, lq_lay hc, e1]
  by_cases z : G c = 0
  · rw [if_pos z, if_pos z, if_pos z, if_pos z]
    exact ⟨rfl, rfl, rfl, rfl⟩
  · have hcn := (hV c z).1
    refine ⟨?_, rfl, rfl, rfl⟩
    rw [if_neg z, if_neg z]
    exact am_congr (fun i hi => if_neg (by omega))
theorem q_gives {S : HS} {t n d : Nat} {A G : Nat → Nat} (hW : Wf A) (h : PSd S t A G n) (hV : GVa A G n) (hn : n < A 9) (hd : d < A 13) (hw : wtA A d = true) (h0 : A (31 + 6 * n) = 0) : (s_X3_gives (nI n) (nI (rnk (wtA A) d)) S = some (0, S) ∧ ¬ GdA A (upG G n (d + 1)) n) ∨ ∃ S1, s_X3_gives (nI n) (nI (rnk (wtA A) d)) S = some (1, S1) ∧ GdA A (upG G n (d + 1)) n ∧ PSd S1 t A (upG G n (d + 1)) (n + 1) ∧ BsD S S1 := by
  have h5 := hW.1.1
  have h20 := hW.1.2.2.2.2.1
  have h6 := hW.1.2.1
  have h4 := wt4 hW
  have hlt := rnk_lt hd hw
  have h0' := h
  obtain ⟨hL, ht, p1, p2, p3, p4, p5, p6, p7, p8, p9, p10⟩ := h
  have htn := isT_num ht
  obtain ⟨r1, r2, r3⟩ := p7 d hd hw
  have hl := lf_4995 (G := G) hW hd n
  have htp := tp_999 hW hn
  have hGn := gv_n hV
  obtain ⟨hq6, _, _⟩ := hW.1.2.2.2.2.2.2.2.2.2.2.2 d hd
  have emn : mn (nI (tpA A n)) (nI (lfA A G d n)) = nI (min (lfA A G d n) (tpA A n)) := by
    unfold mn
    by_cases q : lfA A G d n < tpA A n
    · rw [if_pos (nI_lt q (by omega)), Nat.min_eq_left (by omega)]
    · rw [if_neg (nI_nlt (by omega) (by omega)), Nat.min_eq_right (by omega)]
  obtain ⟨l0, l1, l2⟩ := lay_c (A := A) (G := G) (c := n) (by omega)
  have e129 : (ga S 129).getD n 0 = dn (A (32 + 6 * n)) := by
    have := (p9 n (by omega)).2.2.1
    rw [l2, if_pos hGn] at this
    exact this
  have e7 : (ga S (t + 7)).getD d 0 = nI (A (57 + 5 * d)) := (p3.2.2.2.2.2.2 d hd).1
  rw [s_X3_gives, tl_ok p1 ht, sb, e_dtop hL ht p3 hW hn, sb, ag_ok (nD133 hL) (by omega) (by omega), sb, r3, emn, sb, ag_ok (nD131 hL) (by omega) (by omega), sb, r1, ag_ok (nT7 hL ht) (by omega) (by omega), sb, e7, sb, ag_ok (nD129 hL) (by omega) (by omega), sb, e129, q_barred, sb, br_bA p3.2.2.2.2.2.1 hW.1 (by omega) (by omega)]
  by_cases z : min (lfA A G d n) (tpA A n) = 0
  · refine Or.inl ⟨?_, fun q => ?_⟩
    · rw [z, if_neg (show ¬ nI 0 ≠ 0 by decide)]
    · have := (up_gd.mp q).1
      omega
  · rw [if_pos (nI_ne0 (n := min (lfA A G d n) (tpA A n)) (by omega) (by omega))]
    cases hb : bA A n (A (57 + 5 * d)) with
    | true =>
      refine Or.inl ⟨?_, fun q => ?_⟩
      · rw [if_neg (show ¬ (if true = true then (1 : Int32) else 0) = 0 by decide), p5, i0n]
      · have := (up_gd.mp q).2
        rw [hb] at this
        cases this
    | false =>
      right
      rw [if_pos (show (if false = true then (1 : Int32) else 0) = 0 by decide)]
      obtain ⟨x, ex⟩ : ∃ x, x = min (lfA A G d n) (tpA A n) := ⟨_, rfl⟩
      rw [← ex]
      have hL1 : LnD (layC S 126 t n (nI d) (A (57 + 5 * d)) (nI x)) := hL.layC
      have gaL : ∀ k, k ≠ 127 → k ≠ 128 → k ≠ 129 → k ≠ 130 → ga (layC S 126 t n (nI d) (A (57 + 5 * d)) (nI x)) k = ga S k := by
        intro k k1 k2 k3 k4
        unfold layC
        rw [ga_st_ne (by omega), ga_st_ne (by omega), ga_st_ne (by omega), ga_st_ne (by omega)]
      rw [s_X3_gives_J74, tl_ok p1 ht, sb, ag_ok (nD131 hL) (by omega) (by omega), sb, r1, w_lay hL mC126 ht (by omega) (by omega), sb, ag_ok (nD133 hL1) (by omega) (by omega), sb, gaL 133 (by omega) (by omega) (by omega) (by omega), r3, pk_sub (by omega), wa_st (nD133 hL1) (by omega) (by omega), sb, pf_ok, sb, if_pos (show (if false = true then (1 : Int32) else 0) = 0 by decide), pf_ok, sb]
      refine ⟨_, rfl, up_gd.mpr ⟨by omega, hb⟩, ⟨hL1.st.sf.sf, ht, p1, p2, ?_, ?_, ?_, ?_, fun e he hwe => ?_, fun c hc => ?_, fun c hc => ?_, ?_⟩, ⟨fun j hj => ?_, ?_, ?_⟩⟩
      · refine p3.keep (fun j => ?_) rfl (fun i hi => ?_)
        · rw [gf_sf, if_neg (by omega), gf_sf, if_neg (by omega)]
          rfl
        · rw [ga_sf, ga_sf, ga_st_ne (by omega), gaL _ (by omega) (by omega) (by omega) (by omega)]
      · refine p4.of ?_ ?_ (fun i h1 h2 => ?_)
        · rw [gf_sf, if_neg (by omega), gf_sf, if_neg (by omega)]
          rfl
        · rw [gf_sf, if_neg (by omega), gf_sf, if_neg (by omega)]
          rfl
        · rw [ga_sf, ga_sf, ga_st_ne (by omega), gaL _ (by omega) (by omega) (by omega) (by omega)]
      · rw [gf_sf, if_neg (by omega), gf_sf, if_neg (by omega)]
        exact p5
      · rw [gf_sf, if_neg (by omega), gf_sf, if_neg (by omega)]
        exact p6
      · obtain ⟨q1, q2, q3⟩ := p7 e he hwe
        rw [ga_sf, ga_sf, ga_sf, ga_sf, ga_sf, ga_sf, ga_st_ne (by omega), ga_st_ne (by omega), gaL 131 (by omega) (by omega) (by omega) (by omega), gaL 132 (by omega) (by omega) (by omega) (by omega), up_lf1]
        refine ⟨q1, q2, ?_⟩
        by_cases u : d = e
        · subst u
          rw [if_pos rfl, gd_st_eq (nD133 hL1) (by omega)]
          congr 1
          omega
        · have hne := rnk_ne (p := wtA A) u hw hwe
          rw [if_neg u, gd_st (by omega), gaL 133 (by omega) (by omega) (by omega) (by omega)]
          exact q3
      · rw [ga_sf, ga_sf, ga_st_ne (by omega), gaL 134 (by omega) (by omega) (by omega) (by omega)]
        exact p8 c hc
      · rw [ga_sf, ga_sf, ga_sf, ga_sf, ga_sf, ga_sf, ga_sf, ga_sf, ga_st_ne (by omega), ga_st_ne (by omega), ga_st_ne (by omega), ga_st_ne (by omega)]
        by_cases u : c = n
        · subst u
          have e1 : upG G c (d + 1) c = d + 1 := if_pos rfl
          obtain ⟨m0, m1, m2⟩ := lay_c (A := A) (G := upG G c (d + 1)) hc
          rw [m0, m1, m2, lq_lay hc, e1, if_neg (by omega), if_neg (by omega), if_neg (by omega), if_neg (by omega), show d + 1 - 1 = d by omega, dn_s, dn_s, up_am, ← ex, lay_out (A := A) (G := upG G c (d + 1)) (i := 15 + A (57 + 5 * d)) (Or.inl (by omega))]
          unfold layC
          refine ⟨?_, ?_, ?_, ?_⟩
          · rw [gd_st (by omega), gd_st (by omega), gd_st (by omega), gd_st_eq (k := 126 + 1) (nD127 hL) (by omega)]
          · rw [gd_st (by omega), gd_st_eq (k := 126 + 2) (nD128 hL.st.st) (by omega)]
          · rw [gd_st_eq (k := 126 + 3) (nD129 hL.st.st.st) (by omega)]
          · rw [gd_st (by omega), gd_st (by omega), gd_st_eq (k := 126 + 4) (nD130 hL.st) (by omega), p3.2.2.2.2.1 _ hq6]
        · obtain ⟨u1, u2, u3, u4⟩ := up_lay (x := d + 1) (N := n) hV (Nat.le_refl _) hc u
          have hl6 : lqA (layA A G) c < 6 := by
            rw [lq_lay hc]
            by_cases z : G c = 0
            · rw [if_pos z]
              exact lq_lt hW hc
            · rw [if_neg z]
              have h3 := (hV c z).2.2.1
              have := (hW.1.2.2.2.2.2.2.2.2.2.2.2 (G c - 1) (by omega)).1
              omega
          rw [u1, u2, u3, u4, lay_out (A := A) (G := upG G n (d + 1)) (i := 15 + lqA (layA A G) c) (Or.inl (by omega)), ← lay_out (A := A) (G := G) (i := 15 + lqA (layA A G) c) (Or.inl (by omega))]
          unfold layC
          rw [gd_st (by omega), gd_st (by omega), gd_st (by omega), gd_st (by omega), gd_st (by omega), gd_st (by omega), gd_st (by omega), gd_st (by omega), gd_st (by omega), gd_st (by omega), gd_st (by omega), gd_st (by omega), gd_st (by omega), gd_st (by omega), gd_st (by omega), gd_st (by omega)]
          exact p9 c hc
      · rw [gf_sf, if_neg (by omega), gf_sf, if_pos ⟨rfl, rfl⟩, up_rnk hn hGn, nI_succ]
        show gf S 121 10 + 1 = _
        rw [p10]
      · rw [gf_sf, if_neg (by omega), gf_sf, if_neg (by omega)]
        rfl
      · rw [ga_sf, ga_sf, ga_st_ne (by omega), gaL 135 (by omega) (by omega) (by omega) (by omega)]
      · rw [ga_sf, ga_sf, ga_st_ne (by omega), gaL 136 (by omega) (by omega) (by omega) (by omega)]
theorem q_takeBack {S : HS} {t n d : Nat} {A G : Nat → Nat} (hW : Wf A) (h : PSd S t A (upG G n (d + 1)) (n + 1)) (hV : GVa A G n) (hn : n < A 9) (hd : d < A 13) (hw : wtA A d = true) (h0 : A (31 + 6 * n) = 0) : ∃ S1, s_X3_takeBack (nI n) (nI (rnk (wtA A) d)) S = some S1 ∧ PSd S1 t A G n ∧ BsD S S1 := by
  have h5 := hW.1.1
  have h20 := hW.1.2.2.2.2.1
  have h6 := hW.1.2.1
  have h4 := wt4 hW
  have hlt := rnk_lt hd hw
  obtain ⟨hL, ht, p1, p2, p3, p4, p5, p6, p7, p8, p9, p10⟩ := h
  have htn := isT_num ht
  obtain ⟨r1, r2, r3⟩ := p7 d hd hw
  rw [up_lf1, if_pos rfl] at r3
  have hl := lf_4995 (G := G) hW hd n
  have hGn := gv_n hV
  have e1 : upG G n (d + 1) n = d + 1 := if_pos rfl
  have e30 : A (30 + 6 * n) = 0 := (hW.2.2.1 n hn).2.1.mpr h0
  obtain ⟨m0, m1, m2⟩ := lay_c (A := A) (G := upG G n (d + 1)) (c := n) (by omega)
  have e127 : (ga S 127).getD n 0 = nI (min (lfA A G d n) (tpA A n)) := by
    have := (p9 n (by omega)).1
    rw [m0, e1, if_neg (by omega), up_am] at this
    exact this
  have e26 : (ga S 26).getD n 0 = dn (A (32 + 6 * n)) := (p4.2.2.1 n (by omega)).2.2.1
  have e7 : (ga S (t + 7)).getD d 0 = nI (A (57 + 5 * d)) := (p3.2.2.2.2.2.2 d hd).1
  have hq6 := (hW.1.2.2.2.2.2.2.2.2.2.2.2 d hd).1
  obtain ⟨S3, eS3⟩ : ∃ S3, S3 = sf (st (toC (st S 133 (rnk (wtA A) d) (nI (lfA A G d n))) 126 n) 129 n (dn (A (32 + 6 * n)))) 121 10 (nI (rnk (fun c => decide (G c ≠ 0)) (A 9))) := ⟨_, rfl⟩
  have gaT : ∀ k, k ≠ 133 → k ≠ 127 → k ≠ 128 → k ≠ 129 → k ≠ 130 → ga S3 k = ga S k := by
    intro k k0 k1 k2 k3 k4
    rw [eS3, ga_sf, ga_st_ne k3]
    unfold toC
    rw [ga_st_ne (by omega), ga_st_ne (by omega), ga_st_ne (by omega), ga_st_ne k0]
  have hL3 : LnD S3 := by
    rw [eS3]
    exact hL.st.toC.st.sf
  have hgr : ∀ j, gr S3 121 j = gr S 121 j := fun j => by
    rw [eS3]
    rfl
  have hgf : ∀ k j, ¬ (k = 121 ∧ j = 10) → gf S3 k j = gf S k j := fun k j hk => by
    rw [eS3, gf_sf, if_neg hk]
    rfl
  have hS3 : ∀ x : Int32, PSd (sf S3 121 11 x) t A G n ∧ BsD S (sf S3 121 11 x) := by
    intro x
    refine ⟨⟨hL3, ht, (hgr 2).trans p1, (hgr 3).trans p2, ?_, ?_, ?_, ?_, fun e he hwe => ?_, fun c hc => ?_, fun c hc => ?_, ?_⟩, ⟨fun j hj => ?_, gaT 135 (by omega) (by omega) (by omega) (by omega) (by omega), gaT 136 (by omega) (by omega) (by omega) (by omega) (by omega)⟩⟩
    · refine p3.keep (fun j => ?_) ?_ (fun i hi => gaT _ (by omega) (by omega) (by omega) (by omega) (by omega))
      · rw [gf_sf, if_neg (by omega)]
        exact hgf _ _ (by omega)
      · rw [eS3]
        rfl
    · refine p4.of ?_ ?_ (fun i h1 h2 => gaT _ (by omega) (by omega) (by omega) (by omega) (by omega))
      · rw [gf_sf, if_neg (by omega)]
        exact hgf _ _ (by omega)
      · rw [gf_sf, if_neg (by omega)]
        exact hgf _ _ (by omega)
    · rw [gf_sf, if_neg (by omega), hgf _ _ (by omega)]
      exact p5
    · rw [gf_sf, if_neg (by omega), hgf _ _ (by omega)]
      exact p6
    · obtain ⟨q1, q2, q3⟩ := p7 e he hwe
      rw [ga_sf, ga_sf, ga_sf, gaT 131 (by omega) (by omega) (by omega) (by omega) (by omega), gaT 132 (by omega) (by omega) (by omega) (by omega) (by omega)]
      refine ⟨q1, q2, ?_⟩
      rw [eS3, ga_sf, ga_st_ne (by omega)]
      unfold toC
      rw [ga_st_ne (by omega), ga_st_ne (by omega), ga_st_ne (by omega)]
      by_cases u : d = e
      · subst u
        rw [gd_st_eq (nD133 hL) (by omega)]
      · have hne := rnk_ne (p := wtA A) u hw hwe
        rw [up_lf1, if_neg u] at q3
        rw [gd_st (by omega)]
        exact q3
    · rw [ga_sf, gaT 134 (by omega) (by omega) (by omega) (by omega) (by omega)]
      exact p8 c hc
    · rw [ga_sf, ga_sf, ga_sf, ga_sf, eS3, ga_sf, ga_sf, ga_sf, ga_sf]
      by_cases u : c = n
      · subst u
        obtain ⟨l0, l1, l2⟩ := lay_c (A := A) (G := G) hc
        rw [l0, l1, l2, if_pos hGn, if_pos hGn, if_pos hGn, e30, h0, dn_0]
        unfold toC
        refine ⟨?_, ?_, ?_, ?_⟩
        · rw [gd_st (by omega), gd_st (by omega), gd_st (by omega), gd_st_eq (k := 126 + 1) (nD127 hL.st) (by omega)]
          rfl
        · rw [gd_st (by omega), gd_st_eq (k := 126 + 2) (nD128 hL.st.st.st) (by omega)]
        · rw [gd_st_eq (k := 126 + 3) (nD129 hL.st.st.st.st) (by omega)]
        · rw [gd_st (by omega), gd_st (by omega), gd_st_eq (k := 126 + 4) (nD130 hL.st.st) (by omega), show nI 0 = 0 from rfl, Int32.zero_mul]
      · obtain ⟨u1, u2, u3, u4⟩ := up_lay (x := d + 1) (N := n) hV (Nat.le_refl _) hc u
        have hl6 : lqA (layA A G) c < 6 := by
          rw [lq_lay hc]
          by_cases z : G c = 0
          · rw [if_pos z]
            exact lq_lt hW hc
          · rw [if_neg z]
            have h3 := (hV c z).2.2.1
            have := (hW.1.2.2.2.2.2.2.2.2.2.2.2 (G c - 1) (by omega)).1
            omega
        have q := p9 c hc
        rw [u1, u2, u3, u4, lay_out (A := A) (G := upG G n (d + 1)) (i := 15 + lqA (layA A G) c) (Or.inl (by omega))] at q
        rw [lay_out (i := 15 + lqA (layA A G) c) (Or.inl (by omega))]
        unfold toC
        rw [gd_st (by omega), gd_st (by omega), gd_st (by omega), gd_st (by omega), gd_st (by omega), gd_st (by omega), gd_st (by omega), gd_st (by omega), gd_st (by omega), gd_st (by omega), gd_st (by omega), gd_st (by omega), gd_st (by omega), gd_st (by omega), gd_st (by omega), gd_st (by omega), gd_st (by omega), gd_st (by omega), gd_st (by omega), gd_st (by omega)]
        exact q
    · rw [gf_sf, if_neg (by omega), eS3, gf_sf, if_pos ⟨rfl, rfl⟩]
    · by_cases u : j = 11
      · omega
      · rw [gf_sf, if_neg (by omega)]
        exact hgf _ _ (by omega)
  have esum : nI (lfA A G d n - tpA A n) + nI (min (lfA A G d n) (tpA A n)) = nI (lfA A G d n) := by
    rw [nI_add]
    congr 1
    omega
  have eu : gf S 121 10 - 1 = nI (rnk (fun c => decide (G c ≠ 0)) (A 9)) := by
    rw [p10, up_rnk hn hGn, nI_pred]
  have e3 : (ga S3 131).getD (rnk (wtA A) d) 0 = nI d := by
    rw [gaT 131 (by omega) (by omega) (by omega) (by omega) (by omega)]
    exact r1
  have e4 : (ga S3 (t + 7)).getD d 0 = nI (A (57 + 5 * d)) := by
    rw [gaT (t + 7) (by omega) (by omega) (by omega) (by omega) (by omega)]
    exact e7
  have g10 : ∀ x, gf (st (toC (st S 133 (rnk (wtA A) d) (nI (lfA A G d n))) 126 n) 129 n x) 121 10 = gf S 121 10 := fun _ => rfl
  rw [s_X3_takeBack, rc_ok p2, sb, ag_ok (nD26 hL) (by omega) (by omega), sb, e26, ag_ok (nD133 hL) (by omega) (by omega), sb, r3, ag_ok (nD127 hL) (by omega) (by omega), sb, e127, esum, wa_st (nD133 hL) (by omega) (by omega), sb, w_takeOut hL.st mC126 (by omega), sb, wa_st (nD129 hL.st.toC) (by omega) (by omega), sb, g10, eu, pf_ok, sb, ← eS3, tl_ok ((hgr 2).trans p1) ht, sb, sb, ag_ok (nD131 hL3) (by omega) (by omega), sb, e3, ag_ok (nT7 hL3 ht) (by omega) (by omega), sb, e4, q_barred, sb, pf_ok, pf_ok, sb, sb]
  by_cases c : (if brD t (dn (A (32 + 6 * n))) (nI (A (57 + 5 * d))) S3 = true then (1 : Int32) else 0) = 0
  · rw [if_pos c]
    exact ⟨_, rfl, hS3 _⟩
  · rw [if_neg c]
    exact ⟨_, rfl, hS3 _⟩
