/-! the desk in the midst of dealing; a whole deal, looked at by both -/
def PSd (S : HS) (t : Nat) (A G : Nat → Nat) (n : Nat) : Prop := LnD S ∧ isT t ∧ gr S 121 2 = .ref t ∧ gr S 121 3 = .ref 22 ∧ RDt S t A ∧ RSt S 22 A ∧ gf S 121 4 = 0 ∧ gf S 121 5 = nI (rnk (wtA A) (A 13)) ∧ (∀ d, d < A 13 → wtA A d = true → (ga S 131).getD (rnk (wtA A) d) 0 = nI d ∧ (ga S 132).getD (rnk (wtA A) d) 0 = nI (lkA A d) ∧ (ga S 133).getD (rnk (wtA A) d) 0 = nI (lfA A G d n)) ∧ (∀ c, c ≤ A 9 → (ga S 134).getD c 0 = nI (rmA A c)) ∧ RCa S 126 (layA A G) ∧ gf S 121 10 = nI (rnk (fun c => decide (G c ≠ 0)) (A 9))
theorem PSd.of {S S1 : HS} {t n : Nat} {A G : Nat → Nat} (h : PSd S t A G n) (hL : LnD S1) (h1 : ∀ k j, k < 112 → gf S1 k j = gf S k j) (h2 : ∀ j, j = 4 ∨ j = 5 ∨ j = 10 → gf S1 121 j = gf S 121 j) (h3 : ∀ j, gr S1 121 j = gr S 121 j) (h4 : ∀ k, k < 112 → gl S1 k = gl S k) (h5 : ∀ k, k < 112 ∨ (126 ≤ k ∧ k ≤ 134) → ga S1 k = ga S k) : PSd S1 t A G n := by
  obtain ⟨_, ht, p1, p2, p3, p4, p5, p6, p7, p8, p9, p10⟩ := h
  have htn := isT_num ht
  refine ⟨hL, ht, by rw [h3]; exact p1, by rw [h3]; exact p2, p3.keep (fun j => h1 _ _ (by omega)) (h4 _ (by omega)) (fun i hi => h5 _ (by omega)), p4.of (h1 _ _ (by omega)) (h1 _ _ (by omega)) (fun i _ _ => h5 _ (by omega)), by rw [h2 4 (by omega)]; exact p5, by rw [h2 5 (by omega)]; exact p6, fun d hd hw => ?_, fun c hc => ?_, fun c hc => ?_, by rw [h2 10 (by omega)]; exact p10⟩
  · rw [h5 131 (by omega), h5 132 (by omega), h5 133 (by omega)]
    exact p7 d hd hw
  · rw [h5 134 (by omega)]
    exact p8 c hc
  · rw [h5 (126 + 1) (by omega), h5 (126 + 2) (by omega), h5 (126 + 3) (by omega), h5 (126 + 4) (by omega)]
    exact p9 c hc
def BRl (S M : HS) (A : Nat → Nat) : Prop := (gf S 121 12 = 0 ∧ gf M 137 26 = -1) ∨ (gf S 121 12 = 1 ∧ ∃ (G : Nat → Nat) (sv us : Nat), GVa A G (A 9) ∧ PkA A G ∧ sv ≤ 20 ∧ us ≤ 5 ∧ gf S 121 14 = nI sv ∧ gf M 137 26 = nI sv ∧ gf S 121 15 = nI us ∧ gf M 137 27 = nI us ∧ ∀ c, c < A 9 → (ga S 135).getD c 0 = dn (G c) ∧ (ga M 149).getD c 0 = dn (G c) ∧ (ga S 136).getD c 0 = nI (if G c = 0 then 0 else amA A G c) ∧ (ga M 150).getD c 0 = nI (if G c = 0 then 0 else amA A G c))
def BsD (S S1 : HS) : Prop := (∀ j, 12 ≤ j → gf S1 121 j = gf S 121 j) ∧ ga S1 135 = ga S 135 ∧ ga S1 136 = ga S 136
theorem BsD.rf {S : HS} : BsD S S := ⟨fun _ _ => rfl, rfl, rfl⟩
theorem BRl.of {S S1 M M1 : HS} {A : Nat → Nat} (h : BRl S M A) (hS : BsD S S1) (hM : BsM M M1) : BRl S1 M1 A := by
  unfold BRl at h ⊢
  rw [hS.1 12 (by omega), hS.1 14 (by omega), hS.1 15 (by omega), hS.2.1, hS.2.2, hM.1, hM.2.1, hM.2.2.1, hM.2.2.2]
  exact h
def wKD (k j : Nat) : Prop := k = 135 ∨ k = 136
theorem q_keepDeal {S : HS} {t : Nat} {A G : Nat → Nat} (hW : Wf A) (h : PSd S t A G (A 9)) (hV : GVa A G (A 9)) (hg : ∀ c, c < A 9 → G c ≠ 0 → GdA A G c) : ∃ S1, s_X3_keepDeal S = some S1 ∧ Fr wKD S S1 ∧ ∀ c, c < A 9 → (ga S1 135).getD c 0 = dn (G c) ∧ (ga S1 136).getD c 0 = nI (if G c = 0 then 0 else amA A G c) := by
  have h5 := hW.1.1
  have L : ∀ (m j : Nat) (S' : HS) (K : Nat), Fr wKD S S' → j + m = A 9 → m < K → (∀ c, c < j → (ga S' 135).getD c 0 = dn (G c) ∧ (ga S' 136).getD c 0 = nI (if G c = 0 then 0 else amA A G c)) → ∃ S1, s_X3_keepDeal_L2 K (nI j) S' = some S1 ∧ Fr wKD S S1 ∧ ∀ c, c < A 9 → (ga S1 135).getD c 0 = dn (G c) ∧ (ga S1 136).getD c 0 = nI (if G c = 0 then 0 else amA A G c) := by
    intro m
    induction m with
    | zero =>
      intro j S' K f hj hK hr
      obtain ⟨K, rfl⟩ : ∃ k, K = k + 1 := ⟨K - 1, by omega⟩
      have hP' : PSd S' t A G (A 9) := h.of (h.1.fr f) (fun k j hk => (f.1 k j (by unfold wKD; omega)).1) (fun j _ => (f.1 _ _ (by unfold wKD; omega)).1) (fun j => (f.1 _ _ (by unfold wKD; omega)).2) (fun k hk => f.2.1 k (by unfold wKD; omega)) (fun k hk => f.2.2.1 k (by unfold wKD; omega))
      rw [s_X3_keepDeal_L2, tl_ok hP'.2.2.1 hP'.2.1, sb, hP'.2.2.2.2.1.1, if_pos (nI_le (by omega) (by omega))]
      exact ⟨S', rfl, f, fun c hc => hr c (by omega)⟩
    | succ m ih =>
      intro j S' K f hj hK hr
      obtain ⟨K, rfl⟩ : ∃ k, K = k + 1 := ⟨K - 1, by omega⟩
      have hP' : PSd S' t A G (A 9) := h.of (h.1.fr f) (fun k j hk => (f.1 k j (by unfold wKD; omega)).1) (fun j _ => (f.1 _ _ (by unfold wKD; omega)).1) (fun j => (f.1 _ _ (by unfold wKD; omega)).2) (fun k hk => f.2.1 k (by unfold wKD; omega)) (fun k hk => f.2.2.1 k (by unfold wKD; omega))
      have hL' := hP'.1
      have hC := hP'.2.2.2.2.2.2.2.2.2.2.1 j (by omega)
      have h24 := (hP'.2.2.2.2.2.1.2.2.1 j (by omega)).1
      obtain ⟨l0, l1, _⟩ := lay_c (A := A) (G := G) (c := j) (by omega)
      have hw := hW.2.2.1 j (by omega)
      have nx : ∀ x y, x = dn (G j) → y = nI (if G j = 0 then 0 else amA A G j) → ∃ S1, s_X3_keepDeal_L2 K (nI (j + 1)) (st (st S' 135 j x) 136 j y) = some S1 ∧ Fr wKD S S1 ∧ ∀ c, c < A 9 → (ga S1 135).getD c 0 = dn (G c) ∧ (ga S1 136).getD c 0 = nI (if G c = 0 then 0 else amA A G c) := by
        intro x y ex ey
        refine ih (j + 1) _ K (fr_st (fr_st f (by unfold wKD; omega)) (by unfold wKD; omega)) (by omega) (by omega) (fun c hc => ?_)
        by_cases u : c = j
        · subst u
          rw [gd_st (by omega), gd_st_eq (nD135 hL') (by omega), gd_st_eq (nD136 hL'.st) (by omega)]
          exact ⟨ex, ey⟩
        · rw [gd_st (by omega), gd_st (by omega), gd_st (by omega), gd_st (by omega)]
          exact hr c (by omega)
      have J0 : G j = 0 → ∃ S1, s_X3_keepDeal_J44 (s_X3_keepDeal_L2 K) (nI j) S' = some S1 ∧ Fr wKD S S1 ∧ ∀ c, c < A 9 → (ga S1 135).getD c 0 = dn (G c) ∧ (ga S1 136).getD c 0 = nI (if G c = 0 then 0 else amA A G c) := by
        intro z
        rw [s_X3_keepDeal_J44, s_X3_keepDeal_J45, i0e, s_X3_keepDeal_J68, wa_st (nD135 hL') (by omega) (by omega), sb, i0e, wa_st (nD136 hL'.st) (by omega) (by omega), sb, ← nI_succ]
        exact nx _ _ (by rw [z, dn_0]) (by rw [if_pos z]; rfl)
      rw [s_X3_keepDeal_L2, tl_ok hP'.2.2.1 hP'.2.1, sb, hP'.2.2.2.2.1.1, if_neg (nI_ge (by omega) (by omega)), rc_ok hP'.2.2.2.1, sb, ag_ok (nD24 hL') (by omega) (by omega), sb, show (ga S' 24).getD j 0 = _ from h24, ag_ok (nD127 hL') (by omega) (by omega), sb, show (ga S' 127).getD j 0 = _ from hC.1, l0]
      by_cases z : G j = 0
      · by_cases y : A (30 + 6 * j) = 0
        · rw [y, if_pos z, if_neg (show ¬ nI 0 ≠ 0 by decide), if_pos (show nI 0 ≤ 0 by decide)]
          exact J0 z
        · rw [if_pos (nI_ne0 (n := A (30 + 6 * j)) (by omega) (by omega))]
          exact J0 z
      · obtain ⟨_, v2, v3, _⟩ := hV j z
        have y : A (30 + 6 * j) = 0 := hw.2.1.mpr v2
        have ga0 := (hg j (by omega) z).1
        have ht := tp_999 hW (c := j) (by omega)
        have ha9 : amA A G j ≤ 999 := by
          unfold amA
          omega
        rw [y, if_neg z, if_neg (show ¬ nI 0 ≠ 0 by decide), if_neg (show ¬ nI (amA A G j) ≤ 0 from nI_ge (a := 0) (b := amA A G j) (by omega) (by omega)), s_X3_keepDeal_J45, i1e, ag_ok (nD128 hL') (by omega) (by omega), sb, show (ga S' 128).getD j 0 = _ from hC.2.1, l1, if_neg z, s_X3_keepDeal_J68, wa_st (nD135 hL') (by omega) (by omega), sb, i1e, ag_ok (nD127 hL'.st) (by omega) (by omega), sb, gd_st (by omega), show (ga S' 127).getD j 0 = _ from hC.1, l0, if_neg z, wa_st (nD136 hL'.st) (by omega) (by omega), sb, ← nI_succ]
        exact nx _ _ rfl (by rw [if_neg z])
  exact L (A 9) 0 S 40 fr_rf (by omega) (by omega) (fun c hc => absurd hc (Nat.not_lt_zero _))
theorem q_L196 {A : Nat → Nat} : ∀ (m c : Nat) (M : HS) (K : Nat), c + m = 5 → m < K → LnM M → (∀ i, i < c → (ga M 149).getD i 0 = (ga M 147).getD i 0 ∧ (ga M 150).getD i 0 = (ga M 148).getD i 0) → ∃ M', s_X8_looks_L196 K (nI c) M = some M' ∧ LnM M' ∧ (∀ i, i < 5 → (ga M' 149).getD i 0 = (ga M 147).getD i 0 ∧ (ga M' 150).getD i 0 = (ga M 148).getD i 0) ∧ ga M' 139 = ga M 139 ∧ ga M' 147 = ga M 147 ∧ ∀ k j, gf M' k j = gf M k j := by
  intro m
  induction m with
  | zero =>
    intro c M K h1 h2 hL hr
    obtain ⟨K, rfl⟩ : ∃ k, K = k + 1 := ⟨K - 1, by omega⟩
    rw [s_X8_looks_L196, if_pos (show (5 : Int32) ≤ nI c from nI_le (a := 5) (by omega) (by omega))]
    exact ⟨M, rfl, hL, fun i hi => hr i (by omega), rfl, rfl, fun _ _ => rfl⟩
  | succ m ih =>
    intro c M K h1 h2 hL hr
    obtain ⟨K, rfl⟩ : ∃ k, K = k + 1 := ⟨K - 1, by omega⟩
    rw [s_X8_looks_L196, if_neg (show ¬ (5 : Int32) ≤ nI c from nI_ge (b := 5) (by omega) (by omega)), ag_ok (nM147 hL) (by omega) (by omega), sb, wa_st (nM149 hL) (by omega) (by omega), sb, ag_ok (nM148 hL.st) (by omega) (by omega), sb, wa_st (nM150 hL.st) (by omega) (by omega), sb, ← nI_succ, gd_st (by omega)]
    obtain ⟨M', a, b, cc, d, e, f⟩ := ih (c + 1) (st (st M 149 c ((ga M 147).getD c 0)) 150 c ((ga M 148).getD c 0)) K (by omega) (by omega) hL.st.st (fun i hi => by
      by_cases u : i = c
      · subst u
        rw [gd_st (by omega), gd_st_eq (nM149 hL) (by omega), gd_st (by omega), gd_st (by omega), gd_st_eq (nM150 hL.st) (by omega), gd_st (by omega), gd_st (by omega)]
        exact ⟨rfl, rfl⟩
      · rw [gd_st (by omega), gd_st (by omega), gd_st (by omega), gd_st (by omega), gd_st (by omega), gd_st (by omega), gd_st (by omega), gd_st (by omega)]
        exact hr i (by omega))
    refine ⟨M', a, b, fun i hi => ?_, ?_, ?_, f⟩
    · have := cc i hi
      rw [gd_st (by omega), gd_st (by omega), gd_st (by omega), gd_st (by omega)] at this
      exact this
    · rw [d, ga_st_ne (by omega), ga_st_ne (by omega)]
    · rw [e, ga_st_ne (by omega), ga_st_ne (by omega)]
theorem rnk_congr {p q : Nat → Bool} : ∀ n, (∀ i, i < n → p i = q i) → rnk p n = rnk q n := by
  intro n
  induction n with
  | zero => intro _; rfl
  | succ n ih =>
    intro h
    rw [rnk, rnk, ih (fun i hi => h i (by omega)), h n (by omega)]
theorem rnk_stay {p : Nat → Bool} {n : Nat} (h : ∀ i, n ≤ i → p i = false) : ∀ k, rnk p (n + k) = rnk p n := by
  intro k
  induction k with
  | zero => rfl
  | succ k ih =>
    show rnk p (n + k) + (if p (n + k) = true then 1 else 0) = _
    rw [h (n + k) (by omega), ih]
    rfl
theorem rnk_le_n {p : Nat → Bool} : ∀ n, rnk p n ≤ n := by
  intro n
  induction n with
  | zero => exact Nat.le_refl _
  | succ n ih =>
    rw [rnk]
    split <;> omega
