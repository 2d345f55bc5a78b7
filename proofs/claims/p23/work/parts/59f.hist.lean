/-! acts kept and undone, alike -/
/-- what the later row tells, the earlier one told too -/
def Tl (A B : Nat → Nat) : Prop := (∀ i, i < 13 → B i = A i) ∧ (∀ i, 15 ≤ i → i < 27 → B i = A i) ∧ (∀ c, c < 5 → B (27 + 6 * c) = A (27 + 6 * c) ∧ B (28 + 6 * c) = A (28 + 6 * c) ∧ B (29 + 6 * c) = A (29 + 6 * c)) ∧ B 13 ≤ A 13 ∧ ∀ d, d < B 13 → B (57 + 5 * d) = A (57 + 5 * d) ∧ B (58 + 5 * d) = A (58 + 5 * d)
theorem Tl.rf {A : Nat → Nat} : Tl A A := ⟨fun _ _ => rfl, fun _ _ _ => rfl, fun _ _ => ⟨rfl, rfl, rfl⟩, Nat.le_refl _, fun _ _ => ⟨rfl, rfl⟩⟩
theorem Tl.tr {A B C : Nat → Nat} (h : Tl A B) (g : Tl B C) : Tl A C := by
  obtain ⟨a1, a2, a3, a4, a5⟩ := h
  obtain ⟨b1, b2, b3, b4, b5⟩ := g
  refine ⟨fun i hi => (b1 i hi).trans (a1 i hi), fun i h1 h2 => (b2 i h1 h2).trans (a2 i h1 h2), fun c hc => ⟨(b3 c hc).1.trans (a3 c hc).1, (b3 c hc).2.1.trans (a3 c hc).2.1, (b3 c hc).2.2.trans (a3 c hc).2.2⟩, by omega, fun d hd => ?_⟩
  exact ⟨(b5 d hd).1.trans (a5 d (by omega)).1, (b5 d hd).2.trans (a5 d (by omega)).2⟩
theorem RDt.tl {S : HS} {t : Nat} {A B : Nat → Nat} (h : RDt S t A) (g : Tl A B) (h9 : A 9 ≤ 5) (h10 : A 10 ≤ 6) : RDt S t B := by
  obtain ⟨c1, c2, c3, c4, c5, ⟨m, m1, m2, m3⟩, c7⟩ := h
  obtain ⟨a1, a2, a3, a4, a5⟩ := g
  refine ⟨?_, ?_, fun i hi => ?_, fun c hc => ?_, fun i hi => ?_, ⟨m, m1, m2, fun p q hp hq => ?_⟩, fun d hd => ?_⟩
  · rw [a1 9 (by omega)]
    exact c1
  · rw [a1 10 (by omega)]
    exact c2
  · rw [a1 i (by omega)]
    exact c3 i hi
  · rw [a1 9 (by omega)] at hc
    obtain ⟨x, y, z⟩ := a3 c (by omega)
    rw [x, y, z]
    exact c4 c hc
  · rw [a1 10 (by omega)] at hi
    rw [a2 (15 + i) (by omega) (by omega)]
    exact c5 i hi
  · rw [m3 p q hp hq, a2 (21 + p) (by omega) (by omega)]
  · obtain ⟨x, y⟩ := a5 d hd
    rw [x, y]
    exact c7 d (by omega)
theorem RSt.of {S S1 : HS} {s s1 : Nat} {A : Nat → Nat} (h : RSt S s A) (h1 : gf S1 s1 1 = gf S s 1) (h4 : gf S1 s1 4 = gf S s 4) (hg : ∀ i, 2 ≤ i → i ≤ 7 → ga S1 (s1 + i) = ga S (s + i)) : RSt S1 s1 A := by
  obtain ⟨a, b, c, d⟩ := h
  refine ⟨h1.trans a, h4.trans b, fun i hi => ?_, fun i hi => ?_⟩
  · obtain ⟨c1, c2, c3, c4⟩ := c i hi
    refine ⟨?_, ?_, ?_, ?_⟩
    · rw [show s1 + 1 + 1 = s1 + 2 by omega, hg 2 (by omega) (by omega)]
      exact c1
    · rw [show s1 + 1 + 2 = s1 + 3 by omega, hg 3 (by omega) (by omega)]
      exact c2
    · rw [show s1 + 1 + 3 = s1 + 4 by omega, hg 4 (by omega) (by omega)]
      exact c3
    · rw [show s1 + 1 + 4 = s1 + 5 by omega, hg 5 (by omega) (by omega)]
      exact c4
  · obtain ⟨d1, d2⟩ := d i hi
    refine ⟨?_, ?_⟩
    · rw [hg 6 (by omega) (by omega)]
      exact d1
    · rw [hg 7 (by omega) (by omega)]
      exact d2
def HR (S M : HS) (A : Nat → Nat) : Prop := ∃ (k n : Nat) (H : Nat → Nat → Nat), k ≤ 10 ∧ n < 10 ∧ gf S 30 2 = nI k ∧ gf M 137 14 = nI k ∧ gf S 30 1 = nI n ∧ (∀ i, i < k → Wf (H i) ∧ RSt S (32 + 8 * ((n + 10 - k + i) % 10)) (H i) ∧ (∀ x, x < 157 → (ga M 141).getD (157 * i + x) 0 = nI (H i x)) ∧ Tl A (H i)) ∧ ∀ i j, i ≤ j → j < k → Tl (H j) (H i)
theorem HR.of {S S1 M M1 : HS} {A A1 : Nat → Nat} (h : HR S M A) (hA : Tl A1 A) (h1 : ∀ k j, 30 ≤ k → k < 112 → gf S1 k j = gf S k j) (h2 : ∀ k, 30 ≤ k → k < 112 → ga S1 k = ga S k) (h3 : gf M1 137 14 = gf M 137 14) (h4 : ga M1 141 = ga M 141) : HR S1 M1 A1 := by
  obtain ⟨k, n, H, hk, hn, e1, e2, e3, hH, hC⟩ := h
  refine ⟨k, n, H, hk, hn, ?_, h3.trans e2, ?_, fun i hi => ?_, hC⟩
  · rw [h1 30 2 (by omega) (by omega)]
    exact e1
  · rw [h1 30 1 (by omega) (by omega)]
    exact e3
  · obtain ⟨a, b, c, d⟩ := hH i hi
    refine ⟨a, b.of (h1 _ _ (by omega) (by omega)) (h1 _ _ (by omega) (by omega)) (fun j _ _ => h2 _ (by omega) (by omega)), ?_, hA.tr d⟩
    rw [h4]
    exact c
theorem q_snap {M : HS} {k : Nat} (hL : LnM M) (eg : gf M 137 14 = nI k) (hk : k ≤ 10) : ∃ M1, s_X8_snap M = some M1 ∧ Fr wZ M M1 ∧ gf M1 137 14 = nI (if k = 10 then 10 else k + 1) ∧ (∀ x, x < 157 → (ga M1 141).getD (157 * (if k = 10 then 9 else k) + x) 0 = fM M x) ∧ ∀ i x, i < (if k = 10 then 9 else k) → x < 157 → (ga M1 141).getD (157 * i + x) 0 = (ga M 141).getD (157 * (if k = 10 then i + 1 else i) + x) 0 := by
  suffices hh : ∃ M1, s_X8_snap M = some M1 ∧ gf M1 137 14 = nI (if k = 10 then 10 else k + 1) ∧ (∀ x, x < 157 → (ga M1 141).getD (157 * (if k = 10 then 9 else k) + x) 0 = fM M x) ∧ ∀ i x, i < (if k = 10 then 9 else k) → x < 157 → (ga M1 141).getD (157 * i + x) 0 = (ga M 141).getD (157 * (if k = 10 then i + 1 else i) + x) 0 by
    obtain ⟨M1, e, s⟩ := hh
    exact ⟨M1, e, fs_X8_snap (S := M) fr_rf _ e, s⟩
  unfold s_X8_snap
  rw [eg]
  by_cases z : k = 10
  · subst z
    obtain ⟨M2, e2, a2, b2, f2⟩ := q_snap11 1413 0 M 1600 (by omega) (by omega) hL
    have hL2 := hL.fr f2
    have hf2 : fM M2 = fM M := fM_fr f2 (by unfold w41; omega)
    have g2 : gf M2 137 14 = nI 10 := (f2.1 137 14 (by unfold w41; omega)).1.trans eg
    obtain ⟨M3, e3, a3, b3, f3⟩ := q_snap52 (k := 9) (by omega) 157 0 (sf M2 137 14 (nI 9)) 1600 (by omega) (by omega) hL2 rfl (fun i hi => by omega)
    rw [if_neg (fun z => z rfl), (show s_X8_snap_L11 1600 0 M = _ from e2), g2, pf_ok, sb, show nI 10 - 1 = nI 9 from nI_pred 9, (show s_X8_snap_L52 1600 0 (sf M2 137 14 (nI 9)) = _ from e3)]
    refine ⟨_, rfl, rfl, fun x hx => ?_, fun i x hi hx => ?_⟩
    · show (ga M3 141).getD (157 * 9 + x) 0 = _
      rw [a3 x hx]
      exact congrFun hf2 x
    · rw [if_pos rfl] at hi
      show (ga M3 141).getD (157 * i + x) 0 = (ga M 141).getD (157 * (i + 1) + x) 0
      rw [b3 _ (by omega)]
      show (ga M2 141).getD (157 * i + x) 0 = _
      rw [a2 _ (by omega) (by omega), show 157 * i + x + 157 = 157 * (i + 1) + x by omega]
  · obtain ⟨M3, e3, a3, b3, f3⟩ := q_snap52 (k := k) (by omega) 157 0 M 1600 (by omega) (by omega) hL eg (fun i hi => by omega)
    rw [if_pos (nI_nec (x := 10) 10 rfl (by omega) (by omega) z), (show s_X8_snap_L52 1600 0 M = _ from e3), if_neg z, if_neg z]
    refine ⟨_, rfl, rfl, fun x hx => ?_, fun i x hi hx => ?_⟩
    · exact a3 x hx
    · rw [if_neg z]
      show (ga M3 141).getD (157 * i + x) 0 = _
      exact b3 _ (by omega)
theorem rst_cp {S : HS} {s r : Nat} {A : Nat → Nat} (hs : isS s) (hr : isS r) (hn : s ≠ r) (h : RSt S r A) : RSt (cpS S s r) s A := by
  have hsep : s + 8 ≤ r ∨ r + 8 ≤ s := (isS_sep hs hr).resolve_left hn
  refine h.of ?_ ?_ (fun i h2 h7 => ?_)
  · unfold cpS
    rw [gf_sf, if_neg (by omega), gf_sa, gf_sa, gf_sf, if_pos ⟨rfl, rfl⟩]
  · unfold cpS
    rw [gf_sf, if_pos ⟨rfl, rfl⟩]
  · unfold cpS cpC
    rw [ga_sf, ga_sa]
    by_cases y7 : i = 7
    · rw [if_pos (by omega), y7]
    rw [if_neg (by omega), ga_sa]
    by_cases y6 : i = 6
    · rw [if_pos (by omega), y6]
    rw [if_neg (by omega), ga_sf, ga_sa]
    by_cases y4 : i = 4
    · rw [if_pos (by omega), y4]
    rw [if_neg (by omega), ga_sa]
    by_cases y3 : i = 3
    · rw [if_pos (by omega), y3]
    rw [if_neg (by omega), ga_sa]
    by_cases y5 : i = 5
    · rw [if_pos (by omega), y5]
    rw [if_neg (by omega), ga_sa]
    by_cases y2 : i = 2
    · rw [if_pos (by omega), y2]
    omega
theorem ln_kp {S : HS} {s r : Nat} (hL : LnD S) (hs : isS s) (hr : isS r) : LnD (cpS S s r) := by
  have h1 : LnD (cpC S (s + 1) (r + 1)) := by
    unfold cpC
    refine LnD.sa (LnD.sa (LnD.sa (LnD.sa hL ?_) ?_) ?_) ?_
    · rw [nC1 hL (isS_C hr)]
      exact (ln_C (i := 1) (isS_C hs) (by decide)).symm
    · rw [nC4 hL (isS_C hr)]
      exact (ln_C (i := 4) (isS_C hs) (by decide)).symm
    · rw [nC2 hL (isS_C hr)]
      exact (ln_C (i := 2) (isS_C hs) (by decide)).symm
    · rw [nC3 hL (isS_C hr)]
      exact (ln_C (i := 3) (isS_C hs) (by decide)).symm
  unfold cpS
  refine LnD.sf (LnD.sa (LnD.sa (LnD.sf h1) ?_) ?_)
  · rw [nS6 hL hr]
    exact (ln_S (i := 6) hs (by decide)).symm
  · rw [nS7 hL hr]
    exact (ln_S (i := 7) hs (by decide)).symm
theorem rst_ne {S : HS} {s r x : Nat} {A : Nat → Nat} (hs : isS s) (hx : isS x) (hn : s ≠ x) (h : RSt S x A) : RSt (cpS S s r) x A := by
  have hsep : s + 8 ≤ x ∨ x + 8 ≤ s := (isS_sep hs hx).resolve_left hn
  refine h.of (gf_cpS (by omega)) (gf_cpS (by omega)) (fun i h2 h7 => ga_cpS (by omega))
/-- what an act leaves ahead of its own writing -/
theorem h_keep {S M : HS} {t : Nat} {A : Nat → Nat} (h : FS S M t A) (hr : HR S M A) : ∃ S1 M1, s_X1_keep S = some S1 ∧ s_X8_snap M = some M1 ∧ FS S1 M1 t A ∧ HR S1 M1 A ∧ (∀ c j, c < 30 → gf S1 c j = gf S c j) ∧ (∀ c j, gr S1 c j = gr S c j) ∧ (∀ c, c < 32 → ga S1 c = ga S c) ∧ (∀ c, 112 ≤ c → ga S1 c = ga S c) ∧ (∀ c j, 112 ≤ c → gf S1 c j = gf S c j) ∧ Fr wZ M M1 := by
  obtain ⟨hL, hLM, hr4, ht, hT, hSt, hM, hW⟩ := h
  obtain ⟨k, n, H, hk, hn, e1, e2, e3, hH, hC⟩ := hr
  have htn := isT_num ht
  obtain ⟨M1, f1, fZ, g14, gN, gO⟩ := q_snap hLM e2 hk
  have hM1 : RMt M1 139 A := hM.fr fZ (by unfold wZ; omega)
  have row : ∀ x, 22 ≤ x → x < 30 → True := fun _ _ _ => trivial
  have hS1 : s_X1_keep S = some (kpD S n k) := w_keep hL e3 hn e1 hk
  have g1 : ∀ c, c < 32 → ga (kpD S n k) c = ga S c := fun c hc => ga_kpD hc
  have g2 : ∀ c j, c < 30 → gf (kpD S n k) c j = gf S c j := fun c j hc => gf_kpD hc
  have gh : ∀ c, 112 ≤ c → ga (kpD S n k) c = ga S c := by
    intro c hc
    unfold kpD
    rw [ga_sf, ga_sf, ga_cpS (by omega)]
  have ghf : ∀ c j, 112 ≤ c → gf (kpD S n k) c j = gf S c j := by
    intro c j hc
    unfold kpD
    rw [gf_sf, if_neg (by omega), gf_sf, if_neg (by omega), gf_cpS (by omega)]
  have hL1 : LnD (kpD S n k) := by
    unfold kpD
    exact (ln_kp hL (isS_row hn) mS22).sf.sf
  refine ⟨kpD S n k, M1, hS1, f1, ⟨hL1, hLM.fr fZ, hr4, ht, hT.keep (fun j => g2 _ _ (by omega)) rfl (fun i hi => g1 _ (by omega)), hSt.of (g2 _ _ (by omega)) (g2 _ _ (by omega)) (fun i _ _ => g1 _ (by omega)), hM1, hW⟩, ?_, g2, fun _ _ => rfl, g1, gh, ghf, fZ⟩
  have hnx : nxH n < 10 := by
    unfold nxH
    split <;> omega
  have keepR : ∀ x A', isS x → x ≠ 32 + 8 * n → RSt S x A' → RSt (kpD S n k) x A' := by
    intro x A' hx hne hR
    have := isS_rng hx
    have h1 := rst_ne (r := 22) (isS_row hn) hx (fun z => hne z.symm) hR
    refine h1.of ?_ ?_ (fun i _ _ => rfl)
    · unfold kpD
      rw [gf_sf, if_neg (by omega), gf_sf, if_neg (by omega)]
    · unfold kpD
      rw [gf_sf, if_neg (by omega), gf_sf, if_neg (by omega)]
  have newR : RSt (kpD S n k) (32 + 8 * n) A := by
    have h1 := rst_cp (isS_row hn) mS22 (by omega) hSt
    refine h1.of ?_ ?_ (fun i _ _ => rfl)
    · unfold kpD
      rw [gf_sf, if_neg (by omega), gf_sf, if_neg (by omega)]
    · unfold kpD
      rw [gf_sf, if_neg (by omega), gf_sf, if_neg (by omega)]
  have hn1 : nxH n = (n + 1) % 10 := by
    unfold nxH
    split <;> omega
  by_cases z : k = 10
  · subst z
    rw [if_pos rfl] at g14
    simp only [if_true] at gN gO
    refine ⟨10, nxH n, fun i => if i = 9 then A else H (i + 1), by omega, hnx, ?_, g14, ?_, fun i hi => ?_, fun i j hij hj => ?_⟩
    · unfold kpD
      rw [gf_sf, if_pos ⟨rfl, rfl⟩, if_pos rfl]
    · unfold kpD
      rw [gf_sf, if_neg (by omega), gf_sf, if_pos ⟨rfl, rfl⟩]
    · by_cases y : i = 9
      · subst y
        simp only [if_true]
        refine ⟨hW, ?_, fun x hx => ?_, Tl.rf⟩
        · rw [hn1, show ((n + 1) % 10 + 10 - 10 + 9) % 10 = n by omega]
          exact newR
        · rw [gN x hx]
          exact hM x hx
      · simp only [if_neg y]
        obtain ⟨a, b, c, d⟩ := hH (i + 1) (by omega)
        refine ⟨a, ?_, fun x hx => ?_, d⟩
        · rw [hn1, show ((n + 1) % 10 + 10 - 10 + i) % 10 = (n + 10 - 10 + (i + 1)) % 10 by omega]
          exact keepR _ _ (isS_row (by omega)) (by omega) b
        · rw [gO i x (by omega) hx]
          exact c x hx
    · by_cases y : j = 9
      · subst y
        simp only [if_true]
        by_cases y2 : i = 9
        · rw [if_pos y2]
          exact Tl.rf
        · rw [if_neg y2]
          exact (hH (i + 1) (by omega)).2.2.2
      · dsimp only
        rw [if_neg y, if_neg (show ¬ i = 9 by omega)]
        exact hC (i + 1) (j + 1) (by omega) (by omega)
  · rw [if_neg z] at g14
    simp only [if_neg z] at gN gO
    refine ⟨k + 1, nxH n, fun i => if i = k then A else H i, by omega, hnx, ?_, g14, ?_, fun i hi => ?_, fun i j hij hj => ?_⟩
    · unfold kpD
      rw [gf_sf, if_pos ⟨rfl, rfl⟩, if_neg z]
    · unfold kpD
      rw [gf_sf, if_neg (by omega), gf_sf, if_pos ⟨rfl, rfl⟩]
    · by_cases y : i = k
      · subst y
        simp only [if_true]
        refine ⟨hW, ?_, fun x hx => ?_, Tl.rf⟩
        · rw [hn1, show ((n + 1) % 10 + 10 - (i + 1) + i) % 10 = n by omega]
          exact newR
        · rw [gN x hx]
          exact hM x hx
      · simp only [if_neg y]
        obtain ⟨a, b, c, d⟩ := hH i (by omega)
        refine ⟨a, ?_, fun x hx => ?_, d⟩
        · rw [hn1, show ((n + 1) % 10 + 10 - (k + 1) + i) % 10 = (n + 10 - k + i) % 10 by omega]
          exact keepR _ _ (isS_row (by omega)) (by omega) b
        · rw [gO i x (by omega) hx]
          exact c x hx
    · by_cases y : j = k
      · subst y
        simp only [if_true]
        by_cases y2 : i = j
        · rw [if_pos y2]
          exact Tl.rf
        · rw [if_neg y2]
          exact (hH i (by omega)).2.2.2
      · dsimp only
        rw [if_neg y, if_neg (show ¬ i = k by omega)]
        exact hC i j (by omega) (by omega)
theorem h_undo {S M : HS} {t : Nat} {A : Nat → Nat} (h : FS S M t A) (hr : HR S M A) : ∃ v S1 M1 A1, s_X7_undo S = some (v, S1) ∧ s_X8_undo M = some (v, M1) ∧ FS S1 M1 t A1 ∧ HR S1 M1 A1 := by
  have h := h.thrown (x := 0)
  have hr0 : HR S (sf M 137 0 0) A := hr.of Tl.rf (fun _ _ _ _ => rfl) (fun _ _ _ => rfl) (by rw [gf_sf, if_neg (by omega)]) rfl
  have h' := h
  obtain ⟨hL, hLM, hr4, ht, hT, hSt, hM, hW⟩ := h
  have hr' := hr0
  obtain ⟨k, n, H, hk, hn, e1, e2, e3, hH, hC⟩ := hr0
  have htn := isT_num ht
  unfold s_X7_undo s_X1_goBack s_X8_undo
  rw [pf_ok, sb, e1, e2]
  cases k with
  | zero =>
    rw [if_neg (by decide), if_neg (by decide), sb]
    exact ⟨-1, S, sf M 137 0 0, A, rfl, rfl, h', hr'⟩
  | succ k =>
    obtain ⟨wk, rk, mk, tk⟩ := hH k (by omega)
    rw [if_pos (nI_ne0 (by omega) (by omega)), if_pos (nI_ne0 (by omega) (by omega)), nI_pred, pf_ok, sb]
    have J : ∀ b, b < 10 → b = (n + 10 - (k + 1) + k) % 10 → ∃ S1, s_X1_goBack_J28 (nI b) S = some (1, S1) ∧ LnD S1 ∧ gr S1 0 4 = gr S 0 4 ∧ RDt S1 t (H k) ∧ RSt S1 22 (H k) ∧ gf S1 30 1 = nI b ∧ gf S1 30 2 = nI k ∧ ∀ i, i < k → RSt S1 (32 + 8 * ((b + 10 - k + i) % 10)) (H i) := by
      intro b hb eb
      have f1 : gf (sf (sf S 30 1 (nI b)) 30 2 (nI k)) 30 1 = nI b := rfl
      have f2 : gf (sf S 30 1 (nI b)) 30 2 = nI (k + 1) := e1
      have hL2 : LnD (sf (sf S 30 1 (nI b)) 30 2 (nI k)) := hL
      have rk2 : RSt (sf (sf S 30 1 (nI b)) 30 2 (nI k)) (32 + 8 * b) (H k) := by
        rw [← eb] at rk
        refine rk.of ?_ ?_ (fun i _ _ => rfl)
        · rw [gf_sf, if_neg (by omega), gf_sf, if_neg (by omega)]
        · rw [gf_sf, if_neg (by omega), gf_sf, if_neg (by omega)]
      refine ⟨cpS (sf (sf S 30 1 (nI b)) 30 2 (nI k)) 22 (32 + 8 * b), ?_, ln_kp hL2 mS22 (isS_row hb), rfl, ?_, rst_cp mS22 (isS_row hb) (by omega) rk2, ?_, ?_, fun i hi => ?_⟩
      · unfold s_X1_goBack_J28
        rw [pf_ok, sb, f2, nI_pred, pf_ok, sb, f1, rw_ok hb, sb, w_copyS hL2 mS22 (isS_row hb) (by omega), sb]
      · refine (hT.tl tk hW.1.1 hW.1.2.1).keep (fun j => ?_) rfl (fun i hi => ga_cpS (by omega))
        rw [gf_cpS (by omega), gf_sf, if_neg (by omega), gf_sf, if_neg (by omega)]
      · rw [gf_cpS (by omega)]
        exact f1
      · rw [gf_cpS (by omega)]
        rfl
      · obtain ⟨_, ri, _, _⟩ := hH i (by omega)
        rw [show (n + 10 - (k + 1) + i) % 10 = (b + 10 - k + i) % 10 by omega] at ri
        refine rst_ne mS22 (isS_row (by omega)) (by omega) (ri.of ?_ ?_ (fun i _ _ => rfl))
        · rw [gf_sf, if_neg (by omega), gf_sf, if_neg (by omega)]
        · rw [gf_sf, if_neg (by omega), gf_sf, if_neg (by omega)]
    have JJ : ∃ b S1, b < 10 ∧ (if gf S 30 1 ≤ 0 then s_X1_goBack_J28 9 S else s_X1_goBack_J28 (gf S 30 1 - 1) S) = some (1, S1) ∧ LnD S1 ∧ gr S1 0 4 = gr S 0 4 ∧ RDt S1 t (H k) ∧ RSt S1 22 (H k) ∧ gf S1 30 1 = nI b ∧ gf S1 30 2 = nI k ∧ ∀ i, i < k → RSt S1 (32 + 8 * ((b + 10 - k + i) % 10)) (H i) := by
      rw [e3]
      cases n with
      | zero =>
        obtain ⟨S1, q⟩ := J 9 (by omega) (by omega)
        rw [if_pos (by decide)]
        exact ⟨9, S1, by omega, q⟩
      | succ n =>
        obtain ⟨S1, q⟩ := J n (by omega) (by omega)
        rw [if_neg (show ¬ nI (n + 1) ≤ 0 from nI_ge (a := 0) (b := n + 1) (by omega) (by omega)), nI_pred]
        exact ⟨n, S1, by omega, q⟩
    obtain ⟨b, S1, hb, q1, q2, q3, q4, q5, q6, q7, q8⟩ := JJ
    have lp : ∀ (m j : Nat) (M' : HS) (K : Nat), j + m = 157 → m < K → LnM M' → gf M' 137 14 = nI k → ga M' 141 = ga M 141 → (∀ i, i < j → fM M' i = nI (H k i)) → ∃ M1, s_X8_undo_L26 K (nI j) M' = some (nI k, M1) ∧ LnM M1 ∧ gf M1 137 14 = nI k ∧ ga M1 141 = ga M 141 ∧ RMt M1 139 (H k) := by
      intro m
      induction m with
      | zero =>
        intro j M' K h1 h2 hL' hg h3 h4
        obtain ⟨K, rfl⟩ : ∃ k, K = k + 1 := ⟨K - 1, by omega⟩
        rw [s_X8_undo_L26, if_pos (show (157 : Int32) ≤ nI j from nI_le (a := 157) (by omega) (by omega)), hg]
        exact ⟨M', rfl, hL', hg, h3, fun i hi => h4 i (by omega)⟩
      | succ m ih =>
        intro j M' K h1 h2 hL' hg h3 h4
        obtain ⟨K, rfl⟩ : ∃ k, K = k + 1 := ⟨K - 1, by omega⟩
        rw [s_X8_undo_L26, if_neg (show ¬ (157 : Int32) ≤ nI j from nI_ge (b := 157) (by omega) (by omega)), hg, m157, ag_ok (nM141 hL') (by omega) (by omega), sb, wa_st (nM139 hL') (by omega) (by omega), sb, ← nI_succ]
        refine ih (j + 1) _ K (by omega) (by omega) hL'.st hg ?_ (fun i hi => ?_)
        · rw [ga_st_ne (by omega)]
          exact h3
        · rw [fM_st hL' (by omega)]
          by_cases z : i = j
          · rw [if_pos z, h3, z]
            exact mk j (by omega)
          · rw [if_neg z]
            exact h4 i (by omega)
    obtain ⟨M1, p1, p2, p3, p4, p5⟩ := lp 157 0 (sf (sf M 137 0 0) 137 14 (nI k)) 200 (by omega) (by omega) hLM rfl rfl (fun i hi => by omega)
    refine ⟨nI k, S1, M1, H k, ?_, p1, ⟨q2, p2, q3.trans hr4, ht, q4, q5, p5, wk⟩, k, b, H, by omega, hb, q7, p3, q6, fun i hi => ?_, fun i j hij hj => hC i j hij (by omega)⟩
    · rw [q1, sb, if_neg (show ¬ (1 : Int32) = 0 by decide), q7]
    · obtain ⟨a, _, c, _⟩ := hH i (by omega)
      refine ⟨a, q8 i hi, ?_, hC i k (by omega) (by omega)⟩
      rw [p4]
      exact c
