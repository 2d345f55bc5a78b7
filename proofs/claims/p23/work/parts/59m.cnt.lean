/-! the desk's count of the orders is the model's -/
theorem ld_bnd {B : Nat → Nat} {d : Nat} (h : ∀ c, c < 5 → B (30 + 6 * c) ≤ 9999) : ∀ n, n ≤ 5 → ldA B d n ≤ n * 9999 := by
  intro n
  induction n with
  | zero => intro _; exact Nat.zero_le _
  | succ n ih =>
    intro hn
    have h1 := ih (by omega)
    have h2 := h n (by omega)
    have e : (n + 1) * 9999 = n * 9999 + 9999 := Nat.succ_mul n 9999
    rw [e, ldA]
    by_cases z : B (31 + 6 * n) = d + 1
    · rw [if_pos z]
      omega
    · rw [if_neg z]
      exact Nat.le_trans h1 (Nat.le_add_right _ _)
theorem rnk5 {a D : Nat} (hD : D ≤ 20) (h : pcB a ≤ 5) : rnk (fun d => a.testBit d) D ≤ 5 := by
  unfold pcB at h
  have h1 := rnk_mono (p := fun d => a.testBit d) (m := D) (20 - D)
  rw [show D + (20 - D) = 20 by omega, rnk_cnt _ 20] at h1
  omega
def OrdH (S M : HS) (t b : Nat) (A B : Nat → Nat) (a : Nat) : Prop := LnD S ∧ LnM M ∧ isT t ∧ isC b ∧ RDt S t A ∧ RMt M 139 A ∧ RgA A ∧ RCa S b B ∧ (∀ c, c < A 9 → LC M B c ∧ lqA B c < 6) ∧ (∀ c, c < 5 → B (31 + 6 * c) ≤ 20 ∧ B (30 + 6 * c) ≤ 9999) ∧ (∀ i, 15 ≤ i → i < 21 → B i = A i) ∧ a < 2 ^ 20 ∧ (∀ d, a.testBit d = true ↔ d < A 13 ∧ ldA B d 5 = A (58 + 5 * d)) ∧ pcB a ≤ 5
theorem OrdH.rp {S M : HS} {t b a : Nat} {A B : Nat → Nat} (h : OrdH S M t b A B a) : RP S M b (A 9) (lqA B) ∧ PL M (A 9) (lqA B) := by
  obtain ⟨_, _, _, _, _, hM, hR, hC, hP, hB20, h15, _⟩ := h
  have h5 := hR.1
  refine ⟨fun c hc => ?_, fun c hc => ⟨(hP c hc).2, (hP c hc).1.2.1⟩⟩
  obtain ⟨⟨p1, p2, p3⟩, p4⟩ := hP c hc
  have p5 := (hB20 c (by omega)).2
  obtain ⟨c1, c2, c3, c4⟩ := hC c (by omega)
  refine ⟨⟨_, p5, p1⟩, ?_, ?_⟩
  · rw [p1]
    exact c1
  · rw [p1, (show fM M (15 + lqA B c) = nI (A (15 + lqA B c)) from hM (15 + lqA B c) (by omega)), ← h15 (15 + lqA B c) (by omega) (by omega)]
    exact c4
theorem OrdH.fr {S S1 M : HS} {t b a o : Nat} {A B : Nat → Nat} (h : OrdH S M t b A B a) (ho : isO o) (f : Fr (wO o) S S1) : OrdH S1 M t b A B a := by
  obtain ⟨h1, h2, ht, hb, hT, hM, hR, hC, hP, h20, h15, ha⟩ := h
  have htn := isT_num ht
  have hg := isC_ge hb
  have hbo : b + 4 < o ∨ o + 3 < b := (by decide : ∀ b ∈ [23, 33, 41, 49, 57, 65, 73, 81, 89, 97, 105, 112, 126], ∀ o ∈ [117, 122], b + 4 < o ∨ o + 3 < b) b hb o (by rcases ho with rfl | rfl <;> decide)
  have ho2 : o = 117 ∨ o = 122 := ho
  refine ⟨h1.fr f, h2, ht, hb, hT.keep (fun j => (f.1 _ _ (by unfold wO; omega)).1) (f.2.1 _ (by unfold wO; omega)) (fun i hi => f.2.2.1 _ (by unfold wO; omega)), hM, hR, ?_, hP, h20, h15, ha⟩
  intro c hc
  rw [f.2.2.1 (b + 1) (by unfold wO; omega), f.2.2.1 (b + 2) (by unfold wO; omega), f.2.2.1 (b + 3) (by unfold wO; omega), f.2.2.1 (b + 4) (by unfold wO; omega)]
  exact hC c hc
/-- the table's rows: whom it knows, and where they lie -/
def Tab (S S0 : HS) (o b D : Nat) (p : Nat → Bool) : Prop := gf S o 0 = nI (rnk p D) ∧ ∀ d, d < D → p d = true → (ga S (o + 1)).getD (rnk p d) 0 = nI d ∧ (ga S (o + 2)).getD (rnk p d) 0 = pD b (nI d) S0
theorem e_collect {S M : HS} {t b a o : Nat} {A B : Nat → Nat} (h : OrdH S M t b A B a) (ho : isO o) : ∃ S1, s_X2_collect o t b (nI (A 13)) S = some S1 ∧ Tab S1 S o b (A 13) (fun d => a.testBit d) := by
  have h20 := h.2.2.2.2.2.2.1.2.2.2.2.1
  have h5 : rnk (fun d => a.testBit d) (A 13) ≤ 5 := rnk5 h20 h.2.2.2.2.2.2.2.2.2.2.2.2.2
  have ho2 : o = 117 ∨ o = 122 := ho
  have hbo : b + 4 < o ∨ o + 3 < b := (by decide : ∀ b ∈ [23, 33, 41, 49, 57, 65, 73, 81, 89, 97, 105, 112, 126], ∀ o ∈ [117, 122], b + 4 < o ∨ o + 3 < b) b h.2.2.2.1 o (by rcases ho with rfl | rfl <;> decide)
  have lp : ∀ (m j : Nat) (S' : HS) (K : Nat), OrdH S' M t b A B a → ga S' (b + 2) = ga S (b + 2) → j + m = A 13 → m < K → gf S' o 0 = nI (rnk (fun d => a.testBit d) j) → (∀ d, d < j → a.testBit d = true → (ga S' (o + 1)).getD (rnk (fun d => a.testBit d) d) 0 = nI d ∧ (ga S' (o + 2)).getD (rnk (fun d => a.testBit d) d) 0 = pD b (nI d) S) → ∃ S1, s_X2_collect_L8 o t b (nI (A 13)) K (nI j) S' = some S1 ∧ Tab S1 S o b (A 13) (fun d => a.testBit d) := by
    intro m
    induction m with
    | zero =>
      intro j S' K hO hb hj hK hg hr
      obtain ⟨K, rfl⟩ : ∃ k, K = k + 1 := ⟨K - 1, by omega⟩
      rw [s_X2_collect_L8, if_pos (nI_le (by omega) (by omega))]
      have ej : j = A 13 := by omega
      subst ej
      exact ⟨S', rfl, hg, hr⟩
    | succ m ih =>
      intro j S' K hO hb hj hK hg hr
      obtain ⟨K, rfl⟩ : ∃ k, K = k + 1 := ⟨K - 1, by omega⟩
      have hmon := rnk_mono (p := fun d => a.testBit d) (m := j) (A 13 - j)
      rw [show j + (A 13 - j) = A 13 by omega] at hmon
      rw [s_X2_collect_L8, if_neg (nI_ge (by omega) (by omega)), hg]
      by_cases z5 : rnk (fun d => a.testBit d) j = 5
      · rw [z5, if_pos (show (5 : Int32) ≤ nI 5 by decide)]
        refine ⟨S', rfl, ?_, fun d hd hp => ?_⟩
        · rw [hg]
          congr 1
          omega
        · by_cases y : d < j
          · exact hr d y hp
          · exfalso
            have h1 := rnk_lt (p := fun d => a.testBit d) hd hp
            have h2 := rnk_mono (p := fun d => a.testBit d) (m := j) (d - j)
            rw [show j + (d - j) = d by omega] at h2
            omega
      · obtain ⟨hL, hLM, ht, hbC, hT, hM, hR, hC, hP, hB20, h15, ha20, hab, hpc⟩ := hO
        have e58 : (ga S' (t + 8)).getD j 0 = nI (A (58 + 5 * j)) := (hT.2.2.2.2.2.2 j (by omega)).2
        have hq := (hR.2.2.2.2.2.2.2.2.2.2.2 j (by omega)).2.2
        rw [if_neg (show ¬ (5 : Int32) ≤ nI (rnk (fun d => a.testBit d) j) from nI_ge (b := 5) (by omega) (by omega)), q_dloaded hL hbC hC (fun c hc => (hB20 c hc).1) (by omega), sb, ag_ok (nT8 hL ht) (by omega) (by omega), sb, e58, ← nI_succ]
        by_cases y : ldA B j 5 = A (58 + 5 * j)
        · have hp : a.testBit j = true := (hab j).mpr ⟨by omega, y⟩
          rw [y, if_neg (fun q => q rfl), wa_st (nO1 hL ho) (by omega) (by omega), sb, q_partsOf (nC2 hL.st hbC), sb, gf_st, hg, wa_st (nO2 hL.st ho) (by omega) (by omega), sb, gf_st, gf_st, hg, pf_ok, sb]
          have epD : pD b (nI j) (st S' (o + 1) (rnk (fun d => a.testBit d) j) (nI j)) = pD b (nI j) S := by
            unfold pD
            rw [ga_st_ne (by omega), hb]
          rw [epD]
          refine ih (j + 1) _ K ?_ ?_ (by omega) (by omega) ?_ (fun d hd hpd => ?_)
          · exact OrdH.fr ⟨hL, hLM, ht, hbC, hT, hM, hR, hC, hP, hB20, h15, ha20, hab, hpc⟩ ho (fr_sf (fr_st (fr_st fr_rf (by unfold wO; omega)) (by unfold wO; omega)) (by unfold wO; omega))
          · rw [ga_sf, ga_st_ne (by omega), ga_st_ne (by omega)]
            exact hb
          · rw [gf_sf, if_pos ⟨rfl, rfl⟩, rnk, if_pos hp, nI_succ]
          · rw [ga_sf, ga_sf]
            by_cases u : d = j
            · subst u
              rw [gd_st (by omega), gd_st_eq (nO1 hL ho) (by omega), gd_st_eq (nO2 hL.st ho) (by omega)]
              exact ⟨rfl, rfl⟩
            · have hne := rnk_ne (p := fun d => a.testBit d) u hpd hp
              rw [gd_st (by omega), gd_st (by omega), gd_st (by omega), gd_st (by omega)]
              exact hr d (by omega) hpd
        · have hld := ld_bnd (d := j) (fun c hc => (hB20 c hc).2) 5 (by omega)
          have hp : a.testBit j = false := Bool.eq_false_iff.mpr (fun q => y ((hab j).mp q).2)
          rw [if_pos (show nI (ldA B j 5) ≠ nI (A (58 + 5 * j)) from fun q => y ((nI_eq (by omega) (by omega)).mp q))]
          refine ih (j + 1) S' K ⟨hL, hLM, ht, hbC, hT, hM, hR, hC, hP, hB20, h15, ha20, hab, hpc⟩ hb (by omega) (by omega) ?_ (fun d hd hpd => ?_)
          · rw [hg, rnk, hp]
            rfl
          · refine hr d ?_ hpd
            by_cases u : d = j
            · subst u
              rw [hp] at hpd
              cases hpd
            · omega
  unfold s_X2_collect
  rw [pf_ok, sb]
  refine lp (A 13) 0 (sf S o 0 0) 40 (h.fr ho (fr_sf fr_rf (by unfold wO; omega))) rfl (by omega) (by omega) ?_ (fun d hd => by omega)
  rw [gf_sf, if_pos ⟨rfl, rfl⟩]
  rfl
theorem paD_bits {S : HS} {o m : Nat} : ∀ n, (∀ i, i < n → ∃ q, q < 32 ∧ (ga S (o + 2)).getD i 0 = nI q) → ∃ P, P < 32 ∧ paD o m S n = nI P ∧ ∀ c, P.testBit c = true ↔ ∃ i, i < n ∧ m.testBit i = true ∧ ∃ q, q < 32 ∧ (ga S (o + 2)).getD i 0 = nI q ∧ q.testBit c = true := by
  intro n
  induction n with
  | zero =>
    intro _
    refine ⟨0, by omega, rfl, fun c => ?_⟩
    rw [Nat.zero_testBit]
    constructor
    · intro q
      cases q
    · rintro ⟨i, hi, _⟩
      omega
  | succ n ih =>
    intro h
    obtain ⟨P, hP, e, hb⟩ := ih (fun i hi => h i (by omega))
    obtain ⟨q, hq, eq⟩ := h n (by omega)
    unfold paD at e ⊢
    rw [up_last, e, Nat.zero_add, eq]
    by_cases z : m.testBit n = true
    · rw [if_pos z, or_nI (by omega) (by omega)]
      refine ⟨P ||| q, Nat.or_lt_two_pow (n := 5) hP hq, rfl, fun c => ?_⟩
      rw [Nat.testBit_or, Bool.or_eq_true, hb c]
      constructor
      · intro y
        rcases y with ⟨i, hi, y⟩ | y
        · exact ⟨i, by omega, y⟩
        · exact ⟨n, by omega, z, q, hq, eq, y⟩
      · rintro ⟨i, hi, y1, q', hq', eq', y2⟩
        by_cases u : i = n
        · subst u
          rw [eq, nI_eq (by omega) (by omega)] at eq'
          subst eq'
          exact Or.inr y2
        · exact Or.inl ⟨i, by omega, y1, q', hq', eq', y2⟩
    · rw [if_neg z]
      refine ⟨P, hP, rfl, fun c => ?_⟩
      rw [hb c]
      constructor
      · rintro ⟨i, hi, y⟩
        exact ⟨i, by omega, y⟩
      · rintro ⟨i, hi, y1, y2⟩
        by_cases u : i = n
        · subst u
          exact absurd y1 z
        · exact ⟨i, by omega, y1, y2⟩
def okM (M : HS) (lq : Nat → Nat) (N : Nat) (g : Nat) : Bool := decide (stM M (nI g) lq N = 0)
/-- the sets of places and of drops that are the same -/
def RelM (a D m g : Nat) : Prop := g < 2 ^ 20 ∧ (∀ d, g.testBit d = true → a.testBit d = true) ∧ ∀ d, d < D → a.testBit d = true → m.testBit (rnk (fun d => a.testBit d) d) = g.testBit d
theorem rel_st {S S0 M : HS} {t b a o m g : Nat} {A B : Nat → Nat} (h : OrdH S M t b A B a) (ho : isO o) (hb0 : ga S (b + 2) = ga S0 (b + 2)) (hTb : Tab S S0 o b (A 13) (fun d => a.testBit d)) (hm : m < 32) (hR : RelM a (A 13) m g) : ∃ u, s_X2_partsOfAll o (nI m) S = some (paD o m S (rnk (fun d => a.testBit d) (A 13))) ∧ s_X0_standing b t (paD o m S (rnk (fun d => a.testBit d) (A 13))) S = some u ∧ (u = 0 ↔ okM M (lqA B) (A 9) g = true) := by
  obtain ⟨hp1, hp2⟩ := h.rp
  obtain ⟨hL, hLM, ht, hbC, hT, hM, hRg, hC, hP, hB20, h15, ha20, hab, hpc⟩ := h
  have h5 := hRg.1
  have h20 := hRg.2.2.2.2.1
  have hn5 : rnk (fun d => a.testBit d) (A 13) ≤ 5 := rnk5 h20 hpc
  have hpt : ∀ i, i < rnk (fun d => a.testBit d) (A 13) → ∃ q, q < 32 ∧ (ga S (o + 2)).getD i 0 = nI q := by
    intro i hi
    obtain ⟨d, hd, hpd, ed⟩ := rnk_onto (A 13) hi
    obtain ⟨q, hq, eq, _⟩ := pD_bits (S := S0) (b := b) (v := nI d)
    refine ⟨q, hq, ?_⟩
    rw [← ed, (hTb.2 d hd hpd).2, eq]
  obtain ⟨P, hP32, eP, hPb⟩ := paD_bits (m := m) _ hpt
  have hG : RG M (A 9) (nI P) (nI g) := by
    refine rg_of (O := fun c => B (31 + 6 * c)) h5 (by omega) (by have := hR.1; omega) (fun c hc => ⟨(hP c hc).1.2.2, (hB20 c (by omega)).1⟩) (fun c hc => ?_)
    have hb20 := (hB20 c (by omega)).1
    have ec : (ga S0 (b + 2)).getD c 0 = dn (B (31 + 6 * c)) := by
      rw [← hb0]
      exact (hC c (by omega)).2.1
    rw [hPb c]
    constructor
    · rintro ⟨i, hi, y1, q, hq, eq, y2⟩
      obtain ⟨d, hd, hpd, ed⟩ := rnk_onto (A 13) hi
      obtain ⟨q', hq', eq', hb'⟩ := pD_bits (S := S0) (b := b) (v := nI d)
      rw [← ed, (hTb.2 d hd hpd).2, eq', nI_eq (by omega) (by omega)] at eq
      subst eq
      rw [hb' c (by omega), ec, decide_eq_true_iff, dn_eq (by omega) (by omega)] at y2
      rw [y2]
      refine ⟨by omega, ?_⟩
      rw [show d + 1 - 1 = d by omega, ← hR.2.2 d hd hpd, ed]
      exact y1
    · rintro ⟨y1, y2⟩
      obtain ⟨d, ed⟩ : ∃ d, B (31 + 6 * c) = d + 1 := ⟨B (31 + 6 * c) - 1, by omega⟩
      rw [ed, show d + 1 - 1 = d by omega] at y2
      have hpd := hR.2.1 d y2
      have hd := ((hab d).mp hpd).1
      obtain ⟨q', hq', eq', hb'⟩ := pD_bits (S := S0) (b := b) (v := nI d)
      refine ⟨rnk (fun d => a.testBit d) d, rnk_lt hd hpd, ?_, q', hq', ?_, ?_⟩
      · rw [hR.2.2 d hd hpd]
        exact y2
      · rw [(hTb.2 d hd hpd).2, eq']
      · rw [hb' c (by omega), ec, decide_eq_true_iff, dn_eq (by omega) (by omega)]
        exact ed
  obtain ⟨_, _, e3⟩ := st_eq rfl h5 hT hM hp1 hG
  refine ⟨stD b t (nI P) S (A 9), q_partsAll hL ho hTb.1 hn5 hm, ?_, ?_⟩
  · rw [eP]
    exact q_standing hL hbC ht hT.1 h5
  · unfold okM
    rw [e3, decide_eq_true_iff]
theorem all_iff {n m : Nat} (hm : m < 2 ^ n) : m = 2 ^ n - 1 ↔ ∀ i, i < n → m.testBit i = true := by
  constructor
  · intro e i hi
    rw [e, Nat.testBit_two_pow_sub_one]
    exact decide_eq_true hi
  · intro h
    apply Nat.eq_of_testBit_eq
    intro i
    rw [Nat.testBit_two_pow_sub_one]
    by_cases z : i < n
    · rw [h i z, decide_eq_true z]
    · rw [decide_eq_false z]
      exact Nat.testBit_lt_two_pow (Nat.lt_of_lt_of_le hm (Nat.pow_le_pow_right (by decide) (by omega)))
theorem e_count {S M : HS} {t b a o : Nat} {A B : Nat → Nat} (h : OrdH S M t b A B a) (ho : isO o) : ∃ S1, s_X2_count o t b (nI (A 13)) S = some (nI (owN (okM M (lqA B) (A 9)) a (A 13) 8 0), S1) := by
  have h20 := h.2.2.2.2.2.2.1.2.2.2.2.1
  have hab := h.2.2.2.2.2.2.2.2.2.2.2.2.1
  have hpc := h.2.2.2.2.2.2.2.2.2.2.2.2.2
  have ho2 : o = 117 ∨ o = 122 := ho
  have hbo : b + 4 < o ∨ o + 3 < b := (by decide : ∀ b ∈ [23, 33, 41, 49, 57, 65, 73, 81, 89, 97, 105, 112, 126], ∀ o ∈ [117, 122], b + 4 < o ∨ o + 3 < b) b h.2.2.2.1 o (by rcases ho with rfl | rfl <;> decide)
  obtain ⟨S1, e1, hT1⟩ := e_collect h ho
  have f1 : Fr (wO o) S S1 := fs_X2_collect fr_rf _ e1
  have hO1 := h.fr ho f1
  have hb1 : ga S1 (b + 2) = ga S (b + 2) := f1.2.2.1 _ (by unfold wO; omega)
  have hn5 : rnk (fun d => a.testBit d) (A 13) ≤ 5 := rnk5 h20 hpc
  unfold s_X2_count
  rw [e1, sb, hT1.1]
  generalize hnA : rnk (fun d => a.testBit d) (A 13) = n at *
  have hp : 2 ^ n ≤ 2 ^ 5 := Nat.pow_le_pow_right (by decide) hn5
  have hp0 : 0 < 2 ^ n := Nat.two_pow_pos n
  rw [bit_shl (by omega), show (1 : Int32) = nI 1 from rfl, pk_sub (by omega)]
  -- what a set's number of ways is
  have key : ∀ (r m g : Nat) (S' : HS), OrdH S' M t b A B a → ga S' (b + 2) = ga S (b + 2) → Tab S' S o b (A 13) (fun d => a.testBit d) → m < 2 ^ n → RelM a (A 13) m g → 5 < r + 1 + pcB g → (∀ m', m < m' → m' < 2 ^ n → ∀ r g, RelM a (A 13) m' g → 5 < r + pcB g → (ga S' (o + 3)).getD m' 0 = nI (if okM M (lqA B) (A 9) g = true then owN (okM M (lqA B) (A 9)) a (A 13) r g else 0)) → (m = 2 ^ n - 1 → owN (okM M (lqA B) (A 9)) a (A 13) (r + 1) g = 1) ∧ (m ≠ 2 ^ n - 1 → waD o m S' n = nI (owN (okM M (lqA B) (A 9)) a (A 13) (r + 1) g)) := by
    intro r m g S' hO hb hT hm hR hr hI
    have hall : m = 2 ^ n - 1 ↔ g = a := by
      rw [all_iff hm]
      constructor
      · intro q
        apply Nat.eq_of_testBit_eq
        intro i
        by_cases z : a.testBit i = true
        · have hi := ((hab i).mp z).1
          have := rnk_lt (p := fun d => a.testBit d) hi z
          rw [z, ← hR.2.2 i hi z]
          exact q _ (by omega)
        · rw [Bool.eq_false_iff.mpr z]
          exact Bool.eq_false_iff.mpr (fun y => z (hR.2.1 i y))
      · intro q i hi
        rw [← hnA] at hi
        obtain ⟨d, hd, hpd, ed⟩ := rnk_onto (A 13) hi
        rw [← ed, hR.2.2 d hd hpd, q]
        exact hpd
    refine ⟨fun q => ?_, fun q => ?_⟩
    · rw [owN, if_pos (hall.mp q)]
    · have hga : ¬ g = a := fun y => q (hall.mpr y)
      rw [owN, if_neg hga]
      have lp : ∀ d, d ≤ A 13 → up (fun j x => if m.testBit j then x else x + (ga S' (o + 3)).getD (m ||| 2 ^ j) 0) (rnk (fun d => a.testBit d) d) 0 0 = nI (sP (fun d => if (a.testBit d && !g.testBit d && okM M (lqA B) (A 9) (g ||| 2 ^ d)) = true then owN (okM M (lqA B) (A 9)) a (A 13) r (g ||| 2 ^ d) else 0) d) := by
        intro d
        induction d with
        | zero => intro _; rfl
        | succ d ih =>
          intro hd
          have ihd := ih (by omega)
          rw [rnk, sP]
          by_cases z : a.testBit d = true
          · have hlt := rnk_lt (p := fun d => a.testBit d) (show d < A 13 by omega) z
            rw [if_pos z, up_last, ihd, Nat.zero_add, hR.2.2 d (by omega) z, z]
            cases eg : g.testBit d with
            | true =>
              rw [if_pos rfl, if_neg (by simp), Nat.add_zero]
            | false =>
              have hmf : m.testBit (rnk (fun d => a.testBit d) d) = false := (hR.2.2 d (by omega) z).trans eg
              have ho' := or_bit hR.1 (show d < 20 by omega)
              have hR2 : RelM a (A 13) (m ||| 2 ^ rnk (fun d => a.testBit d) d) (g ||| 2 ^ d) := by
                refine ⟨ho'.2, fun i hi => ?_, fun i hi hpi => ?_⟩
                · rw [Nat.testBit_or, Nat.testBit_two_pow] at hi
                  by_cases e : d = i
                  · rw [← e]
                    exact z
                  · rw [decide_eq_false e, Bool.or_false] at hi
                    exact hR.2.1 i hi
                · rw [Nat.testBit_or, Nat.testBit_or, Nat.testBit_two_pow, Nat.testBit_two_pow, hR.2.2 i hi hpi]
                  congr 1
                  apply decide_eq_decide.mpr
                  constructor
                  · intro y
                    by_cases e : d = i
                    · exact e
                    · exact absurd y (rnk_ne (p := fun d => a.testBit d) e z hpi)
                  · intro y
                    rw [y]
              have hmm : m < m ||| 2 ^ rnk (fun d => a.testBit d) d := by
                have h1 : m ≤ m ||| 2 ^ rnk (fun d => a.testBit d) d := Nat.left_le_or
                rcases Nat.lt_or_ge m (m ||| 2 ^ rnk (fun d => a.testBit d) d) with y | y
                · exact y
                · exfalso
                  have e : m ||| 2 ^ rnk (fun d => a.testBit d) d = m := by omega
                  have e2 := congrArg (fun x => x.testBit (rnk (fun d => a.testBit d) d)) e
                  rw [Nat.testBit_or, Nat.testBit_two_pow_self, Bool.or_true, hmf] at e2
                  cases e2
              have hm2 : m ||| 2 ^ rnk (fun d => a.testBit d) d < 2 ^ n := Nat.or_lt_two_pow hm (Nat.pow_lt_pow_right (by decide) (by omega))
              have hw := hI _ hmm hm2 r (g ||| 2 ^ d) hR2 (by rw [pc_ins (by omega) eg]; omega)
              rw [if_neg (by decide), hw]
              cases ek : okM M (lqA B) (A 9) (g ||| 2 ^ d) with
              | true =>
                rw [if_pos rfl, if_pos (by decide), nI_add]
              | false =>
                rw [if_neg (by decide), if_neg (by decide), nI_add]
          · have e0 : (if (a.testBit d && !g.testBit d && okM M (lqA B) (A 9) (g ||| 2 ^ d)) = true then owN (okM M (lqA B) (A 9)) a (A 13) r (g ||| 2 ^ d) else 0) = 0 := if_neg (by rw [Bool.eq_false_iff.mpr z]; simp)
            rw [if_neg z, e0]
            exact ihd
      have hl := lp (A 13) (Nat.le_refl _)
      rw [hnA] at hl
      exact hl
  have L : ∀ (m : Nat) (S' : HS) (K : Nat), OrdH S' M t b A B a → ga S' (b + 2) = ga S (b + 2) → Tab S' S o b (A 13) (fun d => a.testBit d) → m < 2 ^ n → m + 1 < K → (∀ m', m < m' → m' < 2 ^ n → ∀ r g, RelM a (A 13) m' g → 5 < r + pcB g → (ga S' (o + 3)).getD m' 0 = nI (if okM M (lqA B) (A 9) g = true then owN (okM M (lqA B) (A 9)) a (A 13) r g else 0)) → ∃ S1, s_X2_count_L21 o t b (nI (2 ^ n - 1)) K (nI m) S' = some (nI (owN (okM M (lqA B) (A 9)) a (A 13) 8 0), S1) := by
    intro m
    induction m with
    | zero =>
      intro S' K hO hb hT hm hK hI
      obtain ⟨K, rfl⟩ : ∃ k, K = k + 2 := ⟨K - 2, by omega⟩
      have hL' := hO.1
      have hR0 : RelM a (A 13) 0 0 := ⟨by omega, fun d hd => (by rw [Nat.zero_testBit] at hd; cases hd), fun d _ _ => by rw [Nat.zero_testBit, Nat.zero_testBit]⟩
      have hk := key 7 0 0 S' hO hb hT hm hR0 (by omega) hI
      have fin : ∀ x, ∃ S1, s_X2_count_L21 o t b (nI (2 ^ n - 1)) (K + 1) (nI 0 + -1) (st S' (o + 3) 0 x) = some (x, S1) := by
        intro x
        refine ⟨st S' (o + 3) 0 x, ?_⟩
        rw [s_X2_count_L21, if_pos (by decide), (show ag (ga (st S' (o + 3) 0 x) (o + 3)) 0 = _ from ag_ok (k := 0) (nO3 hL'.st ho) (by omega) (by omega)), sb, gd_st_eq (nO3 hL' ho) (by omega)]
      rw [s_X2_count_L21, if_neg (nI_pos (by omega)), if_pos (show nI 0 = (0 : Int32) from rfl), s_X2_count_J45, s_X2_count_J50, if_pos (by decide)]
      by_cases z : 0 = 2 ^ n - 1
      · rw [if_neg (show ¬ nI 0 ≠ nI (2 ^ n - 1) from fun q => q (by rw [← z])), wa_st (nO3 hL' ho) (by omega) (by omega), sb, hk.1 z]
        exact fin _
      · rw [if_pos (show nI 0 ≠ nI (2 ^ n - 1) from fun q => z ((nI_eq (by omega) (by omega)).mp q)), q_ways hL' ho (hnA ▸ hT.1) hn5 (by omega), sb, wa_st (nO3 hL' ho) (by omega) (by omega), sb, hk.2 z]
        exact fin _
    | succ m ih =>
      intro S' K hO hb hT hm hK hI
      obtain ⟨K, rfl⟩ : ∃ k, K = k + 1 := ⟨K - 1, by omega⟩
      have hL' := hO.1
      have hT0 : gf S' o 0 = nI n := hnA ▸ hT.1
      have fin : ∀ x, (∀ r g, RelM a (A 13) (m + 1) g → 5 < r + pcB g → x = nI (if okM M (lqA B) (A 9) g = true then owN (okM M (lqA B) (A 9)) a (A 13) r g else 0)) → ∃ S1, s_X2_count_L21 o t b (nI (2 ^ n - 1)) K (nI (m + 1) + -1) (st S' (o + 3) (m + 1) x) = some (nI (owN (okM M (lqA B) (A 9)) a (A 13) 8 0), S1) := by
        intro x hx
        rw [pk_m1]
        refine ih _ _ (hO.fr ho (fr_st fr_rf (by unfold wO; omega))) ?_ ⟨hT.1, fun d hd hpd => ?_⟩ (by omega) (by omega) (fun m' h1 h2 r g hR hr => ?_)
        · rw [ga_st_ne (by omega)]
          exact hb
        · rw [gd_st (by omega), gd_st (by omega)]
          exact hT.2 d hd hpd
        · by_cases z : m' = m + 1
          · subst z
            rw [gd_st_eq (nO3 hL' ho) (by omega)]
            exact hx r g hR hr
          · rw [gd_st (by omega)]
            exact hI m' (by omega) h2 r g hR hr
      have ep := q_partsAll (m := m + 1) hL' ho hT0 hn5 (by omega)
      have es := q_standing (v := paD o (m + 1) S' n) hL' hO.2.2.2.1 hO.2.2.1 hO.2.2.2.2.1.1 hO.2.2.2.2.2.2.1.1
      have hu : ∀ g, RelM a (A 13) (m + 1) g → (stD b t (paD o (m + 1) S' n) S' (A 9) = 0 ↔ okM M (lqA B) (A 9) g = true) := by
        intro g hR
        obtain ⟨u, _, e2, hu⟩ := rel_st hO ho hb hT (by omega) hR
        rw [hnA, es] at e2
        rw [Option.some.inj e2]
        exact hu
      have hk : ∀ r g, RelM a (A 13) (m + 1) g → 5 < r + pcB g → ∃ r', r = r' + 1 ∧ (m + 1 = 2 ^ n - 1 → owN (okM M (lqA B) (A 9)) a (A 13) (r' + 1) g = 1) ∧ (m + 1 ≠ 2 ^ n - 1 → waD o (m + 1) S' n = nI (owN (okM M (lqA B) (A 9)) a (A 13) (r' + 1) g)) := by
        intro r g hR hr
        have hle := pc_mono (g := g) (a := a) (fun d _ z => hR.2.1 d z)
        obtain ⟨r', er⟩ : ∃ r', r = r' + 1 := ⟨r - 1, by omega⟩
        exact ⟨r', er, key r' (m + 1) g S' hO hb hT hm hR (by omega) hI⟩
      rw [s_X2_count_L21, if_neg (nI_pos (by omega)), if_neg (nI_ne0 (by omega) (by omega)), ep, sb, es, sb]
      by_cases c : stD b t (paD o (m + 1) S' n) S' (A 9) = 0
      · rw [if_neg (fun z => z c), s_X2_count_J45, s_X2_count_J50, i1n]
        by_cases z : m + 1 = 2 ^ n - 1
        · rw [if_neg (show ¬ nI (m + 1) ≠ nI (2 ^ n - 1) from fun q => q (by rw [z])), wa_st (nO3 hL' ho) (by omega) (by omega), sb]
          refine fin _ (fun r g hR hr => ?_)
          obtain ⟨r', er, k1, _⟩ := hk r g hR hr
          rw [if_pos ((hu g hR).mp c), er, k1 z]
          rfl
        · rw [if_pos (show nI (m + 1) ≠ nI (2 ^ n - 1) from fun q => z ((nI_eq (by omega) (by omega)).mp q)), q_ways hL' ho hT0 hn5 (by omega), sb, wa_st (nO3 hL' ho) (by omega) (by omega), sb]
          refine fin _ (fun r g hR hr => ?_)
          obtain ⟨r', er, _, k2⟩ := hk r g hR hr
          rw [if_pos ((hu g hR).mp c), er, k2 z]
      · rw [if_pos c, s_X2_count_J50, i0n, wa_st (nO3 hL' ho) (by omega) (by omega), sb]
        refine fin _ (fun r g hR hr => ?_)
        rw [if_neg (fun q => c ((hu g hR).mpr q))]
        rfl
  exact L (2 ^ n - 1) S1 40 hO1 hb1 hT1 (by omega) (by omega) (fun m' h1 h2 => by omega)
