/-! the orders: ranks, sums; the model's count -/
def sP (F : Nat → Nat) : Nat → Nat
  | 0 => 0
  | n + 1 => sP F n + F n
def rnk (p : Nat → Bool) : Nat → Nat
  | 0 => 0
  | n + 1 => rnk p n + if p n then 1 else 0
theorem rnk_cnt (p : Nat → Bool) : ∀ n, rnk p n = cnt p n 0 := by
  intro n
  induction n with
  | zero => rfl
  | succ n ih => rw [rnk, cnt_last, ih, Nat.zero_add]
theorem rnk_mono {p : Nat → Bool} {m : Nat} : ∀ k, rnk p m ≤ rnk p (m + k) := by
  intro k
  induction k with
  | zero => exact Nat.le_refl _
  | succ k ih =>
    show rnk p m ≤ rnk p (m + k) + if p (m + k) then 1 else 0
    omega
theorem rnk_lt {p : Nat → Bool} {d D : Nat} (h : d < D) (hp : p d = true) : rnk p d < rnk p D := by
  have h1 := rnk_mono (p := p) (m := d + 1) (D - (d + 1))
  rw [show d + 1 + (D - (d + 1)) = D by omega, rnk, if_pos hp] at h1
  omega
theorem rnk_ne {p : Nat → Bool} {d e : Nat} (h : d ≠ e) (hd : p d = true) (he : p e = true) : rnk p d ≠ rnk p e := by
  rcases Nat.lt_or_ge d e with q | q
  · have := rnk_lt q hd
    omega
  · have := rnk_lt (show e < d by omega) he
    omega
theorem rnk_onto {p : Nat → Bool} {i : Nat} : ∀ D, i < rnk p D → ∃ d, d < D ∧ p d = true ∧ rnk p d = i := by
  intro D
  induction D with
  | zero => intro h; exact absurd h (Nat.not_lt_zero _)
  | succ D ih =>
    intro h
    rw [rnk] at h
    by_cases z : i < rnk p D
    · obtain ⟨d, a, b⟩ := ih z
      exact ⟨d, by omega, b⟩
    · by_cases y : p D = true
      · rw [if_pos y] at h
        exact ⟨D, by omega, y, by omega⟩
      · rw [if_neg y] at h
        omega
def owN (ok : Nat → Bool) (a D : Nat) : Nat → Nat → Nat
  | 0, _ => 0
  | r + 1, g => if g = a then 1 else sP (fun d => if (a.testBit d && !g.testBit d && ok (g ||| 2 ^ d)) = true then owN ok a D r (g ||| 2 ^ d) else 0) D
theorem sP_le {F : Nat → Nat} {p : Nat → Bool} {B : Nat} (h : ∀ d, F d ≤ if p d then B else 0) : ∀ n, sP F n ≤ rnk p n * B := by
  intro n
  induction n with
  | zero => exact Nat.zero_le _
  | succ n ih =>
    have := h n
    rw [sP, rnk, Nat.add_mul]
    by_cases z : p n = true
    · rw [if_pos z] at this ⊢
      rw [Nat.one_mul]
      omega
    · rw [if_neg z] at this ⊢
      rw [Nat.zero_mul]
      omega
theorem owN_le {ok : Nat → Bool} {a D : Nat} (h5 : rnk (fun d => a.testBit d) D ≤ 5) : ∀ r g, owN ok a D r g ≤ 5 ^ r := by
  intro r
  induction r with
  | zero =>
    intro g
    exact Nat.zero_le _
  | succ r ih =>
    intro g
    have hp : 0 < 5 ^ r := Nat.pow_pos (by decide)
    rw [owN, Nat.pow_succ]
    split
    · omega
    · refine Nat.le_trans (sP_le (p := fun d => a.testBit d) (B := 5 ^ r) (fun d => ?_) D) ?_
      · by_cases z : a.testBit d = true
        · rw [if_pos z]
          split
          · exact ih _
          · omega
        · rw [if_neg z, if_neg]
          · exact Nat.le_refl _
          · rw [Bool.eq_false_iff.mpr z]
            simp
      · rw [Nat.mul_comm]
        exact Nat.mul_le_mul_left _ h5
def SmP (M0 M : HS) : Prop := LnM M ∧ ga M 139 = ga M0 139 ∧ ga M 142 = ga M0 142 ∧ ga M 143 = ga M0 143 ∧ ga M 144 = ga M0 144
theorem SmP.fr {M0 M M1 : HS} (h : SmP M0 M) (f : Fr wQ M M1) : SmP M0 M1 := ⟨h.1.fr f, (f.2.2.1 139 (by unfold wQ; omega)).trans h.2.1, (f.2.2.1 142 (by unfold wQ; omega)).trans h.2.2.1, (f.2.2.1 143 (by unfold wQ; omega)).trans h.2.2.2.1, (f.2.2.1 144 (by unfold wQ; omega)).trans h.2.2.2.2⟩
theorem SmP.wst {M0 M : HS} {k i : Nat} {x : Int32} (h : SmP M0 M) (hk : k = 145 ∨ k = 146) : SmP M0 (st M k i x) := ⟨h.1.st, (ga_st_ne (by omega)).trans h.2.1, (ga_st_ne (by omega)).trans h.2.2.1, (ga_st_ne (by omega)).trans h.2.2.2.1, (ga_st_ne (by omega)).trans h.2.2.2.2⟩
theorem SmP.fm {M0 M : HS} (h : SmP M0 M) : fM M = fM M0 := by
  unfold fM
  rw [h.2.1]
theorem e_ordersFrom {M0 : HS} {D a : Nat} {ok : Nat → Bool} (hD : fM M0 13 = nI D) (h20 : D ≤ 20) (ha : a < 2 ^ 20) (h5 : pcB a ≤ 5) (hok : ∀ M, SmP M0 M → ∀ g, g < 2 ^ 20 → ∃ u, s_X8_stands (nI g) M = some u ∧ (u = 0 ↔ ok g = true)) : ∀ (r g k : Nat) (M : HS), SmP M0 M → g < 2 ^ 20 → (∀ d, g.testBit d = true → a.testBit d = true) → pcB g = k → 5 < r + k → ∃ M', s_X8_ordersFrom r (nI a) (nI g) (nI k) M = some (nI (owN ok a D r g), M') := by
  intro r
  induction r with
  | zero =>
    intro g k M hS hg hs hk hr
    have := pc_mono (g := g) (a := a) (fun d _ z => hs d z)
    omega
  | succ r ih =>
    intro g k M hS hg hs hk hr
    have hka := pc_mono (g := g) (a := a) (fun d _ z => hs d z)
    rw [s_X8_ordersFrom, s_X8_ordersFrom_B, owN]
    by_cases c : g = a
    · rw [c, if_neg (fun z => z rfl), if_pos rfl]
      by_cases c2 : gf M 137 21 = -1
      · rw [if_neg (fun z => z c2), pf_ok, sb]
        have lp : ∀ (m i : Nat) (M' : HS) (K : Nat), i + m = k → m < K → LnM M' → ∃ M'', s_X8_ordersFrom_L21 (s_X8_ordersFrom r) (nI k) K (nI i) M' = some (nI 1, M'') := by
          intro m
          induction m with
          | zero =>
            intro i M' K h1 h2 hL'
            obtain ⟨K, rfl⟩ : ∃ k, K = k + 1 := ⟨K - 1, by omega⟩
            rw [s_X8_ordersFrom_L21, if_pos (nI_le (by omega) (by omega))]
            exact ⟨M', rfl⟩
          | succ m ihm =>
            intro i M' K h1 h2 hL'
            obtain ⟨K, rfl⟩ : ∃ k, K = k + 1 := ⟨K - 1, by omega⟩
            rw [s_X8_ordersFrom_L21, if_neg (nI_ge (by omega) (by omega)), ag_ok (nM146 hL') (by omega) (by omega), sb, wa_st (nM145 hL') (by omega) (by omega), sb, ← nI_succ]
            exact ihm (i + 1) _ K (by omega) (by omega) hL'.st
        exact lp k 0 (sf M 137 21 (nI k)) 40 (by omega) (by omega) hS.1
      · rw [if_pos c2]
        exact ⟨M, rfl⟩
    · rw [if_pos (show nI g ≠ nI a from fun z => c ((nI_eq (by omega) (by omega)).mp z)), if_neg c]
      have lp : ∀ (m d : Nat) (M' : HS) (K : Nat), d + m = D → m < K → SmP M0 M' → ∃ M'', s_X8_ordersFrom_L55 (s_X8_ordersFrom r) (nI a) (nI g) (nI k) K (nI (sP (fun d => if (a.testBit d && !g.testBit d && ok (g ||| 2 ^ d)) = true then owN ok a D r (g ||| 2 ^ d) else 0) d)) (nI d) M' = some (nI (sP (fun d => if (a.testBit d && !g.testBit d && ok (g ||| 2 ^ d)) = true then owN ok a D r (g ||| 2 ^ d) else 0) D), M'') := by
        intro m
        induction m with
        | zero =>
          intro d M' K h1 h2 hS'
          obtain ⟨K, rfl⟩ : ∃ k, K = k + 1 := ⟨K - 1, by omega⟩
          rw [s_X8_ordersFrom_L55, m_at hS'.1 (x := 13) (i := 13) rfl (by omega), sb, hS'.fm, hD, if_pos (nI_le (by omega) (by omega)), show d = D by omega]
          exact ⟨M', rfl⟩
        | succ m ihm =>
          intro d M' K h1 h2 hS'
          obtain ⟨K, rfl⟩ : ∃ k, K = k + 1 := ⟨K - 1, by omega⟩
          have ho := or_bit hg (show d < 20 by omega)
          obtain ⟨u, eu, hu⟩ := hok M' hS' (g ||| 2 ^ d) ho.2
          have nx := fun M2 hM2 => ihm (d + 1) M2 K (by omega) (by omega) hM2
          rw [sP] at nx
          rw [s_X8_ordersFrom_L55, m_at hS'.1 (x := 13) (i := 13) rfl (by omega), sb, hS'.fm, hD, if_neg (nI_ge (by omega) (by omega)), q_has, sb, q_has, sb, hasB_nI (by omega) (by omega), hasB_nI (by omega) (by omega), ho.1, eu, sb, ← nI_succ, ← nI_succ]
          cases ea : a.testBit d with
          | false =>
            rw [if_pos (show z1 false = 0 from rfl)]
            rw [ea, if_neg (by simp), Nat.add_zero] at nx
            exact nx M' hS'
          | true =>
            rw [if_neg (show ¬ z1 true = 0 by decide)]
            cases eg : g.testBit d with
            | true =>
              rw [if_pos (show z1 true ≠ 0 by decide)]
              rw [ea, eg, if_neg (by simp), Nat.add_zero] at nx
              exact nx M' hS'
            | false =>
              rw [if_neg (show ¬ z1 false ≠ 0 by decide)]
              by_cases c3 : u = 0
              · have hin : pcB (g ||| 2 ^ d) = k + 1 := by rw [pc_ins (by omega) eg, hk]
                have hsub : ∀ i, (g ||| 2 ^ d).testBit i = true → a.testBit i = true := by
                  intro i hi
                  rw [Nat.testBit_or, Nat.testBit_two_pow] at hi
                  by_cases e : d = i
                  · rw [← e]
                    exact ea
                  · rw [decide_eq_false e, Bool.or_false] at hi
                    exact hs i hi
                have hle := pc_mono (g := g ||| 2 ^ d) (a := a) (fun i _ z => hsub i z)
                have hS2 : SmP M0 (st M' 146 k (nI d)) := hS'.wst (Or.inr rfl)
                obtain ⟨M2, e2⟩ := ih (g ||| 2 ^ d) (k + 1) (st M' 146 k (nI d)) hS2 ho.2 hsub hin (by omega)
                have f2 := fs_X8_ordersFrom r (nI a) (nI (g ||| 2 ^ d)) (nI (k + 1)) (st M' 146 k (nI d)) fr_rf _ e2
                rw [if_pos c3, wa_st (nM146 hS'.1) (by omega) (by omega), sb, e2, sb, nI_add]
                rw [ea, eg, hu.mp c3, if_pos (by decide)] at nx
                exact nx M2 (hS2.fr f2)
              · rw [if_neg c3]
                rw [ea, eg, Bool.eq_false_iff.mpr (fun q => c3 (hu.mpr q)), if_neg (by decide), Nat.add_zero] at nx
                exact nx M' hS'
      exact lp D 0 M 40 (by omega) (by omega) hS
theorem e_ordersOf {M0 M : HS} {D a : Nat} {ok : Nat → Bool} (hD : fM M0 13 = nI D) (h20 : D ≤ 20) (ha : a < 2 ^ 20) (h5 : pcB a ≤ 5) (hok : ∀ M, SmP M0 M → ∀ g, g < 2 ^ 20 → ∃ u, s_X8_stands (nI g) M = some u ∧ (u = 0 ↔ ok g = true)) (hS : SmP M0 M) : ∃ M', s_X8_ordersOf (nI a) M = some (nI (owN ok a D 8 0), M') := by
  obtain ⟨M', e⟩ := e_ordersFrom hD h20 ha h5 hok 8 0 0 (sf M 137 21 (-1)) hS (by omega) (fun d hd => by rw [Nat.zero_testBit] at hd; cases hd) (by decide) (by omega)
  unfold s_X8_ordersOf
  rw [pf_ok, sb, (show s_X8_ordersFrom 8 (nI a) 0 0 (sf M 137 21 (-1)) = _ from e), sb]
  exact ⟨M', rfl⟩
theorem stM_sm {M0 M : HS} {g : Int32} {lq : Nat → Nat} {N : Nat} (h : SmP M0 M) : stM M g lq N = stM M0 g lq N := by
  have e1 : fM M = fM M0 := h.fm
  have e2 : mbM M g = mbM M0 g := by
    funext j
    unfold mbM
    rw [h.2.2.1, h.2.2.2.2]
  have e3 : fMs M g lq = fMs M0 g lq := by
    funext j x
    unfold fMs
    rw [e1, e2]
  have e4 : rMs M g lq = rMs M0 g lq := by
    funext j x
    unfold rMs
    rw [e1, e2]
  have e5 : sM1 M g = sM1 M0 g := by
    funext j
    unfold sM1
    rw [e1, e2]
  unfold stM tlM frM reM
  rw [e1, e3, e4, e5]
theorem q_aboard {M : HS} {A : Nat → Nat} (hL : LnM M) (hM : RMt M 139 A) (hW : Wf A) : ∃ a, s_X8_aboardNow M = some (nI a) ∧ a < 2 ^ 20 ∧ ∀ d, a.testBit d = true ↔ d < A 13 ∧ A (59 + 5 * d) = 1 := by
  have hD := hW.1.2.2.2.2.1
  have hf0 : ∀ i, i < 157 → fM M i = nI (A i) := hM
  have lp : ∀ (m j a : Nat) (K : Nat), j + m = A 13 → m < K → a < 2 ^ 20 → (∀ d, a.testBit d = true ↔ d < j ∧ A (59 + 5 * d) = 1) → ∃ a', s_X8_aboardNow_L4 M K (nI a) (nI j) = some (nI a') ∧ a' < 2 ^ 20 ∧ ∀ d, a'.testBit d = true ↔ d < A 13 ∧ A (59 + 5 * d) = 1 := by
    intro m
    induction m with
    | zero =>
      intro j a K h1 h2 ha hb
      obtain ⟨K, rfl⟩ : ∃ k, K = k + 1 := ⟨K - 1, by omega⟩
      have ej : j = A 13 := by omega
      rw [ej] at hb
      refine ⟨a, ?_, ha, hb⟩
      rw [s_X8_aboardNow_L4, m_at hL (x := 13) (i := 13) rfl (by omega), sb, hf0 13 (by omega), if_pos (nI_le (by omega) (by omega))]
    | succ m ih =>
      intro j a K h1 h2 ha hb
      obtain ⟨K, rfl⟩ : ∃ k, K = k + 1 := ⟨K - 1, by omega⟩
      have ho := or_bit ha (show j < 20 by omega)
      have hs := hW.s3 (d := j) (by omega)
      rw [s_X8_aboardNow_L4, m_at hL (x := 13) (i := 13) rfl (by omega), sb, hf0 13 (by omega), if_neg (nI_ge (by omega) (by omega)), q_its hL (by omega) (x := 2) (k := 2) (by omega) rfl, sb, (show fM M (57 + 2 + 5 * j) = nI (A (59 + 5 * j)) from hf0 (59 + 5 * j) (by omega)), ho.1, ← nI_succ]
      by_cases z : A (59 + 5 * j) = 1
      · rw [z, if_neg (show ¬ nI 1 ≠ 1 by decide)]
        refine ih (j + 1) _ K (by omega) (by omega) ho.2 (fun d => ?_)
        rw [Nat.testBit_or, Nat.testBit_two_pow, Bool.or_eq_true, hb d, decide_eq_true_iff]
        constructor
        · intro q
          rcases q with q | q
          · exact ⟨by omega, q.2⟩
          · subst q
            exact ⟨by omega, z⟩
        · intro q
          by_cases e : j = d
          · exact Or.inr e
          · exact Or.inl ⟨by omega, q.2⟩
      · rw [if_pos (show nI (A (59 + 5 * j)) ≠ 1 from nI_nec 1 rfl (by omega) (by omega) z)]
        refine ih (j + 1) a K (by omega) (by omega) ha (fun d => ?_)
        rw [hb d]
        constructor
        · intro q
          exact ⟨by omega, q.2⟩
        · intro q
          refine ⟨?_, q.2⟩
          by_cases e : j = d
          · subst e
            exact absurd q.2 z
          · omega
  exact lp (A 13) 0 0 40 (by omega) (by omega) (by omega) (fun d => by
    rw [Nat.zero_testBit]
    constructor
    · intro q
      cases q
    · intro q
      omega)
theorem ld_pos {B : Nat → Nat} {d : Nat} : ∀ n, 0 < ldA B d n → ∃ c, c < n ∧ B (31 + 6 * c) = d + 1 := by
  intro n
  induction n with
  | zero =>
    intro h
    exact absurd h (Nat.not_lt_zero _)
  | succ n ih =>
    intro h
    rw [ldA] at h
    by_cases z : B (31 + 6 * n) = d + 1
    · exact ⟨n, by omega, z⟩
    · rw [if_neg z, Nat.add_zero] at h
      obtain ⟨c, hc, e⟩ := ih h
      exact ⟨c, by omega, e⟩
theorem pc_ld {B : Nat → Nat} {a : Nat} (h : ∀ d, d < 20 → a.testBit d = true → 0 < ldA B d 5) : pcB a ≤ 5 := cnt_cover (f := fun c => B (31 + 6 * c) - 1) 5 (fun d => a.testBit d) (fun d hd z => by
  obtain ⟨c, hc, e⟩ := ld_pos 5 (h d hd z)
  exact ⟨c, hc, show B (31 + 6 * c) - 1 = d by omega⟩)
