/-! counting; the model's orders answer -/
theorem cnt_congr {p q : Nat → Bool} : ∀ (m j : Nat), (∀ d, j ≤ d → d < j + m → p d = q d) → cnt p m j = cnt q m j := by
  intro m
  induction m with
  | zero =>
    intro j _
    rfl
  | succ m ih =>
    intro j h
    rw [cnt, cnt, h j (by omega) (by omega), ih (j + 1) (fun d a b => h d (by omega) (by omega))]
theorem cnt_mono {p q : Nat → Bool} : ∀ (m j : Nat), (∀ d, j ≤ d → d < j + m → p d = true → q d = true) → cnt p m j ≤ cnt q m j := by
  intro m
  induction m with
  | zero =>
    intro j _
    exact Nat.le_refl 0
  | succ m ih =>
    intro j h
    have := ih (j + 1) (fun d a b => h d (by omega) (by omega))
    rw [cnt, cnt]
    by_cases z : p j = true
    · rw [if_pos z, if_pos (h j (by omega) (by omega) z)]
      omega
    · rw [if_neg z]
      omega
theorem cnt_del {p : Nat → Bool} {x : Nat} : ∀ (m j : Nat), cnt p m j ≤ cnt (fun d => p d && decide (d ≠ x)) m j + 1 := by
  intro m
  induction m with
  | zero =>
    intro j
    exact Nat.zero_le _
  | succ m ih =>
    intro j
    rw [cnt, cnt]
    by_cases z : j = x
    · have e : cnt p m (j + 1) = cnt (fun d => p d && decide (d ≠ x)) m (j + 1) := cnt_congr m (j + 1) (fun d a b => by
        rw [decide_eq_true (show d ≠ x by omega), Bool.and_true])
      rw [e]
      split <;> omega
    · have := ih (j + 1)
      rw [decide_eq_true (show j ≠ x from z), Bool.and_true]
      omega
theorem cnt_ins {p : Nat → Bool} {x : Nat} : ∀ (m j : Nat), j ≤ x → x < j + m → p x = false → cnt (fun d => p d || decide (x = d)) m j = cnt p m j + 1 := by
  intro m
  induction m with
  | zero =>
    intro j h1 h2 _
    omega
  | succ m ih =>
    intro j h1 h2 hp
    rw [cnt, cnt]
    by_cases z : x = j
    · have e : cnt (fun d => p d || decide (x = d)) m (j + 1) = cnt p m (j + 1) := cnt_congr m (j + 1) (fun d a b => by
        rw [decide_eq_false (show ¬ x = d by omega), Bool.or_false])
      subst z
      rw [e, hp, decide_eq_true rfl]
      simp
      omega
    · rw [ih (j + 1) (by omega) (by omega) hp, decide_eq_false z, Bool.or_false]
      omega
theorem cnt_cover {f : Nat → Nat} : ∀ (N : Nat) (p : Nat → Bool), (∀ d, d < 20 → p d = true → ∃ c, c < N ∧ f c = d) → cnt p 20 0 ≤ N := by
  intro N
  induction N with
  | zero =>
    intro p h
    have e : cnt p 20 0 = cnt (fun _ => false) 20 0 := cnt_congr 20 0 (fun d _ b => by
      cases z : p d with
      | false => rfl
      | true =>
        obtain ⟨c, hc, _⟩ := h d (by omega) z
        omega)
    rw [e]
    decide
  | succ N ih =>
    intro p h
    have h1 := ih (fun d => p d && decide (d ≠ f N)) (fun d hd z => by
      rw [Bool.and_eq_true] at z
      obtain ⟨c, hc, ec⟩ := h d hd z.1
      have z2 := of_decide_eq_true z.2
      refine ⟨c, ?_, ec⟩
      rcases Nat.lt_or_ge c N with q | q
      · exact q
      · have : c = N := by omega
        subst this
        exact absurd ec.symm z2)
    have h2 := cnt_del (p := p) (x := f N) 20 0
    omega
def pcB (g : Nat) : Nat := cnt (fun d => g.testBit d) 20 0
theorem pc_ins {g x : Nat} (hx : x < 20) (h : g.testBit x = false) : pcB (g ||| 2 ^ x) = pcB g + 1 := by
  unfold pcB
  rw [← cnt_ins (x := x) 20 0 (by omega) (by omega) h]
  apply cnt_congr
  intro d _ _
  rw [Nat.testBit_or, Nat.testBit_two_pow]
theorem pc_mono {g a : Nat} (h : ∀ d, d < 20 → g.testBit d = true → a.testBit d = true) : pcB g ≤ pcB a := cnt_mono 20 0 (fun d _ b c => h d (by omega) c)
theorem hasB_nI {m j : Nat} (hm : m < 2 ^ 31) (hj : j < 32) : hasB (nI m) (nI j) = m.testBit j := by
  unfold hasB
  rw [pk_shrN hm _ j (sh_ix hj), pk_andN (Nat.lt_of_le_of_lt (Nat.div_le_self _ _) (by omega)) 1 (by decide), Nat.testBit_eq_decide_div_mod_eq]
  have h2 : m / 2 ^ j % 2 ^ 1 < 2 := Nat.mod_lt _ (by decide)
  apply decide_eq_decide.mpr
  rw [show (1 : Int32) = nI 1 from rfl, nI_eq (by omega) (by omega)]
theorem or_bit {g d : Nat} (hg : g < 2 ^ 20) (hd : d < 20) : nI g ||| ((1 : Int32) <<< ((nI d) &&& (31 : Int32))) = nI (g ||| 2 ^ d) ∧ g ||| 2 ^ d < 2 ^ 20 := by
  have h2 : 2 ^ d < 2 ^ 20 := Nat.pow_lt_pow_right (by decide) hd
  refine ⟨?_, Nat.or_lt_two_pow hg h2⟩
  rw [bit_shl (by omega), or_nI (by omega) (by omega)]
theorem k_aboard {M : HS} {N L D : Nat} (hL : LnM M) (h : RW (fM M) N L D) : ∃ a, s_X8_aboardNow M = some (nI a) ∧ a < 2 ^ 20 ∧ ∀ d, a.testBit d = true → d < D ∧ fM M (59 + 5 * d) = 1 := by
  have hD := h.2.2.1
  have lp : ∀ (m j a : Nat) (K : Nat), j + m = D → m < K → a < 2 ^ 20 → (∀ d, a.testBit d = true → d < D ∧ fM M (59 + 5 * d) = 1) → ∃ a', s_X8_aboardNow_L4 M K (nI a) (nI j) = some (nI a') ∧ a' < 2 ^ 20 ∧ ∀ d, a'.testBit d = true → d < D ∧ fM M (59 + 5 * d) = 1 := by
    intro m
    induction m with
    | zero =>
      intro j a K h1 h2 ha hb
      obtain ⟨K, rfl⟩ : ∃ k, K = k + 1 := ⟨K - 1, by omega⟩
      refine ⟨a, ?_, ha, hb⟩
      rw [s_X8_aboardNow_L4, m_at hL (x := 13) (i := 13) rfl (by omega), sb, h.2.2.2.2.2.1, if_pos (nI_le (by omega) (by omega))]
    | succ m ih =>
      intro j a K h1 h2 ha hb
      obtain ⟨K, rfl⟩ : ∃ k, K = k + 1 := ⟨K - 1, by omega⟩
      have ho := or_bit ha (show j < 20 by omega)
      rw [s_X8_aboardNow_L4, m_at hL (x := 13) (i := 13) rfl (by omega), sb, h.2.2.2.2.2.1, if_neg (nI_ge (by omega) (by omega)), q_its hL (by omega) (x := 2) (k := 2) (by omega) rfl, sb, ho.1, ← nI_succ]
      by_cases z : fM M (57 + 2 + 5 * j) = 1
      · rw [if_neg (fun y => y z)]
        refine ih (j + 1) _ K (by omega) (by omega) ho.2 (fun d hd => ?_)
        rw [Nat.testBit_or, Nat.testBit_two_pow] at hd
        by_cases e : j = d
        · subst e
          exact ⟨by omega, z⟩
        · rw [decide_eq_false e, Bool.or_false] at hd
          exact hb d hd
      · rw [if_pos z]
        exact ih (j + 1) a K (by omega) (by omega) ha hb
  exact lp D 0 0 40 (by omega) (by omega) (by omega) (fun d hd => by rw [Nat.zero_testBit] at hd; cases hd)
def FM (M : HS) : Prop := gf M 137 21 = -1 ∨ ∃ n, n ≤ 5 ∧ gf M 137 21 = nI n
theorem PQ.fr {W : Nat → Nat → Prop} {M M1 : HS} {N : Nat} (h : PQ M N) (f : Fr W M M1) (hw : ¬ W 143 99) : PQ M1 N := by
  intro c hc
  rw [f.2.2.1 143 hw]
  exact h c hc
theorem k_ordersFrom {N L D a : Nat} {f0 : Nat → Int32} (h : RW f0 N L D) (ha : a < 2 ^ 20) (h5 : pcB a ≤ 5) : ∀ (r g k : Nat) (M : HS), LnM M → fM M = f0 → PQ M N → FM M → g < 2 ^ 20 → (∀ d, g.testBit d = true → a.testBit d = true) → pcB g = k → 5 < r + k → ∃ v M', s_X8_ordersFrom r (nI a) (nI g) (nI k) M = some (v, M') ∧ Fr wQ M M' ∧ FM M' := by
  have hD := h.2.2.1
  intro r
  induction r with
  | zero =>
    intro g k M hL hf hp hF hg hs hk hr
    have := pc_mono (g := g) (a := a) (fun d _ z => hs d z)
    omega
  | succ r ih =>
    intro g k M hL hf hp hF hg hs hk hr
    have hka := pc_mono (g := g) (a := a) (fun d _ z => hs d z)
    have fin : ∀ {v M'}, s_X8_ordersFrom (r + 1) (nI a) (nI g) (nI k) M = some (v, M') → Fr wQ M M' := fun e => fs_X8_ordersFrom (r + 1) (nI a) (nI g) (nI k) M fr_rf _ e
    suffices hh : ∃ v M', s_X8_ordersFrom (r + 1) (nI a) (nI g) (nI k) M = some (v, M') ∧ FM M' by
      obtain ⟨v, M', e, z⟩ := hh
      exact ⟨v, M', e, fin e, z⟩
    rw [s_X8_ordersFrom, s_X8_ordersFrom_B]
    by_cases c : g = a
    · rw [c, if_neg (fun z => z rfl)]
      by_cases c2 : gf M 137 21 = -1
      · rw [if_neg (fun z => z c2), pf_ok, sb]
        have lp : ∀ (m i : Nat) (M' : HS) (K : Nat), i + m = k → m < K → LnM M' → FM M' → ∃ v M'', s_X8_ordersFrom_L21 (s_X8_ordersFrom r) (nI k) K (nI i) M' = some (v, M'') ∧ FM M'' := by
          intro m
          induction m with
          | zero =>
            intro i M' K h1 h2 hL' hF'
            obtain ⟨K, rfl⟩ : ∃ k, K = k + 1 := ⟨K - 1, by omega⟩
            rw [s_X8_ordersFrom_L21, if_pos (nI_le (by omega) (by omega))]
            exact ⟨_, M', rfl, hF'⟩
          | succ m ihm =>
            intro i M' K h1 h2 hL' hF'
            obtain ⟨K, rfl⟩ : ∃ k, K = k + 1 := ⟨K - 1, by omega⟩
            rw [s_X8_ordersFrom_L21, if_neg (nI_ge (by omega) (by omega)), ag_ok (nM146 hL') (by omega) (by omega), sb, wa_st (nM145 hL') (by omega) (by omega), sb, ← nI_succ]
            exact ihm (i + 1) _ K (by omega) (by omega) hL'.st hF'
        exact lp k 0 (sf M 137 21 (nI k)) 40 (by omega) (by omega) hL (Or.inr ⟨k, by omega, rfl⟩)
      · rw [if_pos c2]
        exact ⟨_, M, rfl, hF⟩
    · rw [if_pos (show nI g ≠ nI a from fun z => c ((nI_eq (by omega) (by omega)).mp z))]
      have lp : ∀ (m d : Nat) (x : Int32) (M' : HS) (K : Nat), d + m = D → m < K → LnM M' → fM M' = f0 → PQ M' N → FM M' → ∃ v M'', s_X8_ordersFrom_L55 (s_X8_ordersFrom r) (nI a) (nI g) (nI k) K x (nI d) M' = some (v, M'') ∧ FM M'' := by
        intro m
        induction m with
        | zero =>
          intro d x M' K h1 h2 hL' hf' hp' hF'
          obtain ⟨K, rfl⟩ : ∃ k, K = k + 1 := ⟨K - 1, by omega⟩
          rw [s_X8_ordersFrom_L55, m_at hL' (x := 13) (i := 13) rfl (by omega), sb, hf', h.2.2.2.2.2.1, if_pos (nI_le (by omega) (by omega))]
          exact ⟨_, M', rfl, hF'⟩
        | succ m ihm =>
          intro d x M' K h1 h2 hL' hf' hp' hF'
          obtain ⟨K, rfl⟩ : ∃ k, K = k + 1 := ⟨K - 1, by omega⟩
          have ho := or_bit hg (show d < 20 by omega)
          have nx : ∀ x, ∃ v M'', s_X8_ordersFrom_L55 (s_X8_ordersFrom r) (nI a) (nI g) (nI k) K x (nI (d + 1)) M' = some (v, M'') ∧ FM M'' := fun x => ihm (d + 1) x M' K (by omega) (by omega) hL' hf' hp' hF'
          obtain ⟨u, eu⟩ := k_stands (g := nI (g ||| 2 ^ d)) hL' (show RW (fM M') N L D by rw [hf']; exact h) hp'
          rw [s_X8_ordersFrom_L55, m_at hL' (x := 13) (i := 13) rfl (by omega), sb, hf', h.2.2.2.2.2.1, if_neg (nI_ge (by omega) (by omega)), q_has, sb, q_has, sb, hasB_nI (by omega) (by omega), hasB_nI (by omega) (by omega), ho.1, eu, sb, ← nI_succ, ← nI_succ]
          cases ea : a.testBit d with
          | false =>
            rw [if_pos (by decide)]
            exact nx x
          | true =>
            rw [if_neg (by decide)]
            cases eg : g.testBit d with
            | true =>
              rw [if_pos (by decide)]
              exact nx x
            | false =>
              rw [if_neg (by decide)]
              by_cases c3 : u = 0
              · have hin : pcB (g ||| 2 ^ d) = k + 1 := by rw [pc_ins (by omega) eg, hk]
                have hsub : ∀ i, (g ||| 2 ^ d).testBit i = true → a.testBit i = true := by
                  intro i hi
                  rw [Nat.testBit_or, Nat.testBit_two_pow] at hi
                  by_cases e : d = i
                  · rw [← e]
                    exact ea
                  · rw [decide_eq_false e, Bool.or_false] at hi
                    exact hs i hi
                have hle := pc_mono (g := g ||| 2 ^ d) (a := a) (fun i _ z => hsub i z)
                have hf2 : fM (st M' 146 k (nI d)) = f0 := by
                  rw [← hf']
                  unfold fM
                  rw [ga_st_ne (by omega)]
                have hp2 : PQ (st M' 146 k (nI d)) N := by
                  intro c hc
                  rw [gd_st (by omega)]
                  exact hp' c hc
                obtain ⟨v, M2, e2, f2, hF2⟩ := ih (g ||| 2 ^ d) (k + 1) (st M' 146 k (nI d)) hL'.st hf2 hp2 hF' ho.2 hsub hin (by omega)
                rw [if_pos c3, wa_st (nM146 hL') (by omega) (by omega), sb, e2, sb]
                exact ihm (d + 1) _ M2 K (by omega) (by omega) (LnM.fr (S := st M' 146 k (nI d)) hL'.st f2) ((fM_fr f2 (by unfold wQ; omega)).trans hf2) (hp2.fr f2 (by unfold wQ; omega)) hF2
              · rw [if_neg c3]
                exact nx x
      exact lp D 0 0 M 40 (by omega) (by omega) hL hf hp hF
theorem k_ordersOf {M : HS} {N L D a : Nat} (hL : LnM M) (h : RW (fM M) N L D) (hp : PQ M N) (ha : a < 2 ^ 20) (h5 : pcB a ≤ 5) : ∃ v M', s_X8_ordersOf (nI a) M = some (v, M') ∧ Fr wQ M M' ∧ FM M' := by
  have fin : ∀ {v M'}, s_X8_ordersOf (nI a) M = some (v, M') → Fr wQ M M' := fun e => fs_X8_ordersOf fr_rf _ e
  suffices hh : ∃ v M', s_X8_ordersOf (nI a) M = some (v, M') ∧ FM M' by
    obtain ⟨v, M', e, z⟩ := hh
    exact ⟨v, M', e, fin e, z⟩
  obtain ⟨v, M', e, f, hF⟩ := k_ordersFrom h ha h5 8 0 0 (sf M 137 21 (-1)) hL rfl hp (Or.inl rfl) (by omega) (fun d hd => by rw [Nat.zero_testBit] at hd; cases hd) (by decide) (by omega)
  unfold s_X8_ordersOf
  rw [pf_ok, sb, (show s_X8_ordersFrom 8 (nI a) 0 0 (sf M 137 21 (-1)) = _ from e), sb]
  exact ⟨v, M', rfl, hF⟩
/-- those aboard lie somewhere -/
theorem pc_cover {M : HS} {N a : Nat} (hN : N ≤ 5) (h : ∀ d, d < 20 → a.testBit d = true → ∃ c, c < N ∧ (ga M 144).getD c 0 = nI d) : pcB a ≤ 5 := by
  have := cnt_cover (f := fun c => ((ga M 144).getD c 0).toNatClampNeg) N (fun d => a.testBit d) (fun d hd z => by
    obtain ⟨c, hc, e⟩ := h d hd z
    refine ⟨c, hc, ?_⟩
    show ((ga M 144).getD c 0).toNatClampNeg = d
    rw [e, nI_clamp (by omega)])
  unfold pcB
  omega
theorem k_now_ord {M : HS} {N L D : Nat} (hL : LnM M) (h : RW (fM M) N L D) : ∃ v M1 a M2, s_X8_laysNow M = some M1 ∧ s_X8_aboardNow M1 = some (nI a) ∧ s_X8_ordersOf (nI a) M1 = some (v, M2) ∧ Fr wN M M1 ∧ Fr wQ M1 M2 ∧ FM M2 := by
  obtain ⟨M1, e1, f1, p1, c1⟩ := k_laysNow hL h
  have hf : fM M1 = fM M := fM_fr f1 (by unfold wN; omega)
  have hL1 := hL.fr f1
  have h1 : RW (fM M1) N L D := by rw [hf]; exact h
  obtain ⟨a, e2, ha, hb⟩ := k_aboard hL1 h1
  obtain ⟨v, M2, e3, f3, hF⟩ := k_ordersOf hL1 h1 p1 ha (pc_cover h.1 (fun d hd z => by
    obtain ⟨c, hc, ec⟩ := h1.2.2.2.2.2.2.2.2.2 d hd (hb d z).2
    refine ⟨c, hc, ?_⟩
    rw [c1 c hc, ← hf, ec, nI_pred]))
  exact ⟨v, M1, a, M2, e1, e2, e3, f1, f3, hF⟩
