/-! the first order: the model's -/
def fxD (q : Nat → Bool) : Nat → Option Nat
  | 0 => none
  | n + 1 => match fxD q n with
    | some e => some e
    | none => if q n = true then some n else none
theorem fx_s {q : Nat → Bool} {n e : Nat} (h : fxD q n = some e) : fxD q (n + 1) = some e := by
  rw [fxD, h]
theorem fx_t {q : Nat → Bool} {n : Nat} (h : fxD q n = none) (hq : q n = true) : fxD q (n + 1) = some n := by
  rw [fxD, h]
  exact if_pos hq
theorem fx_f {q : Nat → Bool} {n : Nat} (h : fxD q n = none) (hq : q n = false) : fxD q (n + 1) = none := by
  rw [fxD, h]
  exact if_neg (by rw [hq]; decide)
theorem fx_spec {q : Nat → Bool} : ∀ n, (∀ e, fxD q n = some e → e < n ∧ q e = true ∧ ∀ i, i < e → q i = false) ∧ (fxD q n = none → ∀ i, i < n → q i = false) := by
  intro n
  induction n with
  | zero =>
    refine ⟨fun e h => ?_, fun _ i hi => absurd hi (Nat.not_lt_zero _)⟩
    cases h
  | succ n ih =>
    cases hf : fxD q n with
    | some e0 =>
      rw [fx_s hf]
      refine ⟨fun e h => ?_, fun h => by cases h⟩
      cases h
      obtain ⟨a, b, c⟩ := ih.1 e0 hf
      exact ⟨by omega, b, c⟩
    | none =>
      have hno := ih.2 hf
      cases hq : q n with
      | true =>
        rw [fx_t hf hq]
        refine ⟨fun e h => ?_, fun h => by cases h⟩
        cases h
        exact ⟨by omega, hq, hno⟩
      | false =>
        rw [fx_f hf hq]
        refine ⟨fun e h => (by cases h), fun _ i hi => ?_⟩
        by_cases u : i = n
        · rw [u]
          exact hq
        · exact hno i (by omega)
def qst (ok : Nat → Bool) (a D r g : Nat) (d : Nat) : Bool := a.testBit d && !g.testBit d && ok (g ||| 2 ^ d) && decide (0 < owN ok a D r (g ||| 2 ^ d))
def pth (ok : Nat → Bool) (a D : Nat) : Nat → Nat → List Nat
  | 0, _ => []
  | r + 1, g => if g = a then [] else match fxD (qst ok a D r g) D with
    | some d => d :: pth ok a D r (g ||| 2 ^ d)
    | none => []
theorem pth_le {ok : Nat → Bool} {a D : Nat} : ∀ r g, (pth ok a D r g).length ≤ r := by
  intro r
  induction r with
  | zero => intro g; exact Nat.le_refl _
  | succ r ih =>
    intro g
    rw [pth]
    split
    · exact Nat.zero_le _
    · split
      · next d _ =>
        have := ih (g ||| 2 ^ d)
        rw [List.length_cons]
        omega
      · exact Nat.zero_le _
theorem pth_a {ok : Nat → Bool} {a D r : Nat} : pth ok a D (r + 1) a = [] := by
  rw [pth, if_pos rfl]
theorem pth_s {ok : Nat → Bool} {a D r g d : Nat} (h : g ≠ a) (hf : fxD (qst ok a D r g) D = some d) : pth ok a D (r + 1) g = d :: pth ok a D r (g ||| 2 ^ d) := by
  rw [pth, if_neg h, hf]
/-- some way on, or none -/
theorem ow_fx {ok : Nat → Bool} {a D r g : Nat} (h : g ≠ a) : (fxD (qst ok a D r g) D = none → owN ok a D (r + 1) g = 0) ∧ (∀ d, fxD (qst ok a D r g) D = some d → 0 < owN ok a D (r + 1) g) := by
  have hs := fx_spec (q := qst ok a D r g) D
  rw [owN, if_neg h]
  refine ⟨fun hn => ?_, fun d hd => ?_⟩
  · have hz := hs.2 hn
    rcases Nat.eq_zero_or_pos (sP (fun d => if (a.testBit d && !g.testBit d && ok (g ||| 2 ^ d)) = true then owN ok a D r (g ||| 2 ^ d) else 0) D) with q | q
    · exact q
    · exfalso
      obtain ⟨i, hi, hp⟩ := sP_pos D q
      have := hz i hi
      unfold qst at this
      by_cases z : (a.testBit i && !g.testBit i && ok (g ||| 2 ^ i)) = true
      · rw [if_pos z] at hp
        rw [z, decide_eq_true hp] at this
        cases this
      · rw [if_neg z] at hp
        omega
  · obtain ⟨h1, h2, _⟩ := hs.1 d hd
    have h3 := sP_ge (F := fun d => if (a.testBit d && !g.testBit d && ok (g ||| 2 ^ d)) = true then owN ok a D r (g ||| 2 ^ d) else 0) D h1
    unfold qst at h2
    rw [Bool.and_eq_true] at h2
    have h4 : (if (a.testBit d && !g.testBit d && ok (g ||| 2 ^ d)) = true then owN ok a D r (g ||| 2 ^ d) else 0) = owN ok a D r (g ||| 2 ^ d) := if_pos h2.1
    have h5 := of_decide_eq_true h2.2
    have h6 : (if (a.testBit d && !g.testBit d && ok (g ||| 2 ^ d)) = true then owN ok a D r (g ||| 2 ^ d) else 0) ≤ sP (fun d => if (a.testBit d && !g.testBit d && ok (g ||| 2 ^ d)) = true then owN ok a D r (g ||| 2 ^ d) else 0) D := h3
    omega
theorem pth_len {ok : Nat → Bool} {a D : Nat} (hD : D ≤ 20) (ha : pcB a ≤ 5) : ∀ r g, (∀ d, g.testBit d = true → a.testBit d = true) → 5 < r + pcB g → 0 < owN ok a D r g → (pth ok a D r g).length + pcB g = pcB a := by
  intro r
  induction r with
  | zero =>
    intro g hs hr ho
    exact absurd ho (Nat.lt_irrefl _)
  | succ r ih =>
    intro g hs hr ho
    by_cases z : g = a
    · rw [z, pth_a]
      exact Nat.zero_add _
    · cases hf : fxD (qst ok a D r g) D with
      | none =>
        rw [(ow_fx z).1 hf] at ho
        exact absurd ho (Nat.lt_irrefl _)
      | some d =>
        obtain ⟨h1, h2, _⟩ := (fx_spec D).1 d hf
        unfold qst at h2
        rw [Bool.and_eq_true, Bool.and_eq_true, Bool.and_eq_true] at h2
        have hg : g.testBit d = false := by
          have := h2.1.1.2
          cases hb : g.testBit d with
          | true =>
            rw [hb] at this
            cases this
          | false => rfl
        have hpc := pc_ins (g := g) (show d < 20 by omega) hg
        have := ih (g ||| 2 ^ d) (fun i hi => by
          rw [Nat.testBit_or, Nat.testBit_two_pow] at hi
          by_cases e : d = i
          · rw [← e]
            exact h2.1.1.1
          · rw [decide_eq_false e, Bool.or_false] at hi
            exact hs i hi) (by omega) (of_decide_eq_true h2.2)
        rw [pth_s z hf, List.length_cons]
        omega
def FrO (ok : Nat → Bool) (a D r g k : Nat) (M M1 : HS) : Prop := (∀ i, i < k → (ga M1 146).getD i 0 = (ga M 146).getD i 0) ∧ (gf M 137 21 ≠ -1 → gf M1 137 21 = gf M 137 21 ∧ ga M1 145 = ga M 145) ∧ (gf M 137 21 = -1 → (owN ok a D r g = 0 → gf M1 137 21 = -1) ∧ (0 < owN ok a D r g → gf M1 137 21 = nI (k + (pth ok a D r g).length) ∧ (∀ i, i < k → (ga M1 145).getD i 0 = (ga M 146).getD i 0) ∧ ∀ i, i < (pth ok a D r g).length → (ga M1 145).getD (k + i) 0 = nI ((pth ok a D r g).getD i 0)))
set_option maxHeartbeats 4000000 in
theorem e_ordF {M0 : HS} {D a : Nat} {ok : Nat → Bool} (hD : fM M0 13 = nI D) (h20 : D ≤ 20) (ha : a < 2 ^ 20) (h5 : pcB a ≤ 5) (hok : ∀ M, SmP M0 M → ∀ g, g < 2 ^ 20 → ∃ u, s_X8_stands (nI g) M = some u ∧ (u = 0 ↔ ok g = true)) : ∀ (r g k : Nat) (M : HS), SmP M0 M → g < 2 ^ 20 → (∀ d, g.testBit d = true → a.testBit d = true) → pcB g = k → 5 < r + k → r ≤ 8 → ∃ M', s_X8_ordersFrom r (nI a) (nI g) (nI k) M = some (nI (owN ok a D r g), M') ∧ FrO ok a D r g k M M' := by
  intro r
  induction r with
  | zero =>
    intro g k M hS hg hs hk hr _
    have := pc_mono (g := g) (a := a) (fun d _ z => hs d z)
    omega
  | succ r ih =>
    intro g k M hS hg hs hk hr hr8
    have hka := pc_mono (g := g) (a := a) (fun d _ z => hs d z)
    rw [s_X8_ordersFrom, s_X8_ordersFrom_B]
    by_cases c : g = a
    · have ho1 : owN ok a D (r + 1) g = 1 := by rw [owN, if_pos c]
      have hp1 : pth ok a D (r + 1) g = [] := by rw [c, pth_a]
      unfold FrO
      rw [ho1, hp1, c, if_neg (fun z => z rfl)]
      by_cases c2 : gf M 137 21 = -1
      · rw [if_neg (fun z => z c2), pf_ok, sb]
        have lp : ∀ (m i : Nat) (M' : HS) (K : Nat), i + m = k → m < K → LnM M' → (∀ j, j < i → (ga M' 145).getD j 0 = (ga M' 146).getD j 0) → ∃ M'', s_X8_ordersFrom_L21 (s_X8_ordersFrom r) (nI k) K (nI i) M' = some (nI 1, M'') ∧ ga M'' 146 = ga M' 146 ∧ (∀ j, j < k → (ga M'' 145).getD j 0 = (ga M' 146).getD j 0) ∧ gf M'' 137 21 = gf M' 137 21 := by
          intro m
          induction m with
          | zero =>
            intro i M' K h1 h2 hL' hc
            obtain ⟨K, rfl⟩ : ∃ k, K = k + 1 := ⟨K - 1, by omega⟩
            rw [s_X8_ordersFrom_L21, if_pos (nI_le (by omega) (by omega))]
            exact ⟨M', rfl, rfl, fun j hj => hc j (by omega), rfl⟩
          | succ m ihm =>
            intro i M' K h1 h2 hL' hc
            obtain ⟨K, rfl⟩ : ∃ k, K = k + 1 := ⟨K - 1, by omega⟩
            rw [s_X8_ordersFrom_L21, if_neg (nI_ge (by omega) (by omega)), ag_ok (nM146 hL') (by omega) (by omega), sb, wa_st (nM145 hL') (by omega) (by omega), sb, ← nI_succ]
            obtain ⟨M'', e, r1, r2, r3⟩ := ihm (i + 1) (st M' 145 i ((ga M' 146).getD i 0)) K (by omega) (by omega) hL'.st (fun j hj => by
              rw [ga_st_ne (show 146 ≠ 145 by omega)]
              by_cases u : j = i
              · subst u
                rw [gd_st_eq (nM145 hL') (by omega)]
              · rw [gd_st (by omega)]
                exact hc j (by omega))
            rw [ga_st_ne (show 146 ≠ 145 by omega)] at r1 r2
            exact ⟨M'', e, r1, r2, r3⟩
        obtain ⟨M'', e, r1, r2, r3⟩ := lp k 0 (sf M 137 21 (nI k)) 40 (by omega) (by omega) hS.1 (fun j hj => absurd hj (Nat.not_lt_zero _))
        refine ⟨M'', e, fun i hi => by rw [r1]; rfl, fun q => absurd c2 q, fun _ => ⟨fun q => by omega, fun _ => ⟨?_, r2, fun i hi => absurd hi (Nat.not_lt_zero _)⟩⟩⟩
        rw [r3, gf_sf, if_pos ⟨rfl, rfl⟩]
        rfl
      · rw [if_pos c2]
        exact ⟨M, rfl, fun _ _ => rfl, fun _ => ⟨rfl, rfl⟩, fun q => absurd q c2⟩
    · rw [if_pos (show nI g ≠ nI a from fun z => c ((nI_eq (by omega) (by omega)).mp z))]
      have ho1 : owN ok a D (r + 1) g = sP (fun d => if (a.testBit d && !g.testBit d && ok (g ||| 2 ^ d)) = true then owN ok a D r (g ||| 2 ^ d) else 0) D := by rw [owN, if_neg c]
      have lp : ∀ (m d : Nat) (M' : HS) (K : Nat), d + m = D → m < K → SmP M0 M' → (∀ i, i < k → (ga M' 146).getD i 0 = (ga M 146).getD i 0) → (gf M 137 21 ≠ -1 → gf M' 137 21 = gf M 137 21 ∧ ga M' 145 = ga M 145) → (gf M 137 21 = -1 → (fxD (qst ok a D r g) d = none → gf M' 137 21 = -1) ∧ ∀ e, fxD (qst ok a D r g) d = some e → gf M' 137 21 = nI (k + 1 + (pth ok a D r (g ||| 2 ^ e)).length) ∧ (∀ i, i < k → (ga M' 145).getD i 0 = (ga M 146).getD i 0) ∧ (ga M' 145).getD k 0 = nI e ∧ ∀ i, i < (pth ok a D r (g ||| 2 ^ e)).length → (ga M' 145).getD (k + 1 + i) 0 = nI ((pth ok a D r (g ||| 2 ^ e)).getD i 0)) → ∃ M'', s_X8_ordersFrom_L55 (s_X8_ordersFrom r) (nI a) (nI g) (nI k) K (nI (sP (fun d => if (a.testBit d && !g.testBit d && ok (g ||| 2 ^ d)) = true then owN ok a D r (g ||| 2 ^ d) else 0) d)) (nI d) M' = some (nI (sP (fun d => if (a.testBit d && !g.testBit d && ok (g ||| 2 ^ d)) = true then owN ok a D r (g ||| 2 ^ d) else 0) D), M'') ∧ FrO ok a D (r + 1) g k M M'' := by
        intro m
        induction m with
        | zero =>
          intro d M' K h1 h2 hS' r1 r2 r3
          obtain ⟨K, rfl⟩ : ∃ k, K = k + 1 := ⟨K - 1, by omega⟩
          have ed : d = D := by omega
          subst ed
          rw [s_X8_ordersFrom_L55, m_at hS'.1 (x := 13) (i := 13) rfl (by omega), sb, hS'.fm, hD, if_pos (nI_le (Nat.le_refl _) (by omega))]
          refine ⟨M', rfl, r1, r2, fun q => ?_⟩
          obtain ⟨s1, s2⟩ := r3 q
          cases hf : fxD (qst ok a d r g) d with
          | none =>
            have hz := (ow_fx c).1 hf
            exact ⟨fun _ => s1 hf, fun w => absurd hz (Nat.ne_of_gt w)⟩
          | some e =>
            have hz := (ow_fx c).2 e hf
            obtain ⟨q1, q2, q3, q4⟩ := s2 e hf
            rw [pth_s c hf, List.length_cons]
            refine ⟨fun w => absurd w (Nat.ne_of_gt hz), fun _ => ⟨?_, q2, fun i hi => ?_⟩⟩
            · exact q1.trans (congrArg nI ((Nat.add_assoc k 1 _).trans (congrArg (k + ·) (Nat.add_comm 1 _))))
            · cases i with
              | zero =>
                rw [Nat.add_zero, List.getD_cons_zero]
                exact q3
              | succ i =>
                rw [List.getD_cons_succ, (show k + (i + 1) = k + 1 + i from (congrArg (k + ·) (Nat.add_comm i 1)).trans (Nat.add_assoc k 1 i).symm)]
                exact q4 i (Nat.lt_of_succ_lt_succ hi)
        | succ m ihm =>
          intro d M' K h1 h2 hS' r1 r2 r3
          obtain ⟨K, rfl⟩ : ∃ k, K = k + 1 := ⟨K - 1, by omega⟩
          have ho := or_bit hg (show d < 20 by omega)
          obtain ⟨u, eu, hu⟩ := hok M' hS' (g ||| 2 ^ d) ho.2
          have esP : sP (fun d => if (a.testBit d && !g.testBit d && ok (g ||| 2 ^ d)) = true then owN ok a D r (g ||| 2 ^ d) else 0) (d + 1) = sP (fun d => if (a.testBit d && !g.testBit d && ok (g ||| 2 ^ d)) = true then owN ok a D r (g ||| 2 ^ d) else 0) d + (if (a.testBit d && !g.testBit d && ok (g ||| 2 ^ d)) = true then owN ok a D r (g ||| 2 ^ d) else 0) := rfl
          -- nothing more: the same state
          have stay : (a.testBit d && !g.testBit d && ok (g ||| 2 ^ d)) = false → ∃ M'', s_X8_ordersFrom_L55 (s_X8_ordersFrom r) (nI a) (nI g) (nI k) K (nI (sP (fun d => if (a.testBit d && !g.testBit d && ok (g ||| 2 ^ d)) = true then owN ok a D r (g ||| 2 ^ d) else 0) d)) (nI (d + 1)) M' = some (nI (sP (fun d => if (a.testBit d && !g.testBit d && ok (g ||| 2 ^ d)) = true then owN ok a D r (g ||| 2 ^ d) else 0) D), M'') ∧ FrO ok a D (r + 1) g k M M'' := by
            intro hf
            have hq : qst ok a D r g d = false := by
              unfold qst
              rw [hf]
              rfl
            have nx := ihm (d + 1) M' K (by omega) (by omega) hS' r1 r2 (fun q => ?_)
            · rw [esP, hf, if_neg (by decide), Nat.add_zero] at nx
              exact nx
            · obtain ⟨s1, s2⟩ := r3 q
              cases hx : fxD (qst ok a D r g) d with
              | none =>
                rw [fx_f hx hq]
                exact ⟨fun _ => s1 hx, fun e w => by cases w⟩
              | some e0 =>
                rw [fx_s hx]
                refine ⟨fun w => (by cases w), fun e w => ?_⟩
                cases w
                exact s2 e0 hx
          rw [s_X8_ordersFrom_L55, m_at hS'.1 (x := 13) (i := 13) rfl (by omega), sb, hS'.fm, hD, if_neg (nI_ge (by omega) (by omega)), q_has, sb, q_has, sb, hasB_nI (by omega) (by omega), hasB_nI (by omega) (by omega), ho.1, eu, sb, ← nI_succ, ← nI_succ]
          cases ea : a.testBit d with
          | false =>
            rw [if_pos (show z1 false = 0 from rfl)]
            exact stay (by rw [ea]; rfl)
          | true =>
            rw [if_neg (show ¬ z1 true = 0 by decide)]
            cases eg : g.testBit d with
            | true =>
              rw [if_pos (show z1 true ≠ 0 by decide)]
              exact stay (by rw [ea, eg]; rfl)
            | false =>
              rw [if_neg (show ¬ z1 false ≠ 0 by decide)]
              by_cases c3 : u = 0
              · have hin : pcB (g ||| 2 ^ d) = k + 1 := by rw [pc_ins (by omega) eg, hk]
                have hsub : ∀ i, (g ||| 2 ^ d).testBit i = true → a.testBit i = true := by
                  intro i hi
                  rw [Nat.testBit_or, Nat.testBit_two_pow] at hi
                  by_cases e : d = i
                  · rw [← e]
                    exact ea
                  · rw [decide_eq_false e, Bool.or_false] at hi
                    exact hs i hi
                have hle := pc_mono (g := g ||| 2 ^ d) (a := a) (fun i _ z => hsub i z)
                have hS2 : SmP M0 (st M' 146 k (nI d)) := hS'.wst (Or.inr rfl)
                obtain ⟨M2, e2, f1, f2', f3⟩ := ih (g ||| 2 ^ d) (k + 1) (st M' 146 k (nI d)) hS2 ho.2 hsub hin (by omega) (by omega)
                have fr2 := fs_X8_ordersFrom r (nI a) (nI (g ||| 2 ^ d)) (nI (k + 1)) (st M' 146 k (nI d)) fr_rf _ e2
                have hcond : (a.testBit d && !g.testBit d && ok (g ||| 2 ^ d)) = true := by
                  rw [ea, eg, hu.mp c3]
                  rfl
                rw [if_pos c3, wa_st (nM146 hS'.1) (by omega) (by omega), sb, e2, sb, nI_add]
                have g21 : gf (st M' 146 k (nI d)) 137 21 = gf M' 137 21 := rfl
                have g145 : ga (st M' 146 k (nI d)) 145 = ga M' 145 := ga_st_ne (by omega)
                rw [g21, g145] at f2'
                rw [g21] at f3
                have r1' : ∀ i, i < k → (ga M2 146).getD i 0 = (ga M 146).getD i 0 := fun i hi => by
                  rw [f1 i (by omega), gd_st (by omega)]
                  exact r1 i hi
                have nx := ihm (d + 1) M2 K (by omega) (by omega) (hS2.fr fr2) r1' (fun q => ?_) (fun q => ?_)
                · rw [esP, if_pos hcond] at nx
                  exact nx
                · obtain ⟨s1, s2⟩ := r2 q
                  obtain ⟨w1, w2⟩ := f2' (by rw [s1]; exact q)
                  exact ⟨w1.trans s1, w2.trans s2⟩
                · obtain ⟨s1, s2⟩ := r3 q
                  cases hx : fxD (qst ok a D r g) d with
                  | some e0 =>
                    rw [fx_s hx]
                    obtain ⟨q1, q2, q3, q4⟩ := s2 e0 hx
                    have hne : gf M' 137 21 ≠ -1 := by
                      have hl := pth_le (ok := ok) (a := a) (D := D) r (g ||| 2 ^ e0)
                      rw [q1]
                      exact nI_nm (by omega)
                    obtain ⟨w1, w2⟩ := f2' hne
                    refine ⟨fun w => (by cases w), fun e w => ?_⟩
                    cases w
                    rw [w1, w2]
                    exact ⟨q1, q2, q3, q4⟩
                  | none =>
                    obtain ⟨t1, t2⟩ := f3 (s1 hx)
                    rcases Nat.eq_zero_or_pos (owN ok a D r (g ||| 2 ^ d)) with z | z
                    · have hq : qst ok a D r g d = false := by
                        unfold qst
                        rw [z]
                        exact Bool.and_false _
                      rw [fx_f hx hq]
                      exact ⟨fun _ => t1 z, fun e w => by cases w⟩
                    · have hq : qst ok a D r g d = true := by
                        unfold qst
                        rw [hcond, decide_eq_true z]
                        rfl
                      rw [fx_t hx hq]
                      obtain ⟨v1, v2, v3⟩ := t2 z
                      refine ⟨fun w => (by cases w), fun e w => ?_⟩
                      cases w
                      refine ⟨v1, fun i hi => ?_, ?_, v3⟩
                      · rw [v2 i (by omega), gd_st (by omega)]
                        exact r1 i hi
                      · rw [v2 k (by omega), gd_st_eq (nM146 hS'.1) (by omega)]
              · rw [if_neg c3]
                exact stay (by
                  rw [ea, eg, Bool.eq_false_iff.mpr (fun q => c3 (hu.mpr q))]
                  rfl)
      obtain ⟨M'', e, hF⟩ := lp D 0 M 40 (by omega) (by omega) hS (fun _ _ => rfl) (fun _ => ⟨rfl, rfl⟩) (fun q => ⟨fun _ => q, fun e w => by cases w⟩)
      rw [ho1]
      exact ⟨M'', e, hF⟩
