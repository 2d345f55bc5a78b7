/-! the desk's table of orders, as it stands behind the count -/
theorem e_count2 {S M : HS} {t b a o : Nat} {A B : Nat → Nat} (h : OrdH S M t b A B a) (ho : isO o) : ∃ S1, s_X2_count o t b (nI (A 13)) S = some (nI (owN (okM M (lqA B) (A 9)) a (A 13) 8 0), S1) ∧ LnD S1 ∧ Tab S1 S o b (A 13) (fun d => a.testBit d) ∧ (∀ m', 0 < m' → m' < 2 ^ rnk (fun d => a.testBit d) (A 13) → ∀ r g, RelM a (A 13) m' g → 5 < r + pcB g → (ga S1 (o + 3)).getD m' 0 = nI (if okM M (lqA B) (A 9) g = true then owN (okM M (lqA B) (A 9)) a (A 13) r g else 0)) ∧ (ga S1 (o + 3)).getD 0 0 = nI (owN (okM M (lqA B) (A 9)) a (A 13) 8 0) := by
  have h20 := h.2.2.2.2.2.2.1.2.2.2.2.1
  have hab := h.2.2.2.2.2.2.2.2.2.2.2.2.1
  have hpc := h.2.2.2.2.2.2.2.2.2.2.2.2.2
  have ho2 : o = 117 ∨ o = 122 := ho
  have hbo : b + 4 < o ∨ o + 3 < b := (by decide : ∀ b ∈ [23, 33, 41, 49, 57, 65, 73, 81, 89, 97, 105, 112, 126], ∀ o ∈ [117, 122], b + 4 < o ∨ o + 3 < b) b h.2.2.2.1 o (by rcases ho with rfl | rfl <;> decide)
  obtain ⟨S1, e1, hT1⟩ := e_collect h ho
  have f1 : Fr (wO o) S S1 := fs_X2_collect fr_rf _ e1
  have hO1 := h.fr ho f1
  have hb1 : ga S1 (b + 2) = ga S (b + 2) := f1.2.2.1 _ (by unfold wO; omega)
  have hn5 : rnk (fun d => a.testBit d) (A 13) ≤ 5 := rnk5 h20 hpc
  unfold s_X2_count
  rw [e1, sb, hT1.1]
  generalize hnA : rnk (fun d => a.testBit d) (A 13) = n at *
  have hp : 2 ^ n ≤ 2 ^ 5 := Nat.pow_le_pow_right (by decide) hn5
  have hp0 : 0 < 2 ^ n := Nat.two_pow_pos n
  rw [bit_shl (by omega), show (1 : Int32) = nI 1 from rfl, pk_sub (by omega)]
  -- what a set's number of ways is
  have key : ∀ (r m g : Nat) (S' : HS), OrdH S' M t b A B a → ga S' (b + 2) = ga S (b + 2) → Tab S' S o b (A 13) (fun d => a.testBit d) → m < 2 ^ n → RelM a (A 13) m g → 5 < r + 1 + pcB g → (∀ m', m < m' → m' < 2 ^ n → ∀ r g, RelM a (A 13) m' g → 5 < r + pcB g → (ga S' (o + 3)).getD m' 0 = nI (if okM M (lqA B) (A 9) g = true then owN (okM M (lqA B) (A 9)) a (A 13) r g else 0)) → (m = 2 ^ n - 1 → owN (okM M (lqA B) (A 9)) a (A 13) (r + 1) g = 1) ∧ (m ≠ 2 ^ n - 1 → waD o m S' n = nI (owN (okM M (lqA B) (A 9)) a (A 13) (r + 1) g)) := by
    intro r m g S' hO hb hT hm hR hr hI
    have hall : m = 2 ^ n - 1 ↔ g = a := by
      rw [all_iff hm]
      constructor
      · intro q
        apply Nat.eq_of_testBit_eq
        intro i
        by_cases z : a.testBit i = true
        · have hi := ((hab i).mp z).1
          have := rnk_lt (p := fun d => a.testBit d) hi z
          rw [z, ← hR.2.2 i hi z]
          exact q _ (by omega)
        · rw [Bool.eq_false_iff.mpr z]
          exact Bool.eq_false_iff.mpr (fun y => z (hR.2.1 i y))
      · intro q i hi
        rw [← hnA] at hi
        obtain ⟨d, hd, hpd, ed⟩ := rnk_onto (A 13) hi
        rw [← ed, hR.2.2 d hd hpd, q]
        exact hpd
    refine ⟨fun q => ?_, fun q => ?_⟩
    · rw [owN, if_pos (hall.mp q)]
    · have hga : ¬ g = a := fun y => q (hall.mpr y)
      rw [owN, if_neg hga]
      have lp : ∀ d, d ≤ A 13 → up (fun j x => if m.testBit j then x else x + (ga S' (o + 3)).getD (m ||| 2 ^ j) 0) (rnk (fun d => a.testBit d) d) 0 0 = nI (sP (fun d => if (a.testBit d && !g.testBit d && okM M (lqA B) (A 9) (g ||| 2 ^ d)) = true then owN (okM M (lqA B) (A 9)) a (A 13) r (g ||| 2 ^ d) else 0) d) := by
        intro d
        induction d with
        | zero => intro _; rfl
        | succ d ih =>
          intro hd
          have ihd := ih (by omega)
          rw [rnk, sP]
          by_cases z : a.testBit d = true
          · have hlt := rnk_lt (p := fun d => a.testBit d) (show d < A 13 by omega) z
            rw [if_pos z, up_last, ihd, Nat.zero_add, hR.2.2 d (by omega) z, z]
            cases eg : g.testBit d with
            | true =>
              rw [if_pos rfl, if_neg (by simp), Nat.add_zero]
            | false =>
              have hmf : m.testBit (rnk (fun d => a.testBit d) d) = false := (hR.2.2 d (by omega) z).trans eg
              have ho' := or_bit hR.1 (show d < 20 by omega)
              have hR2 : RelM a (A 13) (m ||| 2 ^ rnk (fun d => a.testBit d) d) (g ||| 2 ^ d) := by
                refine ⟨ho'.2, fun i hi => ?_, fun i hi hpi => ?_⟩
                · rw [Nat.testBit_or, Nat.testBit_two_pow] at hi
                  by_cases e : d = i
                  · rw [← e]
                    exact z
                  · rw [decide_eq_false e, Bool.or_false] at hi
                    exact hR.2.1 i hi
                · rw [Nat.testBit_or, Nat.testBit_or, Nat.testBit_two_pow, Nat.testBit_two_pow, hR.2.2 i hi hpi]
                  congr 1
                  apply decide_eq_decide.mpr
                  constructor
                  · intro y
                    by_cases e : d = i
                    · exact e
                    · exact absurd y (rnk_ne (p := fun d => a.testBit d) e z hpi)
                  · intro y
                    rw [y]
              have hmm : m < m ||| 2 ^ rnk (fun d => a.testBit d) d := by
                have h1 : m ≤ m ||| 2 ^ rnk (fun d => a.testBit d) d := Nat.left_le_or
                rcases Nat.lt_or_ge m (m ||| 2 ^ rnk (fun d => a.testBit d) d) with y | y
                · exact y
                · exfalso
                  have e : m ||| 2 ^ rnk (fun d => a.testBit d) d = m := by omega
                  have e2 := congrArg (fun x => x.testBit (rnk (fun d => a.testBit d) d)) e
                  rw [Nat.testBit_or, Nat.testBit_two_pow_self, Bool.or_true, hmf] at e2
                  cases e2
              have hm2 : m ||| 2 ^ rnk (fun d => a.testBit d) d < 2 ^ n := Nat.or_lt_two_pow hm (Nat.pow_lt_pow_right (by decide) (by omega))
              have hw := hI _ hmm hm2 r (g ||| 2 ^ d) hR2 (by rw [pc_ins (by omega) eg]; omega)
              rw [if_neg (by decide), hw]
              cases ek : okM M (lqA B) (A 9) (g ||| 2 ^ d) with
              | true =>
                rw [if_pos rfl, if_pos (by decide), nI_add]
              | false =>
                rw [if_neg (by decide), if_neg (by decide), nI_add]
          · have e0 : (if (a.testBit d && !g.testBit d && okM M (lqA B) (A 9) (g ||| 2 ^ d)) = true then owN (okM M (lqA B) (A 9)) a (A 13) r (g ||| 2 ^ d) else 0) = 0 := if_neg (by rw [Bool.eq_false_iff.mpr z]; simp)
            rw [if_neg z, e0]
            exact ihd
      have hl := lp (A 13) (Nat.le_refl _)
      rw [hnA] at hl
      exact hl
  have L : ∀ (m : Nat) (S' : HS) (K : Nat), OrdH S' M t b A B a → ga S' (b + 2) = ga S (b + 2) → Tab S' S o b (A 13) (fun d => a.testBit d) → m < 2 ^ n → m + 1 < K → (∀ m', m < m' → m' < 2 ^ n → ∀ r g, RelM a (A 13) m' g → 5 < r + pcB g → (ga S' (o + 3)).getD m' 0 = nI (if okM M (lqA B) (A 9) g = true then owN (okM M (lqA B) (A 9)) a (A 13) r g else 0)) → ∃ S1, s_X2_count_L21 o t b (nI (2 ^ n - 1)) K (nI m) S' = some (nI (owN (okM M (lqA B) (A 9)) a (A 13) 8 0), S1) ∧ LnD S1 ∧ Tab S1 S o b (A 13) (fun d => a.testBit d) ∧ (∀ m', 0 < m' → m' < 2 ^ n → ∀ r g, RelM a (A 13) m' g → 5 < r + pcB g → (ga S1 (o + 3)).getD m' 0 = nI (if okM M (lqA B) (A 9) g = true then owN (okM M (lqA B) (A 9)) a (A 13) r g else 0)) ∧ (ga S1 (o + 3)).getD 0 0 = nI (owN (okM M (lqA B) (A 9)) a (A 13) 8 0) := by
    intro m
    induction m with
    | zero =>
      intro S' K hO hb hT hm hK hI
      obtain ⟨K, rfl⟩ : ∃ k, K = k + 2 := ⟨K - 2, by omega⟩
      have hL' := hO.1
      have hR0 : RelM a (A 13) 0 0 := ⟨by omega, fun d hd => (by rw [Nat.zero_testBit] at hd; cases hd), fun d _ _ => by rw [Nat.zero_testBit, Nat.zero_testBit]⟩
      have hk := key 7 0 0 S' hO hb hT hm hR0 (by omega) hI
      have fin : ∀ x, x = nI (owN (okM M (lqA B) (A 9)) a (A 13) 8 0) → ∃ S1, s_X2_count_L21 o t b (nI (2 ^ n - 1)) (K + 1) (nI 0 + -1) (st S' (o + 3) 0 x) = some (x, S1) ∧ LnD S1 ∧ Tab S1 S o b (A 13) (fun d => a.testBit d) ∧ (∀ m', 0 < m' → m' < 2 ^ n → ∀ r g, RelM a (A 13) m' g → 5 < r + pcB g → (ga S1 (o + 3)).getD m' 0 = nI (if okM M (lqA B) (A 9) g = true then owN (okM M (lqA B) (A 9)) a (A 13) r g else 0)) ∧ (ga S1 (o + 3)).getD 0 0 = nI (owN (okM M (lqA B) (A 9)) a (A 13) 8 0) := by
        intro x hx
        refine ⟨st S' (o + 3) 0 x, ?_, hL'.st, ⟨hT.1, fun d hd hpd => ?_⟩, fun m' h1 h2 r g hR hr => ?_, ?_⟩
        rotate_left
        · rw [gd_st (by omega), gd_st (by omega)]
          exact hT.2 d hd hpd
        · rw [gd_st (by omega)]
          exact hI m' h1 h2 r g hR hr
        · rw [gd_st_eq (nO3 hL' ho) (by omega)]
          exact hx
        rw [s_X2_count_L21, if_pos (by decide), (show ag (ga (st S' (o + 3) 0 x) (o + 3)) 0 = _ from ag_ok (k := 0) (nO3 hL'.st ho) (by omega) (by omega)), sb, gd_st_eq (nO3 hL' ho) (by omega)]
      rw [s_X2_count_L21, if_neg (nI_pos (by omega)), if_pos (show nI 0 = (0 : Int32) from rfl), s_X2_count_J45, s_X2_count_J50, if_pos (by decide)]
      by_cases z : 0 = 2 ^ n - 1
      · rw [if_neg (show ¬ nI 0 ≠ nI (2 ^ n - 1) from fun q => q (by rw [← z])), wa_st (nO3 hL' ho) (by omega) (by omega), sb, hk.1 z]
        have hw1 : owN (okM M (lqA B) (A 9)) a (A 13) 8 0 = 1 := hk.1 z
        have f1 := fin (nI 1) (by rw [hw1])
        rw [hw1] at f1
        exact f1
      · rw [if_pos (show nI 0 ≠ nI (2 ^ n - 1) from fun q => z ((nI_eq (by omega) (by omega)).mp q)), q_ways hL' ho (hnA ▸ hT.1) hn5 (by omega), sb, wa_st (nO3 hL' ho) (by omega) (by omega), sb, hk.2 z]
        exact fin _ rfl
    | succ m ih =>
      intro S' K hO hb hT hm hK hI
      obtain ⟨K, rfl⟩ : ∃ k, K = k + 1 := ⟨K - 1, by omega⟩
      have hL' := hO.1
      have hT0 : gf S' o 0 = nI n := hnA ▸ hT.1
      have fin : ∀ x, (∀ r g, RelM a (A 13) (m + 1) g → 5 < r + pcB g → x = nI (if okM M (lqA B) (A 9) g = true then owN (okM M (lqA B) (A 9)) a (A 13) r g else 0)) → ∃ S1, s_X2_count_L21 o t b (nI (2 ^ n - 1)) K (nI (m + 1) + -1) (st S' (o + 3) (m + 1) x) = some (nI (owN (okM M (lqA B) (A 9)) a (A 13) 8 0), S1) ∧ LnD S1 ∧ Tab S1 S o b (A 13) (fun d => a.testBit d) ∧ (∀ m', 0 < m' → m' < 2 ^ n → ∀ r g, RelM a (A 13) m' g → 5 < r + pcB g → (ga S1 (o + 3)).getD m' 0 = nI (if okM M (lqA B) (A 9) g = true then owN (okM M (lqA B) (A 9)) a (A 13) r g else 0)) ∧ (ga S1 (o + 3)).getD 0 0 = nI (owN (okM M (lqA B) (A 9)) a (A 13) 8 0) := by
        intro x hx
        rw [pk_m1]
        refine ih _ _ (hO.fr ho (fr_st fr_rf (by unfold wO; omega))) ?_ ⟨hT.1, fun d hd hpd => ?_⟩ (by omega) (by omega) (fun m' h1 h2 r g hR hr => ?_)
        · rw [ga_st_ne (by omega)]
          exact hb
        · rw [gd_st (by omega), gd_st (by omega)]
          exact hT.2 d hd hpd
        · by_cases z : m' = m + 1
          · subst z
            rw [gd_st_eq (nO3 hL' ho) (by omega)]
            exact hx r g hR hr
          · rw [gd_st (by omega)]
            exact hI m' (by omega) h2 r g hR hr
      have ep := q_partsAll (m := m + 1) hL' ho hT0 hn5 (by omega)
      have es := q_standing (v := paD o (m + 1) S' n) hL' hO.2.2.2.1 hO.2.2.1 hO.2.2.2.2.1.1 hO.2.2.2.2.2.2.1.1
      have hu : ∀ g, RelM a (A 13) (m + 1) g → (stD b t (paD o (m + 1) S' n) S' (A 9) = 0 ↔ okM M (lqA B) (A 9) g = true) := by
        intro g hR
        obtain ⟨u, _, e2, hu⟩ := rel_st hO ho hb hT (by omega) hR
        rw [hnA, es] at e2
        rw [Option.some.inj e2]
        exact hu
      have hk : ∀ r g, RelM a (A 13) (m + 1) g → 5 < r + pcB g → ∃ r', r = r' + 1 ∧ (m + 1 = 2 ^ n - 1 → owN (okM M (lqA B) (A 9)) a (A 13) (r' + 1) g = 1) ∧ (m + 1 ≠ 2 ^ n - 1 → waD o (m + 1) S' n = nI (owN (okM M (lqA B) (A 9)) a (A 13) (r' + 1) g)) := by
        intro r g hR hr
        have hle := pc_mono (g := g) (a := a) (fun d _ z => hR.2.1 d z)
        obtain ⟨r', er⟩ : ∃ r', r = r' + 1 := ⟨r - 1, by omega⟩
        exact ⟨r', er, key r' (m + 1) g S' hO hb hT hm hR (by omega) hI⟩
      rw [s_X2_count_L21, if_neg (nI_pos (by omega)), if_neg (nI_ne0 (by omega) (by omega)), ep, sb, es, sb]
      by_cases c : stD b t (paD o (m + 1) S' n) S' (A 9) = 0
      · rw [if_neg (fun z => z c), s_X2_count_J45, s_X2_count_J50, i1n]
        by_cases z : m + 1 = 2 ^ n - 1
        · rw [if_neg (show ¬ nI (m + 1) ≠ nI (2 ^ n - 1) from fun q => q (by rw [z])), wa_st (nO3 hL' ho) (by omega) (by omega), sb]
          refine fin _ (fun r g hR hr => ?_)
          obtain ⟨r', er, k1, _⟩ := hk r g hR hr
          rw [if_pos ((hu g hR).mp c), er, k1 z]
          rfl
        · rw [if_pos (show nI (m + 1) ≠ nI (2 ^ n - 1) from fun q => z ((nI_eq (by omega) (by omega)).mp q)), q_ways hL' ho hT0 hn5 (by omega), sb, wa_st (nO3 hL' ho) (by omega) (by omega), sb]
          refine fin _ (fun r g hR hr => ?_)
          obtain ⟨r', er, _, k2⟩ := hk r g hR hr
          rw [if_pos ((hu g hR).mp c), er, k2 z]
      · rw [if_pos c, s_X2_count_J50, i0n, wa_st (nO3 hL' ho) (by omega) (by omega), sb]
        refine fin _ (fun r g hR hr => ?_)
        rw [if_neg (fun q => c ((hu g hR).mpr q))]
        rfl
  exact L (2 ^ n - 1) S1 40 hO1 hb1 hT1 (by omega) (by omega) (fun m' h1 h2 => by omega)
