/-! ordered, alike -/
theorem ls_some {o m i : Nat} {S : HS} : ∀ q j, j ≤ i → i < j + q → m.testBit i = false → ¬ (ga S (o + 3)).getD (m ||| 2 ^ i) 0 ≤ 0 → (∀ x, j ≤ x → x < i → m.testBit x = true ∨ (ga S (o + 3)).getD (m ||| 2 ^ x) 0 ≤ 0) → lsD o m S q j = some i := by
  intro q
  induction q with
  | zero =>
    intro j h1 h2
    omega
  | succ q ih =>
    intro j h1 h2 h3 h4 h5
    rw [lsD]
    by_cases z : j = i
    · subst z
      rw [if_neg (by rw [h3]; decide), if_neg h4]
    · have nx := ih (j + 1) (by omega) (by omega) h3 h4 (fun x hx hi => h5 x (by omega) hi)
      by_cases y : m.testBit j = true
      · rw [if_pos y]
        exact nx
      · rw [if_neg y]
        rcases h5 j (Nat.le_refl _) (by omega) with w | w
        · exact absurd w y
        · rw [if_pos w]
          exact nx
theorem rel_up {a D m g d : Nat} (hD : D ≤ 20) (hd : d < D) (z : a.testBit d = true) (hR : RelM a D m g) : RelM a D (m ||| 2 ^ rnk (fun d => a.testBit d) d) (g ||| 2 ^ d) := by
  refine ⟨(or_bit hR.1 (show d < 20 by omega)).2, fun i hi => ?_, fun i hi hpi => ?_⟩
  · rw [Nat.testBit_or, Nat.testBit_two_pow] at hi
    by_cases e : d = i
    · rw [← e]
      exact z
    · rw [decide_eq_false e, Bool.or_false] at hi
      exact hR.2.1 i hi
  · rw [Nat.testBit_or, Nat.testBit_or, Nat.testBit_two_pow, Nat.testBit_two_pow, hR.2.2 i hi hpi]
    congr 1
    apply decide_eq_decide.mpr
    constructor
    · intro y
      by_cases e : d = i
      · exact e
      · exact absurd y (rnk_ne (p := fun d => a.testBit d) e z hpi)
    · intro y
      rw [y]
theorem pc_rnk {a D : Nat} (hD : D ≤ 20) (h : ∀ d, a.testBit d = true → d < D) : pcB a = rnk (fun d => a.testBit d) D := by
  have e := rnk_stay (p := fun d => a.testBit d) (n := D) (fun i hi => Bool.eq_false_iff.mpr (fun q => by have := h i q; omega)) (20 - D)
  rw [show D + (20 - D) = 20 by omega, rnk_cnt _ 20] at e
  unfold pcB
  exact e
theorem e_first {S S1 : HS} {a o b D c : Nat} {ok : Nat → Bool} (ho : isO o) (hD : D ≤ 20) (ha : pcB a ≤ 5) (hab : ∀ d, a.testBit d = true → d < D) (hL : LnD S1) (hT : Tab S1 S o b D (fun d => a.testBit d)) (hw : ∀ m', 0 < m' → m' < 2 ^ rnk (fun d => a.testBit d) D → ∀ r g, RelM a D m' g → 5 < r + pcB g → (ga S1 (o + 3)).getD m' 0 = nI (if ok g = true then owN ok a D r g else 0)) (hw0 : (ga S1 (o + 3)).getD 0 0 = nI (owN ok a D 8 0)) (hpos : 0 < owN ok a D 8 0) (hc : c < rnk (fun d => a.testBit d) D) : s_X2_dropOfFirst o (nI c) S1 = some (nI ((pth ok a D 8 0).getD c 0)) := by
  have hpc := pc_rnk hD hab
  have hn5 : rnk (fun d => a.testBit d) D ≤ 5 := by omega
  have hp : 2 ^ rnk (fun d => a.testBit d) D ≤ 2 ^ 5 := Nat.pow_le_pow_right (by decide) hn5
  have hb31 : ∀ r g, r ≤ 8 → owN ok a D r g < 2 ^ 31 := fun r g hr => Nat.lt_of_le_of_lt (owN_le hn5 r g) (Nat.lt_of_le_of_lt (Nat.pow_le_pow_right (by decide) hr) (by decide))
  have lp : ∀ (s k : Nat) (x : Int32) (m g r K : Nat), k + s = c + 1 → s < K → RelM a D m g → m < 2 ^ rnk (fun d => a.testBit d) D → pcB g = k → r + k = 8 → 0 < owN ok a D r g → (∀ j, (pth ok a D r g).getD j 0 = (pth ok a D 8 0).getD (k + j) 0) → (k = 0 ∨ ∃ i, i < 5 ∧ x = nI i ∧ (ga S1 (o + 1)).getD i 0 = nI ((pth ok a D 8 0).getD (k - 1) 0)) → s_X2_dropOfFirst_L30 o (nI c) S1 K (nI m) x (nI k) = some (nI ((pth ok a D 8 0).getD c 0)) := by
    intro s
    induction s with
    | zero =>
      intro k x m g r K h1 h2 hR hm hk hr hpo hpt hx
      obtain ⟨K, rfl⟩ : ∃ k, K = k + 1 := ⟨K - 1, by omega⟩
      rw [s_X2_dropOfFirst_L30, if_pos (nI_lt (by omega) (by omega))]
      rcases hx with q | ⟨i, hi, ex, ei⟩
      · omega
      · rw [ex, ag_ok (nO1 hL ho) hi (by omega), sb, ei, show k - 1 = c by omega]
    | succ s ih =>
      intro k x m g r K h1 h2 hR hm hk hr hpo hpt hx
      obtain ⟨K, rfl⟩ : ∃ k, K = k + 1 := ⟨K - 1, by omega⟩
      obtain ⟨r, rfl⟩ : ∃ k, r = k + 1 := ⟨r - 1, by omega⟩
      have hga : g ≠ a := fun q => by
        rw [q] at hk
        omega
      cases hf : fxD (qst ok a D r g) D with
      | none =>
        rw [(ow_fx hga).1 hf] at hpo
        exact absurd hpo (Nat.lt_irrefl _)
      | some d =>
        obtain ⟨hd, hq, hlow⟩ := (fx_spec D).1 d hf
        have hq0 := hq
        unfold qst at hq
        rw [Bool.and_eq_true, Bool.and_eq_true, Bool.and_eq_true] at hq
        have za : a.testBit d = true := hq.1.1.1
        have zg : g.testBit d = false := by
          have := hq.1.1.2
          cases hb : g.testBit d with
          | true =>
            rw [hb] at this
            cases this
          | false => rfl
        have zo : ok (g ||| 2 ^ d) = true := hq.1.2
        have zp : 0 < owN ok a D r (g ||| 2 ^ d) := of_decide_eq_true hq.2
        have hR2 := rel_up hD hd za hR
        have hlt := rnk_lt (p := fun d => a.testBit d) hd za
        have hmf : m.testBit (rnk (fun d => a.testBit d) d) = false := (hR.2.2 d hd za).trans zg
        have hpc2 : pcB (g ||| 2 ^ d) = k + 1 := by rw [pc_ins (by omega) zg, hk]
        have hm2 : ∀ y, y < rnk (fun d => a.testBit d) D → m ||| 2 ^ y < 2 ^ rnk (fun d => a.testBit d) D := fun y hy => Nat.or_lt_two_pow hm (Nat.pow_lt_pow_right (by decide) hy)
        have hm0 : ∀ y, 0 < m ||| 2 ^ y := fun y => Nat.lt_of_lt_of_le (Nat.two_pow_pos y) Nat.right_le_or
        have hls : lsD o m S1 (rnk (fun d => a.testBit d) D) 0 = some (rnk (fun d => a.testBit d) d) := by
          refine ls_some _ 0 (Nat.zero_le _) (by omega) hmf ?_ (fun y _ hy => ?_)
          · rw [hw _ (hm0 _) (hm2 _ hlt) r (g ||| 2 ^ d) hR2 (by omega), if_pos zo]
            exact nI_ge (a := 0) zp (hb31 _ _ (by omega))
          · obtain ⟨e, he, hpe, ee⟩ := rnk_onto (p := fun d => a.testBit d) D (show y < rnk (fun d => a.testBit d) D by omega)
            have hed : e < d := by
              rcases Nat.lt_or_ge e d with w | w
              · exact w
              · exfalso
                have h3 := rnk_mono (p := fun d => a.testBit d) (m := d) (e - d)
                rw [show d + (e - d) = e by omega] at h3
                omega
            have hqe := hlow e hed
            cases hge : g.testBit e with
            | true =>
              left
              rw [← ee, hR.2.2 e he hpe]
              exact hge
            | false =>
              right
              rw [← ee, hw _ (hm0 _) (hm2 _ (rnk_lt (p := fun d => a.testBit d) he hpe)) r (g ||| 2 ^ e) (rel_up hD he hpe hR) (by rw [pc_ins (by omega) hge]; omega)]
              cases hoe : ok (g ||| 2 ^ e) with
              | false =>
                rw [if_neg (by decide)]
                decide
              | true =>
                rw [if_pos rfl]
                unfold qst at hqe
                rw [show a.testBit e = true from hpe, hge, hoe] at hqe
                have hz : ¬ 0 < owN ok a D r (g ||| 2 ^ e) := fun w => by
                  rw [decide_eq_true w] at hqe
                  cases hqe
                rw [show owN ok a D r (g ||| 2 ^ e) = 0 by omega]
                decide
        have hpth := pth_s hga hf
        rw [s_X2_dropOfFirst_L30, if_neg (nI_nlt (by omega) (by omega)), q_least hL ho hT.1 hn5 (by omega), sb, hls, show oI1 (some (rnk (fun d => a.testBit d) d)) = nI (rnk (fun d => a.testBit d) d) from rfl, if_pos (show nI (rnk (fun d => a.testBit d) d) ≠ (-1 : Int32) from nI_nm (by omega)), or_ix (by omega) (by omega), ← nI_succ]
        refine ih (k + 1) _ _ (g ||| 2 ^ d) r K (by omega) (by omega) hR2 (hm2 _ hlt) hpc2 (by omega) zp (fun j => ?_) (Or.inr ⟨rnk (fun d => a.testBit d) d, by omega, rfl, ?_⟩)
        · have := hpt (j + 1)
          rw [hpth, List.getD_cons_succ] at this
          rw [this, show k + (j + 1) = k + 1 + j by omega]
        · rw [(hT.2 d hd za).1, show k + 1 - 1 = k by omega]
          have := hpt 0
          rw [hpth, List.getD_cons_zero, Nat.add_zero] at this
          rw [← this]
  unfold s_X2_dropOfFirst
  rw [if_neg (nI_pos (by omega)), hT.1, if_neg (nI_ge hc (by omega)), (show ag (ga S1 (o + 3)) 0 = _ from ag_ok (k := 0) (nO3 hL ho) (by omega) (by omega)), sb, hw0, if_pos (nI_ne0 (n := owN ok a D 8 0) hpos (hb31 8 0 (Nat.le_refl _)))]
  exact lp (c + 1) 0 (-1) 0 0 8 40 (by omega) (by omega) ⟨by omega, fun d hd => (by rw [Nat.zero_testBit] at hd; cases hd), fun d _ _ => by rw [Nat.zero_testBit, Nat.zero_testBit]⟩ (Nat.two_pow_pos _) (by decide) rfl hpos (fun j => by rw [Nat.zero_add]) (Or.inl rfl)
theorem e_ordered {S M : HS} {t : Nat} {A : Nat → Nat} {x : Int32} (h : FS S M t A) : ∃ v S1 M1, s_X7_ordered x S = some (v, S1) ∧ s_X8_ordered x M = some (v, M1) := by
  have h := h.thrown (x := 0)
  obtain ⟨M', e, f, hLM', hM', hPL, hRP, h144⟩ := fs_paper h
  have hW := h.2.2.2.2.2.2.2
  have h5 := hW.1.1
  have h20 := hW.1.2.2.2.2.1
  obtain ⟨a, ea, ha, hab⟩ := q_aboard hLM' hM' hW
  obtain ⟨M2, e2, f2, lc⟩ := x_laysNow (M := sf M 137 0 0) h.2.1 h.2.2.2.2.2.2.1 rfl h5 (fun c hc => hW.o20 (by omega))
  have eM : M2 = M' := by
    rw [e2] at e
    exact Option.some.inj e
  subst eM
  have hiff : ∀ d, a.testBit d = true ↔ d < A 13 ∧ ldA A d 5 = A (58 + 5 * d) := by
    intro d
    rw [hab d]
    constructor
    · rintro ⟨q1, q2⟩
      refine ⟨q1, ?_⟩
      rcases hW.2.2.2.1 d q1 with w | w | w
      · omega
      · exact w.2
      · omega
    · rintro ⟨q1, q2⟩
      refine ⟨q1, ?_⟩
      have hq1 := (hW.1.2.2.2.2.2.2.2.2.2.2.2 d q1).2.1
      rcases hW.2.2.2.1 d q1 with w | w | w
      · omega
      · exact w.1
      · omega
  have hO : OrdH S M2 t 23 A A a := by
    refine ⟨h.1, hLM', h.2.2.2.1, mC23, h.2.2.2.2.1, hM', hW.1, h.2.2.2.2.2.1.2.2.1, fun c hc => ⟨lc c hc, lq_6 hW hc⟩, fun c hc => ⟨hW.o20 hc, ?_⟩, fun _ _ _ => rfl, ha, hiff, pc_ld (B := A) (fun d hd q => ?_)⟩
    · by_cases y : c < A 9
      · have := (hW.2.2.1 c y).1
        omega
      · rw [(hW.2.1 c (by omega) hc).1]
        omega
    · obtain ⟨q1, q2⟩ := (hiff d).mp q
      have hq1 := (hW.1.2.2.2.2.2.2.2.2.2.2.2 d q1).2.1
      omega
  have hpc : pcB a ≤ 5 := hO.2.2.2.2.2.2.2.2.2.2.2.2.2
  have hbD : ∀ d, a.testBit d = true → d < A 13 := fun d q => ((hab d).mp q).1
  have hpr := pc_rnk h20 hbD
  obtain ⟨S1, e3, hL1, hT1, hw1, hw0⟩ := e_count2 hO mO117
  obtain ⟨M4, e4, hFr⟩ := e_ordF (M0 := M2) (D := A 13) (a := a) (ok := okM M2 (lqA A) (A 9)) (show fM M2 13 = nI (A 13) from hM' 13 (by omega)) h20 ha hpc (fun M' hM'' g hgl => ⟨stM M2 (nI g) (lqA A) (A 9), by
    have hPL' : PL M' (A 9) (lqA A) := fun c hc => by
      rw [hM''.2.2.2.1]
      exact hPL c hc
    rw [q_stands hM''.1 (by rw [hM''.fm]; exact hM' 9 (by omega)) h5 hPL', stM_sm hM''], by
    unfold okM
    exact decide_eq_true_iff.symm⟩) 8 0 0 (sf M2 137 21 (-1)) ⟨hLM', rfl, rfl, rfl, rfl⟩ (by omega) (fun d hd => (by rw [Nat.zero_testBit] at hd; cases hd)) (by decide) (by omega) (Nat.le_refl _)
  have eOf : s_X8_ordersOf (nI a) M2 = some (nI (owN (okM M2 (lqA A) (A 9)) a (A 13) 8 0), M4) := by
    unfold s_X8_ordersOf
    rw [pf_ok, sb, (show s_X8_ordersFrom 8 (nI a) 0 0 (sf M2 137 21 (-1)) = _ from e4), sb]
  have hL4 : LnM M4 := hLM'.fr (fs_X8_ordersOf fr_rf _ eOf)
  have hb31 : owN (okM M2 (lqA A) (A 9)) a (A 13) 8 0 < 2 ^ 31 := Nat.lt_of_le_of_lt (owN_le (rnk5 h20 hpc) 8 0) (by decide)
  obtain ⟨_, _, hF3⟩ := hFr
  obtain ⟨z0, z1⟩ := hF3 (by rw [gf_sf, if_pos ⟨rfl, rfl⟩])
  unfold s_X7_ordered s_X8_ordered
  rw [pf_ok, sb, tl_ok h.2.2.1 h.2.2.2.1, sb, (show gf S 22 1 = nI (A 13) from h.2.2.2.2.2.1.1), e3, sb, e2, sb, ea, sb, eOf, sb]
  dsimp only
  rcases Nat.eq_zero_or_pos (owN (okM M2 (lqA A) (A 9)) a (A 13) 8 0) with w | w
  · have g21 := z0 w
    rw [w] at hw0
    refine ⟨-1, S1, M4, ?_, ?_⟩
    · unfold s_X2_dropOfFirst
      rw [(show ag (ga S1 (117 + 3)) 0 = _ from ag_ok (k := 0) (nO3 hL1 mO117) (by omega) (by omega)), sb, hw0, if_neg (show ¬ nI 0 ≠ 0 by decide)]
      have e : (if x < 0 then some (-1 : Int32) else if gf S1 117 0 ≤ x then some (-1) else some (-1)) = some (-1) := by
        split
        · rfl
        · split <;> rfl
      rw [e, sb]
    · rw [g21, q_isInM, sb]
      have hn : ¬ (¬ x < 0 ∧ ¬ (-1 : Int32) - 1 < x) := fun q => by
        apply q.2
        obtain ⟨j, hj, rfl⟩ := nI_of q.1
        refine Int32.lt_of_lt_of_le ?_ (nI_pos' hj)
        decide
      rw [if_neg hn, if_pos rfl]
  · obtain ⟨g21, _, g145⟩ := z1 w
    have hlen := pth_len h20 hpc 8 0 (fun d hd => (by rw [Nat.zero_testBit] at hd; cases hd)) (by decide) w
    rw [show pcB 0 = 0 from by decide, Nat.add_zero, hpr] at hlen
    rw [Nat.zero_add, hlen] at g21
    have hn5 := rnk5 h20 hpc
    rw [g21]
    rcases in_iff (v := x) (N := rnk (fun d => a.testBit d) (A 13)) (by omega) with ⟨c, hc, rfl, ei⟩ | ⟨ei, hno⟩
    · have ef := e_first (c := c) mO117 h20 hpc hbD hL1 hT1 hw1 hw0 w hc
      have g := g145 c (by omega)
      rw [Nat.zero_add] at g
      refine ⟨nI ((pth (okM M2 (lqA A) (A 9)) a (A 13) 8 0).getD c 0), S1, M4, ?_, ?_⟩
      · rw [ef, sb]
      · rw [ei, sb, i1e, ag_ok (nM145 hL4) (by omega) (by omega), sb, g]
    · refine ⟨-1, S1, M4, ?_, ?_⟩
      · unfold s_X2_dropOfFirst
        rw [hT1.1]
        by_cases y : x < 0
        · rw [if_pos y, sb]
        · obtain ⟨j, hj, rfl⟩ := nI_of y
          rw [if_neg y, if_pos (show nI (rnk (fun d => a.testBit d) (A 13)) ≤ nI j from nI_le (by
            rcases Nat.lt_or_ge j (rnk (fun d => a.testBit d) (A 13)) with q | q
            · exact absurd rfl (hno j q)
            · exact q) hj), sb]
      · rw [ei, sb, i0e]
