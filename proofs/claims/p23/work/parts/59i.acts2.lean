/-! more acts, alike: empty, unload, asks -/
theorem lq_lt {A : Nat → Nat} (hW : Wf A) {i : Nat} (hi : i < 5) : lqA A i < 6 := by
  by_cases y : i < A 9
  · exact lq_6 hW y
  · unfold lqA
    rw [if_pos (hW.2.1 i (by omega) hi).2]
    omega
theorem cnt_last (p : Nat → Bool) : ∀ m j, cnt p (m + 1) j = cnt p m j + if p (j + m) then 1 else 0 := by
  intro m
  induction m with
  | zero =>
    intro j
    show (if p j = true then 1 else 0) + 0 = 0 + (if p j = true then 1 else 0)
    omega
  | succ m ih =>
    intro j
    rw [cnt, ih (j + 1), cnt, show j + 1 + m = j + (m + 1) by omega]
    omega
/-- a row of cargo that is taken out -/
theorem rca_out {S : HS} {A B : Nat → Nat} {c : Nat} (hL : LnD S) (h : RCa S 23 A) (hW : Wf A) (hc : c < 5) (h0 : B (30 + 6 * c) = 0) (h1 : B (31 + 6 * c) = 0) (ho : ∀ i, i ≠ 30 + 6 * c → i ≠ 31 + 6 * c → i < 57 ∨ (∃ d, i = 57 + 5 * d) → B i = A i) : RCa (toC S 23 c) 23 B := by
  intro i hi
  obtain ⟨c1, c2, c3, c4⟩ := h i hi
  rw [ho (32 + 6 * i) (by omega) (by omega) (Or.inl (by omega))]
  by_cases z : i = c
  · subst z
    rw [h0, h1, dn_0]
    unfold toC
    refine ⟨?_, ?_, ?_, ?_⟩
    · rw [gd_st (by omega), gd_st (by omega), gd_st_eq (k := 23 + 1) (nD24 hL) (by omega)]
      rfl
    · rw [gd_st_eq (k := 23 + 2) (nD25 hL.st.st) (by omega)]
    · rw [gd_st (by omega), gd_st (by omega), gd_st (by omega)]
      exact c3
    · rw [gd_st (by omega), gd_st_eq (k := 23 + 4) (nD27 hL.st) (by omega), show nI 0 = 0 from rfl, Int32.zero_mul]
  · have lq : lqA B i = lqA A i := lq_congr (ho _ (by omega) (by omega) (Or.inl (by omega))) (fun _ => ho _ (by have := hW.o20 hi; omega) (by have := hW.o20 hi; omega) (Or.inr ⟨_, rfl⟩))
    have hl := lq_lt hW hi
    rw [ho (30 + 6 * i) (by omega) (by omega) (Or.inl (by omega)), ho (31 + 6 * i) (by omega) (by omega) (Or.inl (by omega)), lq, ho (15 + lqA A i) (by omega) (by omega) (Or.inl (by omega))]
    unfold toC
    refine ⟨?_, ?_, ?_, ?_⟩
    · rw [gd_st (by omega), gd_st (by omega), gd_st (by omega)]
      exact c1
    · rw [gd_st (by omega), gd_st (by omega), gd_st (by omega)]
      exact c2
    · rw [gd_st (by omega), gd_st (by omega), gd_st (by omega)]
      exact c3
    · rw [gd_st (by omega), gd_st (by omega), gd_st (by omega)]
      exact c4
theorem e_empty {S M : HS} {t : Nat} {A : Nat → Nat} {a : Int32} (h : FH S M t A) : ∃ v S1 M1 A1, s_X7_empty a S = some (v, S1) ∧ s_X8_empty a M = some (v, M1) ∧ FH S1 M1 t A1 := by
  have h := h.thrown (x := 0)
  have h0 := h
  obtain ⟨hF, hH⟩ := h
  have hF0 := hF
  have ew := e_waiting hF
  obtain ⟨hL, hLM, hr, ht, hT, ⟨h13, h14, hC, _⟩, hM, hW⟩ := hF
  have h5 := hW.1.1
  have h20 := hW.1.2.2.2.2.1
  have hf0 : ∀ i, i < 157 → fM (sf M 137 0 0) i = nI (A i) := hM
  unfold s_X7_empty s_X8_empty
  rw [pf_ok, sb, tl_ok hr ht]
  simp only [sb]
  rcases q_hasC (v := a) hT.1 h5 with ⟨c, hc, rfl, g⟩ | ⟨g, n1⟩
  · rcases m_isHold (v := nI c) hLM (hf0 9 (by omega)) h5 with ⟨c', _, _, g'⟩ | ⟨_, n1⟩
    · obtain ⟨k1, k2, k3, k4⟩ := hC c (by omega)
      obtain ⟨w31, w32, w33, w34⟩ := hW.2.2.1 c hc
      rw [g, sb, i1e, ag_ok (nD24 hL) (by omega) (by omega), sb, show (ga S 24).getD c 0 = _ from k1, g', sb, i1e, q_holds hLM (by omega) (x := 4) (k := 4) (by omega) rfl, sb, sb, (show fM (sf M 137 0 0) (27 + 4 + 6 * c) = nI (A (31 + 6 * c)) from hf0 (31 + 6 * c) (by omega))]
      by_cases z : A (31 + 6 * c) = 0
      · have z0 : A (30 + 6 * c) = 0 := w32.mpr z
        rw [z, z0, if_neg (show ¬ nI 0 ≠ 0 by decide), if_neg (show ¬ nI 0 ≠ 0 by decide)]
        exact ⟨-1, S, sf M 137 0 0, A, rfl, rfl, h0⟩
      · obtain ⟨d, ed⟩ : ∃ p, A (31 + 6 * c) = p + 1 := ⟨A (31 + 6 * c) - 1, by omega⟩
        have hd : d < A 13 := by omega
        have z0 : A (30 + 6 * c) ≠ 0 := fun y => z (w32.mp y)
        have hs3 := hW.s3 hd
        have hx : 0 < A (30 + 6 * c) := by omega
        -- the row behind
        have oA : ∀ i, i ≠ 30 + 6 * c → i ≠ 31 + 6 * c → i ≠ 59 + 5 * d → upA (upA (upA A (30 + 6 * c) 0) (31 + 6 * c) 0) (59 + 5 * d) 0 i = A i := fun i a b e => (upA_ne e).trans ((upA_ne b).trans (upA_ne a))
        have o30 : upA (upA (upA A (30 + 6 * c) 0) (31 + 6 * c) 0) (59 + 5 * d) 0 (30 + 6 * c) = 0 := (upA_ne (by omega)).trans ((upA_ne (by omega)).trans upA_eq)
        have o31 : upA (upA (upA A (30 + 6 * c) 0) (31 + 6 * c) 0) (59 + 5 * d) 0 (31 + 6 * c) = 0 := (upA_ne (by omega)).trans upA_eq
        have o59 : upA (upA (upA A (30 + 6 * c) 0) (31 + 6 * c) 0) (59 + 5 * d) 0 (59 + 5 * d) = 0 := upA_eq
        have ldB := ld_in5 (A := upA (upA (upA A (30 + 6 * c) 0) (31 + 6 * c) 0) (59 + 5 * d) 0) (B := A) (c := c) (d := d) (x := A (30 + 6 * c)) (by omega) o31 ed rfl (fun i hi y => ⟨(oA _ (by omega) (by omega) (by omega)).symm, (oA _ (by omega) (by omega) (by omega)).symm⟩)
        have hld : 0 < ldA A d 5 := by
          have := ldB d
          rw [if_pos rfl] at this
          omega
        have hs1 : A (59 + 5 * d) ≤ 1 := by
          rcases hW.2.2.2.1 d hd with q | q | q
          · omega
          · omega
          · omega
        -- what both do behind the checks
        have J : (A (59 + 5 * d) = 1 → cnt (fun d => decide (A (59 + 5 * d) = 0)) (A 13) 0 < 4) → ∃ v S1 M1 A1, s_X7_empty_J66 (nI c) S = some (v, S1) ∧ s_X8_empty_J55 (nI c) (nI d) (sf M 137 0 0) = some (v, M1) ∧ FH S1 M1 t A1 := by
          intro hcn
          obtain ⟨S1, M1, k1, k2, ⟨fL, fLM, fr, ft, fT, ⟨s1, s2, s3, s4⟩, fM', fW⟩, kH, g1, g2, g3, _, _, fZ⟩ := h_keep hF0 hH
          have eg : s_X8_goes (nI c) M1 = some (st (st M1 139 (30 + 6 * c) 0) 139 (31 + 6 * c) 0) := by
            unfold s_X8_goes
            rw [w9_at fLM (x := (27 : Int32) + (6 : Int32) * nI c + (3 : Int32)) (i := 30 + 6 * c) (ix_k (k := 3)) (by omega), sb, w9_at fLM.st (x := (27 : Int32) + (6 : Int32) * nI c + (4 : Int32)) (i := 31 + 6 * c) (ix_k (k := 4)) (by omega), sb]
          unfold s_X7_empty_J66 s_X8_empty_J55
          rw [k1, sb, k2, sb, ag_ok (nD24 fL) (by omega) (by omega), sb, show (ga S1 24).getD c 0 = _ from (s3 c (by omega)).1, w_takeOut fL mC23 (by omega), sb, q_holds fLM (by omega) (x := 3) (k := 3) (by omega) rfl, sb, (show fM M1 (27 + 3 + 6 * c) = nI (A (30 + 6 * c)) from fM' (30 + 6 * c) (by omega)), eg, sb, w9_at fLM.st.st (x := (57 : Int32) + (5 : Int32) * nI d + (2 : Int32)) (i := 59 + 5 * d) (id_k (k := 2)) (by omega), sb]
          have hM2 : RMt (st (st (st M1 139 (30 + 6 * c) 0) 139 (31 + 6 * c) 0) 139 (59 + 5 * d) 0) 139 (upA (upA (upA A (30 + 6 * c) 0) (31 + 6 * c) 0) (59 + 5 * d) 0) := ((fM'.st (v := 0) (nM139 fLM) (by omega)).st (v := 0) (nM139 fLM.st) (by omega)).st (v := 0) (nM139 fLM.st.st) (by omega)
          generalize upA (upA (upA A (30 + 6 * c) 0) (31 + 6 * c) 0) (59 + 5 * d) 0 = B at *
          have b13 := oA 13 (by omega) (by omega) (by omega)
          have b9 := oA 9 (by omega) (by omega) (by omega)
          have tl := tl2 (A := A) (B := B) b13 h20 (fun i _ _ y z => oA i (y c (by omega)).1 (y c (by omega)).2.1 (z d (by omega)).1)
          have lqo : ∀ i, i < 5 → i ≠ c → lqA B i = lqA A i := fun i hi y => lq_congr (oA _ (by omega) (by omega) (by omega)) (fun _ => oA _ (by have := hW.o20 hi; omega) (by have := hW.o20 hi; omega) (by omega))
          have gat : ∀ k, k ≠ 24 → k ≠ 25 → k ≠ 27 → ga (toC S1 23 c) k = ga S1 k := by
            intro k h1 h2 h3
            unfold toC
            rw [ga_st_ne (by omega), ga_st_ne (by omega), ga_st_ne (by omega)]
          refine ⟨nI (A (30 + 6 * c)), _, _, B, rfl, rfl, ⟨fL.toC, fLM.st.st.st, fr, ft, ?_, ⟨?_, ?_, ?_, fun i hi => ?_⟩, hM2, ?_⟩, ?_⟩
          · exact (fT.tl tl.1 hW.1.1 hW.1.2.1).keep (fun j => rfl) rfl (fun i hi => gat _ (by have := isT_num ft; omega) (by have := isT_num ft; omega) (by have := isT_num ft; omega))
          · rw [b13]
            exact s1
          · rw [oA 14 (by omega) (by omega) (by omega)]
            exact s2
          · exact rca_out fL s3 hW (by omega) o30 o31 (fun i h1 h2 h3 => oA i h1 h2 (by
              rcases h3 with q | ⟨e, q⟩
              · omega
              · omega))
          · rw [b13] at hi
            obtain ⟨f1, f2⟩ := s4 i hi
            rw [gat (22 + 6) (by omega) (by omega) (by omega), gat (22 + 7) (by omega) (by omega) (by omega), oA (60 + 5 * i) (by omega) (by omega) (by omega)]
            refine ⟨?_, f2⟩
            rw [f1]
            by_cases y : i = d
            · subst y
              rw [o59]
              rcases (show A (59 + 5 * i) = 0 ∨ A (59 + 5 * i) = 1 by omega) with q | q
              · rw [q]
              · rw [q]
                rfl
            · rw [oA (59 + 5 * i) (by omega) (by omega) (by omega)]
          · obtain ⟨w1, w2, w3, w4, w5, w6⟩ := hW
            refine ⟨w1.tl tl.1 (fun i hi => ?_), fun i hi h2 => ?_, fun i hi => ?_, fun i hi => ?_, fun i hi => ?_, ?_⟩
            · rw [oA _ (by omega) (by omega) (by omega)]
              exact w1.2.2.2.2.2.2.2.2.2.1 i hi
            · rw [b9] at hi
              rw [oA _ (by omega) (by omega) (by omega), oA _ (by omega) (by omega) (by omega)]
              exact w2 i hi h2
            · rw [b9] at hi
              by_cases y : i = c
              · subst y
                rw [o30, o31]
                exact ⟨by omega, Iff.rfl, by omega, fun q => absurd rfl q⟩
              · rw [oA (30 + 6 * i) (by omega) (by omega) (by omega), oA (31 + 6 * i) (by omega) (by omega) (by omega), oA (32 + 6 * i) (by omega) (by omega) (by omega), lqo i (by omega) y, b13]
                exact w3 i hi
            · rw [b13] at hi
              have hl := ldB i
              rw [oA (58 + 5 * i) (by omega) (by omega) (by omega)]
              by_cases y : i = d
              · subst y
                rw [if_pos rfl] at hl
                rw [o59]
                refine Or.inl ⟨rfl, ?_⟩
                rcases w4 i hi with q | q | q
                · omega
                · omega
                · omega
              · rw [if_neg y, Nat.add_zero] at hl
                rw [← hl, oA (59 + 5 * i) (by omega) (by omega) (by omega)]
                exact w4 i hi
            · rw [b13] at hi
              rw [oA (60 + 5 * i) (by omega) (by omega) (by omega), oA (61 + 5 * i) (by omega) (by omega) (by omega), oA (58 + 5 * i) (by omega) (by omega) (by omega)]
              by_cases y : i = d
              · subst y
                rw [o59]
                exact ⟨fun q => by omega, fun _ => (w5 i hi).2 (by omega)⟩
              · rw [oA (59 + 5 * i) (by omega) (by omega) (by omega)]
                exact w5 i hi
            · rw [b13]
              by_cases y : A (59 + 5 * d) = 0
              · rw [cnt_congr (q := fun d => decide (A (59 + 5 * d) = 0)) (A 13) 0 (fun i _ _ => by
                  by_cases u : i = d
                  · subst u
                    rw [o59, y]
                  · rw [oA (59 + 5 * i) (by omega) (by omega) (by omega)])]
                exact w6
              · have hins := cnt_ins (p := fun d => decide (A (59 + 5 * d) = 0)) (x := d) (A 13) 0 (by omega) (by omega) (decide_eq_false y)
                rw [cnt_congr (q := fun i => decide (A (59 + 5 * i) = 0) || decide (d = i)) (A 13) 0 (fun i _ _ => by
                  by_cases u : i = d
                  · subst u
                    rw [o59, decide_eq_true (show (0 : Nat) = 0 from rfl), decide_eq_true (show i = i from rfl), Bool.or_true]
                  · rw [oA (59 + 5 * i) (by omega) (by omega) (by omega), decide_eq_false (show ¬ d = i from fun q => u q.symm), Bool.or_false])]
                have hlt := hcn (by omega)
                rw [hins]
                omega
          · exact kH.of tl.2 (fun _ _ _ _ => rfl) (fun k _ _ => gat k (by omega) (by omega) (by omega)) rfl (by rw [ga_st_ne (by omega), ga_st_ne (by omega), ga_st_ne (by omega)])
        have hwi : cnt (fun d => decide (A (59 + 5 * d) = 0)) (A 13) 0 ≤ 4 := hW.2.2.2.2.2
        rw [ed, if_pos (show nI (A (30 + 6 * c)) ≠ 0 from nI_ne0 (n := A (30 + 6 * c)) (by omega) (by omega)), if_pos (show nI (d + 1) ≠ 0 from nI_ne0 (n := d + 1) (by omega) (by omega)), ag_ok (nD25 hL) (by omega) (by omega), sb, show (ga S 25).getD c 0 = _ from k2, ed, dn_s, nI_pred, q_its hLM (by omega) (x := 2) (k := 2) (by omega) rfl, sb, (show fM (sf M 137 0 0) (57 + 2 + 5 * d) = nI (A (59 + 5 * d)) from hf0 (59 + 5 * d) (by omega)), q_having hLM hM hW, sb, ew, sb]
        rcases m_isSo (v := nI d) (w := 1) hF0 (by omega) with ⟨d', hd', e', es, e1, e2⟩ | ⟨e1, q⟩
        · have : d = d' := (nI_eq (by omega) (by omega)).mp e'
          subst this
          rw [(show s_X7_isSo (nI d) 1 S = some 1 from e1), sb, i1e, es, if_neg (show ¬ nI 1 ≠ 1 by decide)]
          by_cases y : cnt (fun d => decide (A (59 + 5 * d) = 0)) (A 13) 0 = 4
          · refine ⟨-2, S, sf M 137 0 0, A, ?_, ?_, h0⟩
            · rw [y, if_neg (by decide)]
            · rw [y, if_neg (by decide)]
          · rw [if_pos (show nI (cnt (fun d => decide (A (59 + 5 * d) = 0)) (A 13) 0) < 4 from nI_lt (b := 4) (by omega) (by omega)), if_pos (show nI (cnt (fun d => decide (A (59 + 5 * d) = 0)) (A 13) 0) ≠ 4 from nI_nec 4 rfl (by omega) (by omega) y)]
            exact J (fun _ => by omega)
        · have hne : A (59 + 5 * d) ≠ 1 := by
            rcases q with ⟨d', hd', e', en, _⟩ | e2
            · have : d = d' := (nI_eq (by omega) (by omega)).mp e'
              subst this
              exact en
            · exfalso
              rcases m_isDrp (v := nI d) hLM (hf0 13 (by omega)) h20 with ⟨_, _, _, g⟩ | ⟨_, n1⟩
              · rw [g] at e2
                exact absurd e2 (by decide)
              · exact n1 d hd rfl
          rw [(show s_X7_isSo (nI d) 1 S = some 0 from e1), sb, i0e, if_pos (show nI (A (59 + 5 * d)) ≠ 1 from nI_nec 1 rfl (by omega) (by omega) hne)]
          exact J (fun y => absurd y hne)
    · exact absurd rfl (n1 c hc)
  · rcases m_isHold (v := a) hLM (hf0 9 (by omega)) h5 with ⟨c', hc', e', g'⟩ | ⟨g', _⟩
    · exact absurd e' (n1 c' hc')
    · refine ⟨-1, S, sf M 137 0 0, A, ?_, ?_, h0⟩
      · rw [g, sb, if_pos rfl]
      · rw [g', sb, if_pos rfl]
