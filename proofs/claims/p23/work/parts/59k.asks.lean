/-! asks, alike -/
theorem ld_big {A : Nat → Nat} (hW : Wf A) {d : Nat} (hd : A 13 ≤ d) : ∀ n, n ≤ 5 → ldA A d n = 0 := by
  intro n
  induction n with
  | zero => intro _; rfl
  | succ n ih =>
    intro hn
    have ho : A (31 + 6 * n) ≤ A 13 := by
      by_cases z : n < A 9
      · exact (hW.2.2.1 n z).2.2.1
      · rw [(hW.2.1 n (by omega) (by omega)).2]
        omega
    rw [ldA, ih (by omega), if_neg (show ¬ A (31 + 6 * n) = d + 1 by omega)]
theorem e_asks {S M : HS} {t : Nat} {A : Nat → Nat} {a b : Int32} (h : FH S M t A) : ∃ v S1 M1 A1, s_X7_asks a b S = some (v, S1) ∧ s_X8_asks a b M = some (v, M1) ∧ FH S1 M1 t A1 := by
  have h := h.thrown (x := 0)
  have h0 := h
  obtain ⟨hF, hH⟩ := h
  have hF0 := hF
  have ew := e_waiting hF
  obtain ⟨hL, hLM, hr, ht, hT, ⟨h13, h14, hC, _⟩, hM, hW⟩ := hF
  have h5 := hW.1.1
  have h6 := hW.1.2.1
  have h20 := hW.1.2.2.2.2.1
  have htn := isT_num ht
  have hf0 : ∀ i, i < 157 → fM (sf M 137 0 0) i = nI (A i) := hM
  have hwi : cnt (fun d => decide (A (59 + 5 * d) = 0)) (A 13) 0 ≤ 4 := hW.2.2.2.2.2
  unfold s_X7_asks s_X8_asks
  rw [pf_ok, sb, tl_ok hr ht]
  simp only [sb]
  rcases q_hasL (v := a) hT.2.1 h6 with ⟨l, hl, rfl, gl'⟩ | ⟨gl', nl⟩
  · rcases m_isLiq (v := nI l) hLM (hf0 10 (by omega)) h6 with ⟨l', _, _, gm⟩ | ⟨_, nl⟩
    · rw [gl', sb, i1e, gm, sb, i1e, q_isInM, sb]
      by_cases x1 : b < 1
      · refine ⟨-1, S, sf M 137 0 0, A, ?_, ?_, h0⟩
        · rw [if_pos x1]
        · rw [if_neg (show ¬ (¬ b < 1 ∧ ¬ (4995 : Int32) < b) from fun q => q.1 x1), i0n]
      · have x0 : ¬ b < 0 := fun q => x1 (Int32.lt_of_lt_of_le q (by decide))
        obtain ⟨q, hq, rfl⟩ := nI_of x0
        have hq1 : 1 ≤ q := by
          rcases Nat.eq_zero_or_pos q with z | z
          · exfalso
            rw [z] at x1
            exact x1 (by decide)
          · exact z
        by_cases x2 : q ≤ 4995
        · rw [if_neg x1, if_pos (show nI q ≤ 4995 from nI_le (b := 4995) x2 (by omega)), if_pos (show ¬ nI q < 1 ∧ ¬ (4995 : Int32) < nI q from ⟨x1, nI_nlt (a := 4995) (b := q) x2 (by omega)⟩), i1n, ew, sb, q_having hLM hM hW, sb, m_at hLM (x := 13) (i := 13) rfl (by omega), sb, hf0 13 (by omega), h13]
          by_cases y4 : cnt (fun d => decide (A (59 + 5 * d) = 0)) (A 13) 0 = 4
          · refine ⟨-2, S, sf M 137 0 0, A, ?_, ?_, h0⟩
            · rw [y4, if_neg (show ¬ nI 4 < 4 by decide)]
            · rw [y4, if_neg (show ¬ nI 4 ≠ 4 by decide)]
          · rw [if_pos (show nI (cnt (fun d => decide (A (59 + 5 * d) = 0)) (A 13) 0) < 4 from nI_lt (b := 4) (by omega) (by omega)), if_pos (show nI (cnt (fun d => decide (A (59 + 5 * d) = 0)) (A 13) 0) ≠ 4 from nI_nec 4 rfl (by omega) (by omega) y4)]
            by_cases y20 : A 13 = 20
            · refine ⟨-3, S, sf M 137 0 0, A, ?_, ?_, h0⟩
              · rw [y20, if_neg (show ¬ nI 20 < 20 by decide)]
              · rw [y20, if_neg (show ¬ nI 20 ≠ 20 by decide)]
            · rw [if_pos (show nI (A 13) < 20 from nI_lt (b := 20) (by omega) (by omega)), if_pos (show nI (A 13) ≠ 20 from nI_nec 20 rfl (by omega) (by omega) y20)]
              obtain ⟨S1, M1, k1, k2, ⟨fL, fLM, fr, ft, fT, ⟨s1, s2, s3, s4⟩, fM', fW⟩, kH, g1, g2, g3, _, _, fZ⟩ := h_keep hF0 hH
              have hD : A 13 < 20 := by omega
              have hL2 : LnD (st S1 (t + 7) (A 13) (nI l)) := fL.st
              have hL3 : LnD (st (st S1 (t + 7) (A 13) (nI l)) (t + 8) (A 13) (nI q)) := fL.st.st
              have ix0 : (57 : Int32) + (5 : Int32) * nI (A 13) + (0 : Int32) = nI (57 + 5 * A 13) := id_k (k := 0)
              have eM : ∀ x1 x2 : Int32, x1 = nI (A 13) → fM M1 13 = nI (A 13) := fun _ _ _ => fM' 13 (by omega)
              have e13 : fM (st (st (st (st (st M1 139 (57 + 5 * A 13) (nI l)) 139 (58 + 5 * A 13) (nI q)) 139 (59 + 5 * A 13) 0) 139 (60 + 5 * A 13) 0) 139 (61 + 5 * A 13) 0) 13 = nI (A 13) := by
                rw [fM_st fLM.st.st.st.st (by omega), if_neg (by omega), fM_st fLM.st.st.st (by omega), if_neg (by omega), fM_st fLM.st.st (by omega), if_neg (by omega), fM_st fLM.st (by omega), if_neg (by omega), fM_st fLM (by omega), if_neg (by omega)]
                exact fM' 13 (by omega)
              rw [k1, sb, k2, sb, s1, tl_ok fr ft, sb, wa_st (nT7 fL ft) hD (by omega), sb, gr_st, tl_ok fr ft, sb, wa_st (nT8 hL2 ft) hD (by omega), sb, w_addDrop (D := A 13) hL3 s1 (by omega), sb, if_neg y20, m_at fLM (x := 13) (i := 13) rfl (by omega), sb, (show fM M1 13 = nI (A 13) from fM' 13 (by omega)), ix0, w9_at fLM rfl (by omega), sb, w9_at fLM.st (x := (57 : Int32) + (5 : Int32) * nI (A 13) + (1 : Int32)) (i := 58 + 5 * A 13) (id_k (k := 1)) (by omega), sb, w9_at fLM.st.st (x := (57 : Int32) + (5 : Int32) * nI (A 13) + (2 : Int32)) (i := 59 + 5 * A 13) (id_k (k := 2)) (by omega), sb, w9_at fLM.st.st.st (x := (57 : Int32) + (5 : Int32) * nI (A 13) + (3 : Int32)) (i := 60 + 5 * A 13) (id_k (k := 3)) (by omega), sb, w9_at fLM.st.st.st.st (x := (57 : Int32) + (5 : Int32) * nI (A 13) + (4 : Int32)) (i := 61 + 5 * A 13) (id_k (k := 4)) (by omega), sb, m_at fLM.st.st.st.st.st (x := 13) (i := 13) rfl (by omega), sb, e13, ← nI_succ, w9_at fLM.st.st.st.st.st (x := 13) (i := 13) rfl (by omega), sb]
              have hM3 : RMt (st (st (st (st (st (st M1 139 (57 + 5 * A 13) (nI l)) 139 (58 + 5 * A 13) (nI q)) 139 (59 + 5 * A 13) 0) 139 (60 + 5 * A 13) 0) 139 (61 + 5 * A 13) 0) 139 13 (nI (A 13 + 1))) 139 (upA (upA (upA (upA (upA (upA A (57 + 5 * A 13) l) (58 + 5 * A 13) q) (59 + 5 * A 13) 0) (60 + 5 * A 13) 0) (61 + 5 * A 13) 0) 13 (A 13 + 1)) := (((((fM'.st (nM139 fLM) (by omega)).st (nM139 fLM.st) (by omega)).st (v := 0) (nM139 fLM.st.st) (by omega)).st (v := 0) (nM139 fLM.st.st.st) (by omega)).st (v := 0) (nM139 fLM.st.st.st.st) (by omega)).st (nM139 fLM.st.st.st.st.st) (by omega)
              have oA : ∀ i, i ≠ 13 → i < 57 + 5 * A 13 → (upA (upA (upA (upA (upA (upA A (57 + 5 * A 13) l) (58 + 5 * A 13) q) (59 + 5 * A 13) 0) (60 + 5 * A 13) 0) (61 + 5 * A 13) 0) 13 (A 13 + 1)) i = A i := fun i h1 h2 => by
                rw [upA_ne h1, upA_ne (by omega), upA_ne (by omega), upA_ne (by omega), upA_ne (by omega), upA_ne (by omega)]
              have o13 : (upA (upA (upA (upA (upA (upA A (57 + 5 * A 13) l) (58 + 5 * A 13) q) (59 + 5 * A 13) 0) (60 + 5 * A 13) 0) (61 + 5 * A 13) 0) 13 (A 13 + 1)) 13 = A 13 + 1 := upA_eq
              have o57 : (upA (upA (upA (upA (upA (upA A (57 + 5 * A 13) l) (58 + 5 * A 13) q) (59 + 5 * A 13) 0) (60 + 5 * A 13) 0) (61 + 5 * A 13) 0) 13 (A 13 + 1)) (57 + 5 * A 13) = l := by
                rw [upA_ne (by omega), upA_ne (by omega), upA_ne (by omega), upA_ne (by omega), upA_ne (by omega), upA_eq]
              have o58 : (upA (upA (upA (upA (upA (upA A (57 + 5 * A 13) l) (58 + 5 * A 13) q) (59 + 5 * A 13) 0) (60 + 5 * A 13) 0) (61 + 5 * A 13) 0) 13 (A 13 + 1)) (58 + 5 * A 13) = q := by
                rw [upA_ne (by omega), upA_ne (by omega), upA_ne (by omega), upA_ne (by omega), upA_eq]
              have o59 : (upA (upA (upA (upA (upA (upA A (57 + 5 * A 13) l) (58 + 5 * A 13) q) (59 + 5 * A 13) 0) (60 + 5 * A 13) 0) (61 + 5 * A 13) 0) 13 (A 13 + 1)) (59 + 5 * A 13) = 0 := by
                rw [upA_ne (by omega), upA_ne (by omega), upA_ne (by omega), upA_eq]
              have o60 : (upA (upA (upA (upA (upA (upA A (57 + 5 * A 13) l) (58 + 5 * A 13) q) (59 + 5 * A 13) 0) (60 + 5 * A 13) 0) (61 + 5 * A 13) 0) 13 (A 13 + 1)) (60 + 5 * A 13) = 0 := by
                rw [upA_ne (by omega), upA_ne (by omega), upA_eq]
              have o61 : (upA (upA (upA (upA (upA (upA A (57 + 5 * A 13) l) (58 + 5 * A 13) q) (59 + 5 * A 13) 0) (60 + 5 * A 13) 0) (61 + 5 * A 13) 0) 13 (A 13 + 1)) (61 + 5 * A 13) = 0 := by
                rw [upA_ne (by omega), upA_eq]
              generalize (upA (upA (upA (upA (upA (upA A (57 + 5 * A 13) l) (58 + 5 * A 13) q) (59 + 5 * A 13) 0) (60 + 5 * A 13) 0) (61 + 5 * A 13) 0) 13 (A 13 + 1)) = B at *
              have tlB : Tl B A := ⟨fun i hi => (oA i (by omega) (by omega)).symm, fun i a1 a2 => (oA i (by omega) (by omega)).symm, fun c hc => ⟨(oA _ (by omega) (by omega)).symm, (oA _ (by omega) (by omega)).symm, (oA _ (by omega) (by omega)).symm⟩, by omega, fun d hd => ⟨(oA _ (by omega) (by omega)).symm, (oA _ (by omega) (by omega)).symm⟩⟩
              have b9 := oA 9 (by omega) (by omega)
              have b10 := oA 10 (by omega) (by omega)
              have hoA : ∀ i, i < 5 → A (31 + 6 * i) ≤ A 13 := fun i hi => by
                by_cases z : i < A 9
                · exact (hW.2.2.1 i z).2.2.1
                · rw [(hW.2.1 i (by omega) hi).2]
                  omega
              have lq : ∀ i, i < 5 → lqA B i = lqA A i := fun i hi => lq_congr (oA _ (by omega) (by omega)) (fun u => oA _ (by omega) (by have := hoA i hi; omega))
              have ld : ∀ i, ldA B i 5 = ldA A i 5 := fun i => ld_congr 5 (fun c hc => ⟨oA _ (by omega) (by omega), oA _ (by omega) (by omega)⟩)
              have gaA : ∀ k, k ≠ t + 7 → k ≠ t + 8 → k ≠ 28 → k ≠ 29 → ga (adD (st (st S1 (t + 7) (A 13) (nI l)) (t + 8) (A 13) (nI q)) (A 13)) k = ga S1 k := by
                intro k a1 a2 a3 a4
                unfold adD
                rw [ga_sf, ga_st_ne a4, ga_st_ne a3, ga_st_ne a2, ga_st_ne a1]
              have gfA : ∀ k j, ¬ (k = 22 ∧ j = 1) → gf (adD (st (st S1 (t + 7) (A 13) (nI l)) (t + 8) (A 13) (nI q)) (A 13)) k j = gf S1 k j := by
                intro k j hk
                unfold adD
                rw [gf_sf, if_neg hk]
                rfl
              refine ⟨nI (A 13), adD (st (st S1 (t + 7) (A 13) (nI l)) (t + 8) (A 13) (nI q)) (A 13), _, B, rfl, rfl, ⟨?_, fLM.st.st.st.st.st.st, fr, ft, ?_, ⟨?_, ?_, fun i hi => ?_, fun i hi => ?_⟩, hM3, ?_⟩, ?_⟩
              · unfold adD
                exact hL3.st.st.sf
              · obtain ⟨c1, c2, c3, c4, c5, ⟨m, m1, m2, m3⟩, c7⟩ := fT
                refine ⟨?_, ?_, fun i hi => ?_, fun c hc => ?_, fun i hi => ?_, ⟨m, m1, m2, fun x y hx hy => ?_⟩, fun d hd => ?_⟩
                · rw [gfA _ _ (by omega), b9]
                  exact c1
                · rw [gfA _ _ (by omega), b10]
                  exact c2
                · rw [gaA _ (by omega) (by omega) (by omega) (by omega), oA i (by omega) (by omega)]
                  exact c3 i hi
                · rw [b9] at hc
                  rw [gaA _ (by omega) (by omega) (by omega) (by omega), gaA _ (by omega) (by omega) (by omega) (by omega), gaA _ (by omega) (by omega) (by omega) (by omega), oA _ (by omega) (by omega), oA _ (by omega) (by omega), oA _ (by omega) (by omega)]
                  exact c4 c hc
                · rw [b10] at hi
                  rw [gaA _ (by omega) (by omega) (by omega) (by omega), oA _ (by omega) (by omega)]
                  exact c5 i hi
                · rw [m3 x y hx hy, oA (21 + x) (by omega) (by omega)]
                · rw [o13] at hd
                  by_cases z : d = A 13
                  · rw [z, o57, o58]
                    unfold adD
                    rw [ga_sf, ga_sf, gd_st (by omega), gd_st (by omega), gd_st (by omega), gd_st_eq (nT7 fL ft) (by omega), gd_st (by omega), gd_st (by omega), gd_st_eq (nT8 hL2 ft) (by omega)]
                    exact ⟨rfl, rfl⟩
                  · rw [oA (57 + 5 * d) (by omega) (by omega), oA (58 + 5 * d) (by omega) (by omega)]
                    unfold adD
                    rw [ga_sf, ga_sf, gd_st (by omega), gd_st (by omega), gd_st (by omega), gd_st (by omega), gd_st (by omega), gd_st (by omega), gd_st (by omega), gd_st (by omega)]
                    exact c7 d (by omega)
              · rw [o13]
                unfold adD
                rw [gf_sf, if_pos ⟨rfl, rfl⟩]
              · rw [gfA _ _ (by omega), oA 14 (by omega) (by omega)]
                exact s2
              · have hl6 := lq_lt hW hi
                rw [oA (30 + 6 * i) (by omega) (by omega), oA (31 + 6 * i) (by omega) (by omega), oA (32 + 6 * i) (by omega) (by omega), lq i hi, oA (15 + lqA A i) (by omega) (by omega), gaA _ (by omega) (by omega) (by omega) (by omega), gaA _ (by omega) (by omega) (by omega) (by omega), gaA _ (by omega) (by omega) (by omega) (by omega), gaA _ (by omega) (by omega) (by omega) (by omega)]
                exact s3 i hi
              · rw [o13] at hi
                by_cases z : i = A 13
                · rw [z, o59, o60]
                  unfold adD
                  rw [ga_sf, ga_sf, gd_st (by omega), gd_st_eq (k := 22 + 6) (nD28 hL3) (by omega), gd_st_eq (k := 22 + 7) (nD29 hL3.st) (by omega)]
                  exact ⟨rfl, rfl⟩
                · rw [oA (59 + 5 * i) (by omega) (by omega), oA (60 + 5 * i) (by omega) (by omega)]
                  unfold adD
                  rw [ga_sf, ga_sf, gd_st (by omega), gd_st (by omega), gd_st (by omega), gd_st (by omega), gd_st (by omega), gd_st (by omega), gd_st (by omega), gd_st (by omega)]
                  exact s4 i (by omega)
              · have hW0 := hW
                obtain ⟨w1, w2, w3, w4, w5, w6⟩ := hW
                refine ⟨w1.up (fun i hi => oA i (by omega) (by omega)) (fun i _ _ => oA i (by omega) (by omega)) (fun c hc => ⟨oA _ (by omega) (by omega), oA _ (by omega) (by omega), oA _ (by omega) (by omega)⟩) (by omega) (fun i hi => ?_) (fun d hd => ?_), fun i hi h2 => ?_, fun i hi => ?_, fun i hi => ?_, fun i hi => ?_, ?_⟩
                · rw [oA _ (by omega) (by omega)]
                  exact w1.2.2.2.2.2.2.2.2.2.1 i hi
                · rw [o13] at hd
                  by_cases z : d = A 13
                  · rw [z, o57, o58]
                    exact ⟨hl, hq1, x2⟩
                  · rw [oA (57 + 5 * d) (by omega) (by omega), oA (58 + 5 * d) (by omega) (by omega)]
                    exact w1.2.2.2.2.2.2.2.2.2.2.2 d (by omega)
                · rw [b9] at hi
                  rw [oA _ (by omega) (by omega), oA _ (by omega) (by omega)]
                  exact w2 i hi h2
                · rw [b9] at hi
                  rw [oA (30 + 6 * i) (by omega) (by omega), oA (31 + 6 * i) (by omega) (by omega), oA (32 + 6 * i) (by omega) (by omega), lq i (by omega), o13]
                  obtain ⟨u1, u2, u3, u4⟩ := w3 i hi
                  exact ⟨u1, u2, by omega, u4⟩
                · rw [o13] at hi
                  rw [ld i]
                  by_cases z : i = A 13
                  · rw [z, o58, o59, ld_big hW0 (Nat.le_refl _) 5 (by omega)]
                    exact Or.inl ⟨rfl, hq1⟩
                  · rw [oA (58 + 5 * i) (by omega) (by omega), oA (59 + 5 * i) (by omega) (by omega)]
                    exact w4 i (by omega)
                · rw [o13] at hi
                  by_cases z : i = A 13
                  · rw [z, o59, o60, o61]
                    exact ⟨fun r => by omega, fun _ => ⟨rfl, rfl⟩⟩
                  · rw [oA (58 + 5 * i) (by omega) (by omega), oA (59 + 5 * i) (by omega) (by omega), oA (60 + 5 * i) (by omega) (by omega), oA (61 + 5 * i) (by omega) (by omega)]
                    exact w5 i (by omega)
                · rw [o13, cnt_last, cnt_congr (q := fun d => decide (A (59 + 5 * d) = 0)) (A 13) 0 (fun i _ hi => by rw [oA (59 + 5 * i) (by omega) (by omega)])]
                  split <;> omega
              · refine kH.of tlB (fun k j h1 _ => gfA k j (by omega)) (fun k h1 _ => gaA k (by omega) (by omega) (by omega) (by omega)) rfl ?_
                rw [ga_st_ne (by omega), ga_st_ne (by omega), ga_st_ne (by omega), ga_st_ne (by omega), ga_st_ne (by omega), ga_st_ne (by omega)]
        · refine ⟨-1, S, sf M 137 0 0, A, ?_, ?_, h0⟩
          · rw [if_neg x1, if_neg (show ¬ nI q ≤ 4995 from nI_ge (a := 4995) (by omega) hq)]
          · rw [if_neg (show ¬ (¬ nI q < 1 ∧ ¬ (4995 : Int32) < nI q) from fun r => r.2 (nI_lt (a := 4995) (b := q) (by omega) hq)), i0n]
    · exact absurd rfl (nl l hl)
  · rcases m_isLiq (v := a) hLM (hf0 10 (by omega)) h6 with ⟨l', hl', e', gm⟩ | ⟨gm, _⟩
    · exact absurd e' (nl l' hl')
    · refine ⟨-1, S, sf M 137 0 0, A, ?_, ?_, h0⟩
      · rw [gl', sb, if_pos rfl]
      · rw [gm, sb, if_pos rfl]
