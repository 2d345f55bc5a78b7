/-! the acts, alike -/
def FH (S M : HS) (t : Nat) (A : Nat → Nat) : Prop := FS S M t A ∧ HR S M A
theorem FH.thrown {S M : HS} {t : Nat} {A : Nat → Nat} {x : Int32} (h : FH S M t A) : FH S (sf M 137 0 x) t A := ⟨h.1, h.2.of Tl.rf (fun _ _ _ _ => rfl) (fun _ _ _ => rfl) (by rw [gf_sf, if_neg (by omega)]) rfl⟩
theorem Wf.s3 {A : Nat → Nat} (h : Wf A) {d : Nat} (hd : d < A 13) : A (59 + 5 * d) ≤ 3 := by
  rcases h.2.2.2.1 d hd with q | q | q
  · omega
  · omega
  · omega
theorem q_having {M : HS} {A : Nat → Nat} (hL : LnM M) (hM : RMt M 139 A) (hW : Wf A) : s_X8_having 0 M = some (nI (cnt (fun d => decide (A (59 + 5 * d) = 0)) (A 13) 0)) := by
  have h5 := hW.1.2.2.2.2.1
  have hf0 : ∀ i, i < 157 → fM M i = nI (A i) := hM
  have lp : ∀ (m j a : Nat) (K : Nat), j + m = A 13 → m < K → s_X8_having_L4 0 M K (nI a) (nI j) = some (nI (a + cnt (fun d => decide (A (59 + 5 * d) = 0)) m j)) := by
    intro m
    induction m with
    | zero =>
      intro j a K h1 h2
      obtain ⟨K, rfl⟩ : ∃ k, K = k + 1 := ⟨K - 1, by omega⟩
      rw [s_X8_having_L4, m_at hL (x := 13) (i := 13) rfl (by omega), sb, hf0 13 (by omega), if_pos (nI_le (by omega) (by omega))]
      rfl
    | succ m ih =>
      intro j a K h1 h2
      obtain ⟨K, rfl⟩ : ∃ k, K = k + 1 := ⟨K - 1, by omega⟩
      have hs := hW.s3 (d := j) (by omega)
      rw [s_X8_having_L4, m_at hL (x := 13) (i := 13) rfl (by omega), sb, hf0 13 (by omega), if_neg (nI_ge (by omega) (by omega)), q_its hL (by omega) (x := 2) (k := 2) (by omega) rfl, sb, (show fM M (57 + 2 + 5 * j) = nI (A (59 + 5 * j)) from hf0 (59 + 5 * j) (by omega)), ← nI_succ, ← nI_succ, ih _ _ _ (by omega) (by omega), ih _ _ _ (by omega) (by omega), cnt]
      by_cases z : A (59 + 5 * j) = 0
      · rw [z, if_neg (fun y => y rfl), if_pos (decide_eq_true rfl), Nat.add_assoc]
      · rw [if_pos (nI_ne0 (n := A (59 + 5 * j)) (by omega) (by omega)), if_neg (by simp [z]), Nat.zero_add]
  have := lp (A 13) 0 0 40 (by omega) (by omega)
  rw [Nat.zero_add] at this
  exact this
theorem e_waiting {S M : HS} {t : Nat} {A : Nat → Nat} (h : FS S M t A) : s_X5_waiting t S = some (nI (cnt (fun d => decide (A (59 + 5 * d) = 0)) (A 13) 0)) := by
  have hho := fun d hd => how_eq (d := d) h hd
  obtain ⟨hL, hLM, hr, ht, hT, ⟨h13, _, hC, _⟩, hM, hW⟩ := h
  have h5 := hW.1.2.2.2.2.1
  rw [q_waiting hL ht h13 h5]
  refine congrArg (fun n => some (nI n)) (cnt_congr _ 0 (fun d _ hd => decide_eq_decide.mpr ?_))
  have hs := hW.s3 (d := d) (by omega)
  rw [hho d (by omega)]
  exact nI_eq (b := 0) (by omega) (by omega)
theorem e_mload {S M : HS} {t d : Nat} {A : Nat → Nat} (h : FS S M t A) (hd : d < 20) : s_X8_loadedOf (nI d) M = some (nI (ldA A d 5)) ∧ s_X0_loaded 23 (nI d) S = some (nI (ldA A d 5)) := by
  obtain ⟨hL, hLM, hr, ht, hT, ⟨h13, _, hC, _⟩, hM, hW⟩ := h
  have h5 := hW.1.1
  refine ⟨?_, q_dloaded hL mC23 hC (fun c hc => hW.o20 hc) hd⟩
  rw [q_mloaded hLM hM rfl h5 (fun c hc => hW.o20 (by omega)) hd, ← ld_5 h5 (fun c h1 h2 => (hW.2.1 c h1 h2).2)]
theorem ld_4995 {A : Nat → Nat} {d : Nat} (hW : Wf A) (hd : d < A 13) : ldA A d 5 ≤ 4995 := by
  have := (hW.1.2.2.2.2.2.2.2.2.2.2.2 d hd).2.2
  rcases hW.2.2.2.1 d hd with q | q | q
  · omega
  · omega
  · omega
theorem e_cancel {S M : HS} {t : Nat} {A : Nat → Nat} {a : Int32} (h : FH S M t A) : ∃ v S1 M1 A1, s_X7_cancel a S = some (v, S1) ∧ s_X8_cancel a M = some (v, M1) ∧ FH S1 M1 t A1 := by
  have h := h.thrown (x := 0)
  have h0 := h
  obtain ⟨hF, hH⟩ := h
  have hW := hF.2.2.2.2.2.2.2
  have h20 := hW.1.2.2.2.2.1
  have hLM := hF.2.1
  have hM := hF.2.2.2.2.2.2.1
  unfold s_X7_cancel s_X8_cancel
  rw [pf_ok, sb]
  rcases m_isSo (v := a) (w := 0) hF (by omega) with ⟨d, hd, rfl, es, e1, e2⟩ | ⟨e1, q⟩
  · obtain ⟨l1, l2⟩ := e_mload (d := d) hF (by omega)
    have h49 := ld_4995 hW hd
    rw [(show s_X7_isSo (nI d) 0 S = some 1 from e1), sb, i1e, l2, sb, e2, sb, i1e, q_its hLM (by omega) (x := 2) (k := 2) (by omega) rfl, sb, (show fM (sf M 137 0 0) (57 + 2 + 5 * d) = nI 0 from by rw [← es]; exact hM (59 + 5 * d) (by omega)), if_neg (show ¬ nI 0 ≠ 0 by decide), l1, sb]
    by_cases z : ldA A d 5 = 0
    · obtain ⟨S1, M1, k1, k2, ⟨fL, fLM, fr, ft, fT, ⟨s1, s2, s3, s4⟩, fM', fW⟩, kH, g1, g2, g3, _, _, fZ⟩ := h_keep hF hH
      rw [z, if_pos (by decide), if_pos (by decide), k1, sb, k2, sb, wa_st (nD28 fL) (by omega) (by omega), sb, w9_at fLM (x := (57 : Int32) + (5 : Int32) * nI d + (2 : Int32)) (i := 59 + 5 * d) (id_k (k := 2)) (by omega), sb]
      have oA : ∀ i, i ≠ 59 + 5 * d → upA A (59 + 5 * d) 3 i = A i := fun i hi => upA_ne hi
      have oS : upA A (59 + 5 * d) 3 (59 + 5 * d) = 3 := upA_eq
      have tl := tl2 (A := A) (B := upA A (59 + 5 * d) 3) (oA _ (by omega)) h20 (fun i _ _ y z => oA i (z d (by omega)).1)
      have b13 := oA 13 (by omega)
      have b9 := oA 9 (by omega)
      have lq : ∀ i, i < 5 → lqA (upA A (59 + 5 * d) 3) i = lqA A i := fun i hi => lq_congr (oA _ (by omega)) (fun _ => oA _ (by omega))
      have ld : ∀ i, ldA (upA A (59 + 5 * d) 3) i 5 = ldA A i 5 := fun i => ld_congr 5 (fun c hc => ⟨oA _ (by omega), oA _ (by omega)⟩)
      refine ⟨1, _, _, upA A (59 + 5 * d) 3, rfl, rfl, ⟨fL.st, fLM.st, fr, ft, ?_, ⟨?_, ?_, fun i hi => ?_, fun i hi => ?_⟩, fM'.st (v := 3) (nM139 fLM) (by omega), ?_⟩, ?_⟩
      · exact (fT.tl tl.1 hW.1.1 hW.1.2.1).keep (fun j => rfl) rfl (fun i hi => ga_st_ne (by have := isT_num ft; omega))
      · rw [b13]
        exact s1
      · rw [oA 14 (by omega)]
        exact s2
      · have hl6 : lqA A i < 6 := by
          by_cases y : i < A 9
          · exact lq_6 hW y
          · unfold lqA
            rw [if_pos (hW.2.1 i (by omega) hi).2]
            omega
        rw [oA (30 + 6 * i) (by omega), oA (31 + 6 * i) (by omega), oA (32 + 6 * i) (by omega), lq i hi, oA (15 + lqA A i) (by omega), ga_st_ne (by omega), ga_st_ne (by omega), ga_st_ne (by omega), ga_st_ne (by omega)]
        exact s3 i hi
      · rw [b13] at hi
        obtain ⟨f1, f2⟩ := s4 i hi
        refine ⟨?_, ?_⟩
        · by_cases y : i = d
          · subst y
            rw [gd_st_eq (k := 22 + 6) (nD28 fL) (by omega), oS, if_neg (by omega)]
            rfl
          · rw [gd_st (by omega), oA (59 + 5 * i) (by omega)]
            exact f1
        · rw [gd_st (by omega), oA (60 + 5 * i) (by omega)]
          exact f2
      · obtain ⟨w1, w2, w3, w4, w5, w6⟩ := hW
        have h5 := w1.1
        refine ⟨w1.tl tl.1 (fun i hi => by rw [oA _ (by omega)]; exact w1.2.2.2.2.2.2.2.2.2.1 i hi), fun i hi h2 => ?_, fun i hi => ?_, fun i hi => ?_, fun i hi => ?_, ?_⟩
        · rw [b9] at hi
          rw [oA _ (by omega), oA _ (by omega)]
          exact w2 i hi h2
        · rw [b9] at hi
          rw [oA (30 + 6 * i) (by omega), oA (31 + 6 * i) (by omega), oA (32 + 6 * i) (by omega), lq i (by have := w1.1; omega), b13]
          exact w3 i hi
        · rw [b13] at hi
          rw [ld i, oA (58 + 5 * i) (by omega)]
          by_cases y : i = d
          · subst y
            rw [oS]
            exact Or.inr (Or.inr ⟨Or.inr rfl, z⟩)
          · rw [oA (59 + 5 * i) (by omega)]
            exact w4 i hi
        · rw [b13] at hi
          rw [oA (60 + 5 * i) (by omega), oA (61 + 5 * i) (by omega), oA (58 + 5 * i) (by omega)]
          by_cases y : i = d
          · subst y
            rw [oS]
            exact ⟨fun q => by omega, fun _ => (w5 i hi).2 (by omega)⟩
          · rw [oA (59 + 5 * i) (by omega)]
            exact w5 i hi
        · rw [b13]
          refine Nat.le_trans (cnt_mono (A 13) 0 (fun i _ hi y => ?_)) w6
          have y := of_decide_eq_true y
          by_cases z : i = d
          · subst z
            rw [oS] at y
            omega
          · rw [oA (59 + 5 * i) (by omega)] at y
            exact decide_eq_true y
      · exact kH.of tl.2 (fun _ _ _ _ => rfl) (fun k _ _ => ga_st_ne (by omega)) rfl (ga_st_ne (by omega))
    · refine ⟨0, S, sf M 137 0 0, A, ?_, ?_, h0⟩
      · rw [if_neg (show ¬ nI (ldA A d 5) ≤ 0 from nI_ge (a := 0) (b := ldA A d 5) (by omega) (by omega))]
      · rw [if_neg (show ¬ nI (ldA A d 5) ≤ 0 from nI_ge (a := 0) (b := ldA A d 5) (by omega) (by omega))]
  · refine ⟨0, S, sf M 137 0 0, A, ?_, ?_, h0⟩
    · rw [(show s_X7_isSo a 0 S = some 0 from e1), sb, if_pos rfl]
    · rcases q with ⟨d, hd, rfl, en, e2⟩ | e2
      · have hs := hW.s3 hd
        rw [e2, sb, if_neg (by decide), q_its hLM (by omega) (x := 2) (k := 2) (by omega) rfl, sb, (show fM (sf M 137 0 0) (57 + 2 + 5 * d) = nI (A (59 + 5 * d)) from hM (59 + 5 * d) (by omega)), if_pos (nI_ne0 (n := A (59 + 5 * d)) (by omega) (by omega))]
      · rw [e2, sb, if_pos rfl]
theorem e_wash {S M : HS} {t : Nat} {A : Nat → Nat} {a : Int32} (h : FH S M t A) : ∃ v S1 M1 A1, s_X7_wash a S = some (v, S1) ∧ s_X8_wash a M = some (v, M1) ∧ FH S1 M1 t A1 := by
  have h := h.thrown (x := 0)
  have h0 := h
  obtain ⟨hF, hH⟩ := h
  have hF0 := hF
  obtain ⟨hL, hLM, hr, ht, hT, ⟨h13, h14, hC, _⟩, hM, hW⟩ := hF
  have h5 := hW.1.1
  have h20 := hW.1.2.2.2.2.1
  have hf0 : ∀ i, i < 157 → fM (sf M 137 0 0) i = nI (A i) := hM
  unfold s_X7_wash s_X8_wash
  rw [pf_ok, sb, tl_ok hr ht, sb]
  rcases q_hasC (v := a) hT.1 h5 with ⟨c, hc, rfl, g⟩ | ⟨g, n1⟩
  · rcases m_isHold (v := nI c) hLM (hf0 9 (by omega)) h5 with ⟨c', _, _, g'⟩ | ⟨_, n1⟩
    · obtain ⟨k1, k2, k3, k4⟩ := hC c (by omega)
      obtain ⟨w31, w32, w33, w34⟩ := hW.2.2.1 c hc
      have hl10 := hW.1.2.2.2.2.2.2.2.2.2.1 c (by omega)
      have h6 := hW.1.2.1
      rw [g, sb, i1e, ag_ok (nD24 hL) (by omega) (by omega), sb, show (ga S 24).getD c 0 = _ from k1, ag_ok (nD26 hL) (by omega) (by omega), sb, show (ga S 26).getD c 0 = _ from k3, g', sb, i1e, q_holds hLM (by omega) (x := 4) (k := 4) (by omega) rfl, sb, q_holds hLM (by omega) (x := 5) (k := 5) (by omega) rfl, sb, (show fM (sf M 137 0 0) (27 + 4 + 6 * c) = nI (A (31 + 6 * c)) from hf0 (31 + 6 * c) (by omega)), (show fM (sf M 137 0 0) (27 + 5 + 6 * c) = nI (A (32 + 6 * c)) from hf0 (32 + 6 * c) (by omega))]
      by_cases z : A (31 + 6 * c) = 0
      · have z0 : A (30 + 6 * c) = 0 := w32.mpr z
        rw [z, z0, if_neg (show ¬ (0 : Int32) < nI 0 by decide), if_neg (show ¬ (0 : Int32) < nI 0 by decide)]
        by_cases y : A (32 + 6 * c) = 0
        · rw [y, dn_0, if_neg (show ¬ (-1 : Int32) ≠ -1 by decide), if_neg (show ¬ nI 0 ≠ 0 by decide)]
          exact ⟨0, S, sf M 137 0 0, A, rfl, rfl, h0⟩
        · obtain ⟨l, el⟩ : ∃ p, A (32 + 6 * c) = p + 1 := ⟨A (32 + 6 * c) - 1, by omega⟩
          obtain ⟨S1, M1, k1, k2, ⟨fL, fLM, fr, ft, fT, ⟨s1, s2, s3, s4⟩, fM', fW⟩, kH, g1, g2, g3, _, _, fZ⟩ := h_keep hF0 hH
          rw [if_pos (show nI (A (32 + 6 * c)) ≠ 0 from nI_ne0 (n := A (32 + 6 * c)) (by omega) (by omega)), el, dn_s, if_pos (show nI l ≠ (-1 : Int32) from nI_nm (by omega)), k1, sb, k2, sb, wa_st (nD26 fL) (by omega) (by omega), sb, pf_ok, sb, w9_at fLM (x := (27 : Int32) + (6 : Int32) * nI c + (5 : Int32)) (i := 32 + 6 * c) (ix_k (k := 5)) (by omega), sb, m_at fLM.st (x := 14) (i := 14) rfl (by omega), sb, w9_at fLM.st (x := 14) (i := 14) rfl (by omega), sb]
          have e14 : fM (st M1 139 (32 + 6 * c) 0) 14 = nI (A 14) := by
            rw [fM_st fLM (by omega), if_neg (by omega)]
            exact fM' 14 (by omega)
          have hM2 : RMt (st (st M1 139 (32 + 6 * c) 0) 139 14 (fM (st M1 139 (32 + 6 * c) 0) 14 + 1)) 139 (upA (upA A (32 + 6 * c) 0) 14 (A 14 + 1)) := by
            rw [e14, ← nI_succ]
            exact (fM'.st (v := 0) (nM139 fLM) (by omega)).st (nM139 fLM.st) (by omega)
          have oA : ∀ i, i ≠ 32 + 6 * c → i ≠ 14 → upA (upA A (32 + 6 * c) 0) 14 (A 14 + 1) i = A i := fun i hi h2 => (upA_ne h2).trans (upA_ne hi)
          have o14 : upA (upA A (32 + 6 * c) 0) 14 (A 14 + 1) 14 = A 14 + 1 := upA_eq
          have o32 : upA (upA A (32 + 6 * c) 0) 14 (A 14 + 1) (32 + 6 * c) = 0 := (upA_ne (by omega)).trans upA_eq
          generalize upA (upA A (32 + 6 * c) 0) 14 (A 14 + 1) = B at *
          have b13 := oA 13 (by omega) (by omega)
          have b9 := oA 9 (by omega) (by omega)
          have tl := tl2 (A := A) (B := B) b13 h20 (fun i _ i14 y z => oA i (y c (by omega)).2.2 i14)
          have lq : ∀ i, i < 5 → lqA B i = lqA A i := fun i hi => lq_congr (oA _ (by omega) (by omega)) (fun _ => oA _ (by have := hW.o20 hi; omega) (by omega))
          have ld : ∀ i, ldA B i 5 = ldA A i 5 := fun i => ld_congr 5 (fun c hc => ⟨oA _ (by omega) (by omega), oA _ (by omega) (by omega)⟩)
          refine ⟨1, _, _, B, rfl, rfl, ⟨fL.st.sf, fLM.st.st, fr, ft, ?_, ⟨?_, ?_, fun i hi => ?_, fun i hi => ?_⟩, hM2, ?_⟩, ?_⟩
          · refine (fT.tl tl.1 hW.1.1 hW.1.2.1).keep (fun j => ?_) rfl (fun i hi => ga_st_ne (by have := isT_num ft; omega))
            rw [gf_sf, if_neg (by have := isT_num ft; omega)]
            rfl
          · rw [gf_sf, if_neg (by omega), b13]
            exact s1
          · rw [gf_sf, if_pos ⟨rfl, rfl⟩, o14, gf_st, s2, nI_succ]
          · have hl6 : lqA A i < 6 := by
              by_cases y : i < A 9
              · exact lq_6 hW y
              · unfold lqA
                rw [if_pos (hW.2.1 i (by omega) hi).2]
                omega
            rw [oA (30 + 6 * i) (by omega) (by omega), oA (31 + 6 * i) (by omega) (by omega), lq i hi, oA (15 + lqA A i) (by omega) (by omega)]
            obtain ⟨c1, c2, c3, c4⟩ := s3 i hi
            refine ⟨?_, ?_, ?_, ?_⟩
            · rw [ga_sf, gd_st (by omega)]
              exact c1
            · rw [ga_sf, gd_st (by omega)]
              exact c2
            · by_cases y : i = c
              · subst y
                rw [ga_sf, gd_st_eq (k := 23 + 3) (nD26 fL) (by omega), o32, dn_0]
              · rw [ga_sf, gd_st (by omega), oA (32 + 6 * i) (by omega) (by omega)]
                exact c3
            · rw [ga_sf, gd_st (by omega)]
              exact c4
          · rw [b13] at hi
            obtain ⟨f1, f2⟩ := s4 i hi
            rw [ga_sf, ga_sf, gd_st (by omega), gd_st (by omega), oA (59 + 5 * i) (by omega) (by omega), oA (60 + 5 * i) (by omega) (by omega)]
            exact ⟨f1, f2⟩
          · obtain ⟨w1, w2, w3, w4, w5, w6⟩ := hW
            refine ⟨w1.tl tl.1 (fun i hi => ?_), fun i hi h2 => ?_, fun i hi => ?_, fun i hi => ?_, fun i hi => ?_, ?_⟩
            · by_cases y : i = c
              · subst y
                rw [o32]
                omega
              · rw [oA _ (by omega) (by omega)]
                exact w1.2.2.2.2.2.2.2.2.2.1 i hi
            · rw [b9] at hi
              rw [oA _ (by omega) (by omega), oA _ (by omega) (by omega)]
              exact w2 i hi h2
            · rw [b9] at hi
              rw [oA (30 + 6 * i) (by omega) (by omega), oA (31 + 6 * i) (by omega) (by omega), lq i (by omega), b13]
              refine ⟨(w3 i hi).1, (w3 i hi).2.1, (w3 i hi).2.2.1, fun q => ?_⟩
              rw [oA (32 + 6 * i) (fun y => ?_) (by omega)]
              · exact (w3 i hi).2.2.2 q
              · have : i = c := by omega
                subst this
                exact q z
            · rw [b13] at hi
              rw [ld i, oA (58 + 5 * i) (by omega) (by omega), oA (59 + 5 * i) (by omega) (by omega)]
              exact w4 i hi
            · rw [b13] at hi
              rw [oA (60 + 5 * i) (by omega) (by omega), oA (61 + 5 * i) (by omega) (by omega), oA (58 + 5 * i) (by omega) (by omega), oA (59 + 5 * i) (by omega) (by omega)]
              exact w5 i hi
            · rw [b13, cnt_congr (q := fun d => decide (A (59 + 5 * d) = 0)) (A 13) 0 (fun d _ _ => by rw [oA (59 + 5 * d) (by omega) (by omega)])]
              exact w6
          · refine kH.of tl.2 (fun k j h1 _ => ?_) (fun k _ _ => ga_st_ne (by omega)) rfl (by rw [ga_st_ne (by omega), ga_st_ne (by omega)])
            rw [gf_sf, if_neg (by omega)]
            rfl
      · refine ⟨0, S, sf M 137 0 0, A, ?_, ?_, h0⟩
        · rw [if_pos (show (0 : Int32) < nI (A (30 + 6 * c)) from nI_lt (a := 0) (b := A (30 + 6 * c)) (by omega) (by omega))]
        · rw [if_pos (show (0 : Int32) < nI (A (31 + 6 * c)) from nI_lt (a := 0) (b := A (31 + 6 * c)) (by omega) (by omega))]
    · exact absurd rfl (n1 c hc)
  · rcases m_isHold (v := a) hLM (hf0 9 (by omega)) h5 with ⟨c', hc', e', g'⟩ | ⟨g', _⟩
    · exact absurd e' (n1 c' hc')
    · refine ⟨0, S, sf M 137 0 0, A, ?_, ?_, h0⟩
      · rw [g, sb, if_pos rfl]
      · rw [g', sb, if_pos rfl]
theorem e_put {S M : HS} {t : Nat} {A : Nat → Nat} {a b : Int32} (h : FH S M t A) : ∃ v S1 M1 A1, s_X7_put a b S = some (v, S1) ∧ s_X8_put a b M = some (v, M1) ∧ FH S1 M1 t A1 := by
  have h := h.thrown (x := 0)
  have h0 := h
  obtain ⟨hF, hH⟩ := h
  have hF0 := hF
  obtain ⟨hL, hLM, hr, ht, hT, ⟨h13, h14, hC, _⟩, hM, hW⟩ := hF
  have h5 := hW.1.1
  have h20 := hW.1.2.2.2.2.1
  have h6 := hW.1.2.1
  have hf0 : ∀ i, i < 157 → fM (sf M 137 0 0) i = nI (A i) := hM
  unfold s_X7_put s_X8_put
  rw [pf_ok, sb, tl_ok hr ht]
  simp only [sb]
  rcases q_hasC (v := a) hT.1 h5 with ⟨c, hc, rfl, g⟩ | ⟨g, n1⟩
  · rcases m_isHold (v := nI c) hLM (hf0 9 (by omega)) h5 with ⟨c', _, _, g'⟩ | ⟨_, n1⟩
    · rw [g, sb, i1e, g', sb, i1e]
      rcases m_isSo (v := b) (w := 0) hF0 (by omega) with ⟨d, hd, rfl, es, e1, e2⟩ | ⟨e1, q⟩
      · obtain ⟨k1, k2, k3, k4⟩ := hC c (by omega)
        obtain ⟨w31, w32, w33, w34⟩ := hW.2.2.1 c hc
        obtain ⟨hq6, hq1, hq4⟩ := hW.1.2.2.2.2.2.2.2.2.2.2.2 d hd
        have hcap := hW.1.2.2.2.2.2.2.2.2.1 c hc
        have hfill := hW.1.2.2.2.2.2.2.2.1
        have hlt : ldA A d 5 < A (58 + 5 * d) := by
          rcases hW.2.2.2.1 d hd with q | q | q
          · omega
          · omega
          · omega
        have htp : A (27 + 6 * c) * A 6 ≤ 999 * 100 := Nat.mul_le_mul hcap.2.1 hfill
        have etop : topD t c S = nI (A (27 + 6 * c) * A 6 / 100) := by
          unfold topD
          rw [(hT.2.2.2.1 c hc).1, hT.2.2.1 6 (by omega), pk_mul, show (100 : Int32) = nI 100 from rfl, pk_div (by omega) (by omega) (by omega)]
        have emtop : ∀ M', LnM M' → RMt M' 139 A → s_X8_top (nI c) M' = some (nI (A (27 + 6 * c) * A 6 / 100)) := by
          intro M' l' m'
          rw [q_mtop l' (by omega), (show fM M' (27 + 0 + 6 * c) = nI (A (27 + 6 * c)) from m' (27 + 6 * c) (by omega)), (show fM M' 6 = nI (A 6) from m' 6 (by omega)), pk_mul, show (100 : Int32) = nI 100 from rfl, pk_div (by omega) (by omega) (by omega)]
        have htop : A (27 + 6 * c) * A 6 / 100 ≤ 999 := by omega
        generalize A (27 + 6 * c) * A 6 / 100 = T at *
        rw [(show s_X7_isSo (nI d) 0 S = some 1 from e1), sb, i1n, ag_ok (nD24 hL) (by omega) (by omega), sb, show (ga S 24).getD c 0 = _ from k1, e2, sb, i1e, q_its hLM (by omega) (x := 2) (k := 2) (by omega) rfl, sb, (show fM (sf M 137 0 0) (57 + 2 + 5 * d) = nI 0 from by rw [← es]; exact hM (59 + 5 * d) (by omega)), if_pos (show nI 0 = 0 from rfl), q_holds hLM (by omega) (x := 4) (k := 4) (by omega) rfl, sb, (show fM (sf M 137 0 0) (27 + 4 + 6 * c) = nI (A (31 + 6 * c)) from hf0 (31 + 6 * c) (by omega))]
        by_cases z : A (31 + 6 * c) = 0
        · have z0 : A (30 + 6 * c) = 0 := w32.mpr z
          rw [z, z0, if_pos (by decide), if_pos (by decide), ag_ok (nT7 hL ht) (by omega) (by omega), sb, (hT.2.2.2.2.2.2 d hd).1, ag_ok (nD26 hL) (by omega) (by omega), sb, show (ga S 26).getD c 0 = _ from k3, q_barred, sb, br_bA hT.2.2.2.2.2.1 hW.1 (by omega) (by omega), q_its hLM (by omega) (x := 0) (k := 0) (by omega) rfl, sb, (show fM (sf M 137 0 0) (57 + 0 + 5 * d) = nI (A (57 + 5 * d)) from hf0 (57 + 5 * d) (by omega)), q_mayCome hLM hM hW hc (by omega), sb]
          cases hbar : bA A c (A (57 + 5 * d)) with
          | true =>
            refine ⟨-3, S, sf M 137 0 0, A, ?_, ?_, h0⟩
            · rw [if_neg (show ¬ (if true = true then (1 : Int32) else 0) = 0 by decide)]
            · rw [if_neg (show ¬ z1 (!true) ≠ 0 by decide)]
          | false =>
            rw [if_pos (show (if false = true then (1 : Int32) else 0) = 0 by decide), if_pos (show z1 (!false) ≠ 0 by decide), q_top hL ht (by omega), sb, etop, emtop _ hLM hM, sb]
            by_cases y : T = 0
            · refine ⟨-4, S, sf M 137 0 0, A, ?_, ?_, h0⟩
              · rw [y, if_neg (by decide)]
              · rw [y, if_neg (by decide)]
            · obtain ⟨S1, M1, k1, k2, fF, kH, g1, g2, g3, _, _, fZ⟩ := h_keep hF0 hH
              have fF0 := fF
              obtain ⟨l1, l2⟩ := e_mload (d := d) fF (by omega)
              obtain ⟨fL, fLM, fr, ft, fT, _, fM', fW⟩ := fF
              have x0 : 0 < min T (A (58 + 5 * d) - ldA A d 5) := by omega
              obtain ⟨M2, p1, p2, p3, p4, p5, _⟩ := put_step (c := c) (d := d) (x := min T (A (58 + 5 * d) - ldA A d 5)) fF0 hc hd z es x0 (by omega) (by omega)
              have emn : mn (nI T) (nI (A (58 + 5 * d)) - nI (ldA A d 5)) = nI (min T (A (58 + 5 * d) - ldA A d 5)) := by
                rw [pk_sub (by omega)]
                unfold mn
                by_cases q : A (58 + 5 * d) - ldA A d 5 < T
                · rw [if_pos (nI_lt q (by omega)), Nat.min_eq_right (by omega)]
                · rw [if_neg (nI_nlt (by omega) (by omega)), Nat.min_eq_left (by omega)]
              rw [if_pos (nI_ne0 (n := T) (by omega) (by omega)), if_pos (nI_ne0 (n := T) (by omega) (by omega)), k1, sb, k2, sb, tl_ok fr ft]
              simp only [sb]
              rw [ag_ok (nT8 fL ft) (by omega) (by omega), sb, (fT.2.2.2.2.2.2 d hd).2, l2, sb, emn, w_lay fL mC23 ft (by omega) (by omega), sb, q_its fLM (by omega) (x := 1) (k := 1) (by omega) rfl, sb, (show fM M1 (57 + 1 + 5 * d) = nI (A (58 + 5 * d)) from fM' (58 + 5 * d) (by omega)), l1, sb, emtop _ fLM fM', sb, sb, pk_sub (by omega)]
              refine ⟨nI (min T (A (58 + 5 * d) - ldA A d 5)), _, M2, _, rfl, ?_, p3, ?_⟩
              · unfold s_X8_put_J108
                by_cases q : T ≤ A (58 + 5 * d) - ldA A d 5
                · rw [Nat.min_eq_left q] at p1 ⊢
                  rw [if_pos (nI_le q (by omega)), p1, sb]
                · rw [Nat.min_eq_right (by omega)] at p1 ⊢
                  rw [if_neg (nI_ge (by omega) (by omega)), p1, sb]
              · refine kH.of p4 (fun _ _ _ _ => rfl) (fun k _ _ => ?_) (p2.1 137 14 (by unfold w9; omega)).1 (p2.2.2.1 141 (by unfold w9; omega))
                unfold layC
                rw [ga_st_ne (by omega), ga_st_ne (by omega), ga_st_ne (by omega), ga_st_ne (by omega)]
        · refine ⟨-2, S, sf M 137 0 0, A, ?_, ?_, h0⟩
          · rw [if_neg (show ¬ nI (A (30 + 6 * c)) ≤ 0 from nI_ge (a := 0) (b := A (30 + 6 * c)) (by omega) (by omega))]
          · rw [if_neg (show ¬ nI (A (31 + 6 * c)) ≤ 0 from nI_ge (a := 0) (b := A (31 + 6 * c)) (by omega) (by omega))]
      · refine ⟨-1, S, sf M 137 0 0, A, ?_, ?_, h0⟩
        · rw [(show s_X7_isSo b 0 S = some 0 from e1), sb, if_neg (by decide)]
        · rcases q with ⟨d, hd, rfl, en, e2⟩ | e2
          · have hs := hW.s3 hd
            rw [e2, sb, if_neg (by decide), q_its hLM (by omega) (x := 2) (k := 2) (by omega) rfl, sb, (show fM (sf M 137 0 0) (57 + 2 + 5 * d) = nI (A (59 + 5 * d)) from hM (59 + 5 * d) (by omega)), if_neg (nI_ne0 (n := A (59 + 5 * d)) (by omega) (by omega))]
          · rw [e2, sb, if_pos rfl]
    · exact absurd rfl (n1 c hc)
  · rcases m_isHold (v := a) hLM (hf0 9 (by omega)) h5 with ⟨c', hc', e', g'⟩ | ⟨g', _⟩
    · exact absurd e' (n1 c' hc')
    · refine ⟨-1, S, sf M 137 0 0, A, ?_, ?_, h0⟩
      · rw [g, sb, if_pos rfl]
      · rw [g', sb, if_pos rfl]
