/-! text, feed, end: both sides -/
def A0 (i : Nat) : Nat := if i = 0 then 1 else 0
theorem rep_get {n i : Nat} {x : Int32} (h : i < n) : (List.replicate n x).getD i 0 = x := grep_ h
theorem w_clear {S : HS} {t : Nat} (hL : LnD S) (ht : isT t) : ∃ S', s_X6_clear t S = some S' ∧ Fr (wTt t) S S' ∧ RDt S' t A0 ∧ RLs S' t A0 ∧ gf S' t 9 = nI 0 ∧ ga S' (t + 7) = ga S (t + 7) := by
  have hn := isT_num ht
  have l1 : ln (t + 1) = 9 := by rcases hn with rfl | rfl <;> rfl
  have l5 : ln (t + 5) = 5 := by rcases hn with rfl | rfl <;> rfl
  have e : s_X6_clear t S = some (sf (sg (sf (sa (sf (st (sa S (t + 1) (List.replicate 9 0)) (t + 1) 0 1) t 1 0) (t + 5) (List.replicate 5 (-1))) t 6 0) t 0) t 9 0) := by
    have hL1 : LnD (sa S (t + 1) (List.replicate 9 0)) := hL.sa (by rw [List.length_replicate, l1])
    unfold s_X6_clear
    rw [wf_ok (nT1 hL ht) (by omega), sb, (show wa (sa S (t + 1) (List.replicate 9 0)) (t + 1) 0 1 = some (st (sa S (t + 1) (List.replicate 9 0)) (t + 1) 0 1) from wa_st (k := 0) (nT1 hL1 ht) (by omega) (by omega)), sb, pf_ok, sb, wf_ok (nT5 (S := sf (st (sa S (t + 1) (List.replicate 9 0)) (t + 1) 0 1) t 1 0) hL1.st.sf ht) (by omega), sb, pf_ok, sb, pl_ok, sb, pf_ok, sb]
  have f := fs_X6_clear (t := t) (S := S) fr_rf _ e
  have gA : ∀ a, ga (sf (sg (sf (sa (sf (st (sa S (t + 1) (List.replicate 9 0)) (t + 1) 0 1) t 1 0) (t + 5) (List.replicate 5 (-1))) t 6 0) t 0) t 9 0) a = if a = t + 5 then List.replicate 5 (-1) else if a = t + 1 then (List.replicate 9 (0 : Int32)).set 0 1 else ga S a := by
    intro a
    show ga (sa (sf (st (sa S (t + 1) (List.replicate 9 0)) (t + 1) 0 1) t 1 0) (t + 5) (List.replicate 5 (-1))) a = _
    rw [ga_sa]
    by_cases z : a = t + 5
    · rw [if_pos z, if_pos z]
    · rw [if_neg z, if_neg z]
      show ga (st (sa S (t + 1) (List.replicate 9 0)) (t + 1) 0 1) a = _
      rw [ga_st]
      by_cases z1 : a = t + 1
      · rw [if_pos z1, if_pos z1, ga_sa, if_pos rfl]
      · rw [if_neg z1, if_neg z1, ga_sa, if_neg z1]
  refine ⟨_, e, f, ⟨?_, ?_, ?_, ?_, ?_, ?_, ?_⟩, ?_, ?_, ?_⟩
  · rw [gf_sf, if_neg (by omega)]
    show gf (sf (sa (sf (st (sa S (t + 1) (List.replicate 9 0)) (t + 1) 0 1) t 1 0) (t + 5) (List.replicate 5 (-1))) t 6 0) t 1 = _
    rw [gf_sf, if_neg (by omega)]
    show gf (sf (st (sa S (t + 1) (List.replicate 9 0)) (t + 1) 0 1) t 1 0) t 1 = _
    rw [gf_sf, if_pos ⟨rfl, rfl⟩]
    rfl
  · rw [gf_sf, if_neg (by omega)]
    show gf (sf (sa (sf (st (sa S (t + 1) (List.replicate 9 0)) (t + 1) 0 1) t 1 0) (t + 5) (List.replicate 5 (-1))) t 6 0) t 6 = _
    rw [gf_sf, if_pos ⟨rfl, rfl⟩]
    rfl
  · intro i hi
    rw [gA, if_neg (by omega), if_pos rfl, gset (by rw [List.length_replicate]; omega)]
    unfold A0
    by_cases z : i = 0
    · rw [if_pos z, if_pos z]
      rfl
    · rw [if_neg z, if_neg z, rep_get hi]
      rfl
  · intro c hc
    exact absurd hc (Nat.not_lt_zero c)
  · intro c hc
    exact absurd hc (Nat.not_lt_zero c)
  · unfold RBr
    refine ⟨0, by omega, ?_, ?_⟩
    · show gl (sg _ t 0) t = _
      rw [gl_sg, if_pos rfl]
      rfl
    · intro a b ha hb
      rw [show A0 (21 + a) = 0 from if_neg (by omega), Nat.zero_testBit, Nat.zero_testBit]
  · intro c hc
    exact absurd hc (Nat.not_lt_zero c)
  · intro c hc
    rw [gA, if_pos rfl, rep_get hc, show A0 (32 + 6 * c) = 0 from if_neg (by omega), dn_0]
  · rw [gf_sf, if_pos ⟨rfl, rfl⟩]
    rfl
  · rw [gA, if_neg (by omega), if_neg (by omega)]
theorem rg_0 : RgA A0 ∧ Zs A0 := by
  have z : ∀ i, i ≠ 0 → A0 i = 0 := fun i h => if_neg h
  refine ⟨⟨?_, ?_, ?_, ?_, ?_, ?_, ?_, ?_, ?_, ?_, ?_, ?_⟩, ?_, ?_, ?_, ?_⟩
  · rw [z 9 (by omega)]; omega
  · rw [z 10 (by omega)]; omega
  · rw [z 11 (by omega)]; omega
  · rw [z 12 (by omega)]; omega
  · rw [z 13 (by omega)]; omega
  · exact ⟨Nat.le_refl 1, by decide⟩
  · intro i _
    unfold A0
    split <;> omega
  · rw [z 6 (by omega)]; omega
  · intro c hc
    exact absurd hc (Nat.not_lt_zero c)
  · intro c _
    rw [z _ (by omega), z _ (by omega)]
    exact Nat.le_refl 0
  · intro a _
    rw [z _ (by omega)]
    omega
  · intro c hc
    exact absurd hc (Nat.not_lt_zero c)
  · exact z 14 (by omega)
  · intro c _
    exact ⟨z _ (by omega), z _ (by omega)⟩
  · intro c _
    exact ⟨z _ (by omega), z _ (by omega), z _ (by omega)⟩
  · intro c _
    rw [z _ (by omega)]
    omega
def w40 (k j : Nat) : Prop := k = 140
def w39 (k j : Nat) : Prop := k = 139
def wTx (k j : Nat) : Prop := k = 140 ∨ (k = 137 ∧ (j = 0 ∨ 2 ≤ j ∧ j ≤ 9 ∨ j = 15 ∨ j = 98))
theorem q_L32 {v : Int32} : ∀ (m j : Nat) (M : HS) (K : Nat), j + m = 157 → m < K → LnM M → (∀ i, i < j → (ga M 140).getD i 0 = 0) → ∃ M', s_X8_text_L32 v K (nI j) M = (Option.bind (wa M' 140 (0 : Int32) (1 : Int32)) fun S6 => Option.bind (s_X8_go S6) fun q7 => s_X8_text_L63 800 v q7) ∧ (∀ i, i < 157 → (ga M' 140).getD i 0 = 0) ∧ Fr w40 M M' := by
  intro m
  induction m with
  | zero =>
    intro j M K h1 h2 hL h3
    obtain ⟨K, rfl⟩ : ∃ k, K = k + 1 := ⟨K - 1, by omega⟩
    refine ⟨M, ?_, fun i hi => h3 i (by omega), fr_rf⟩
    rw [s_X8_text_L32, if_pos (show (157 : Int32) ≤ nI j from nI_le (a := 157) (by omega) (by omega))]
  | succ m ih =>
    intro j M K h1 h2 hL h3
    obtain ⟨K, rfl⟩ : ∃ k, K = k + 1 := ⟨K - 1, by omega⟩
    rw [s_X8_text_L32, if_neg (show ¬ (157 : Int32) ≤ nI j from nI_ge (b := 157) (by omega) (by omega)), wa_st (nM140 hL) (by omega) (by omega), sb, ← nI_succ]
    obtain ⟨M', a, b, c⟩ := ih (j + 1) (st M 140 j 0) K (by omega) (by omega) hL.st (by
      intro i hi
      by_cases z : i = j
      · subst z
        exact gd_st_eq (nM140 hL) (by omega)
      · rw [gd_st (by omega)]
        exact h3 i (by omega))
    exact ⟨M', a, b, fr_tr (fr_st fr_rf (by unfold w40; rfl)) c (fun k j z => z)⟩
theorem q_L108 {v : Int32} : ∀ (m j : Nat) (M : HS) (K : Nat), j + m = 157 → m < K → LnM M → (∀ i, i < j → (ga M 139).getD i 0 = (ga M 140).getD i 0) → ∃ M', s_X8_text_L108 v K (nI j) M = some (v, sf M' 137 14 0) ∧ (∀ i, i < 157 → (ga M' 139).getD i 0 = (ga M 140).getD i 0) ∧ Fr w39 M M' := by
  intro m
  induction m with
  | zero =>
    intro j M K h1 h2 hL h3
    obtain ⟨K, rfl⟩ : ∃ k, K = k + 1 := ⟨K - 1, by omega⟩
    refine ⟨M, ?_, fun i hi => h3 i (by omega), fr_rf⟩
    rw [s_X8_text_L108, if_pos (show (157 : Int32) ≤ nI j from nI_le (a := 157) (by omega) (by omega)), pf_ok, sb]
  | succ m ih =>
    intro j M K h1 h2 hL h3
    obtain ⟨K, rfl⟩ : ∃ k, K = k + 1 := ⟨K - 1, by omega⟩
    rw [s_X8_text_L108, if_neg (show ¬ (157 : Int32) ≤ nI j from nI_ge (b := 157) (by omega) (by omega)), ag_ok (nM140 hL) (by omega) (by omega), sb, wa_st (nM139 hL) (by omega) (by omega), sb, ← nI_succ]
    obtain ⟨M', a, b, c⟩ := ih (j + 1) (st M 139 j ((ga M 140).getD j 0)) K (by omega) (by omega) hL.st (by
      intro i hi
      rw [gd_st (a := 140) (by omega)]
      by_cases z : i = j
      · subst z
        exact gd_st_eq (nM139 hL) (by omega)
      · rw [gd_st (by omega)]
        exact h3 i (by omega))
    refine ⟨M', a, fun i hi => ?_, fr_tr (fr_st fr_rf (by unfold w39; rfl)) c (fun k j z => z)⟩
    rw [b i hi, gd_st (by omega)]
/-- what reading a tape comes to -/
theorem j_reads {S M : HS} {t n : Nat} {B : Nat → Nat} (hL : LnD S) (hq : Lq S t) (ht : isT t) (hn : n ≤ 740) (hB : DT S B) (hLM : LnM M) (hBM : MT M B) (h2 : gf M 137 2 = nI n) : (∃ S1 M1 A1 l1, s_X4_reads t (nI n) S = some (1, S1) ∧ s_X8_text M = some (nI l1, M1) ∧ DJ S1 t n l1 B A1 (fun i => A1 (9 + i)) ∧ RMt M1 139 A1 ∧ LnM M1 ∧ MT M1 B ∧ gf M1 137 2 = 0 ∧ gf M1 137 8 = 0 ∧ gf M1 137 14 = 0 ∧ Fr (wRt t) S S1) ∨ (∃ S1 M1, s_X4_reads t (nI n) S = some (0, S1) ∧ s_X8_text M = some (-1 - gf M1 137 9, M1) ∧ gf S1 2 9 = gf M1 137 8 ∧ gf S1 2 10 = gf M1 137 9 ∧ IvT S1 t ∧ Fr (wRt t) S S1 ∧ LnM M1 ∧ MT M1 B ∧ gf M1 137 2 = 0 ∧ ga M1 139 = ga M 139 ∧ ga M1 141 = ga M 141 ∧ gf M1 137 14 = gf M 137 14) := by
  have hn' := isT_num ht
  have hL5 : LnD (sr (sf (sf (sf (sr S 2 1 (.ref 1)) 2 2 (nI n)) 2 3 0) 2 8 0) 2 7 (.ref t)) := hL
  obtain ⟨S6, e6, f6, r6, l6, t6, q6⟩ := w_clear hL5 ht
  have hL6 := hL5.fr f6
  have k2 : ∀ j, gf S6 2 j = gf (sr (sf (sf (sf (sr S 2 1 (.ref 1)) 2 2 (nI n)) 2 3 0) 2 8 0) 2 7 (.ref t)) 2 j ∧ gr S6 2 j = gr (sr (sf (sf (sf (sr S 2 1 (.ref 1)) 2 2 (nI n)) 2 3 0) 2 8 0) 2 7 (.ref t)) 2 j := fun j => f6.1 2 j (by unfold wTt; omega)
  have hD : DJ (sa S6 3 (List.replicate 5 0)) t n 0 B A0 (fun i => A0 (9 + i)) := by
    have hL7 : LnD (sa S6 3 (List.replicate 5 0)) := hL6.sa (by rw [List.length_replicate]; rfl)
    refine ⟨⟨hL7, ?_, ?_, ?_⟩, ?_, r6.keep (fun _ => rfl) rfl (fun i hi => ?_), ?_, t6, ?_, ?_, ?_, rg_0.1, by decide, rg_0.2⟩
    · exact (k2 1).2
    · exact (k2 2).1
    · intro i hi
      rw [ga_sa, if_neg (by omega), f6.2.2.1 1 (by unfold wTt; omega)]
      exact hB i hi
    · exact (k2 7).2
    · rw [ga_sa, if_neg (by omega)]
    · intro c hc
      rw [ga_sa, if_neg (by omega)]
      exact l6 c hc
    · intro i hi
      rw [ga_sa, if_neg (by omega), q6]
      exact hq i hi
    · intro i hi
      rw [ga_sa, if_pos rfl, rep_get hi]
      show _ = nI (A0 (9 + i))
      rw [show A0 (9 + i) = 0 from if_neg (by omega)]
      rfl
    · exact (k2 8).1
  have f0 : Fr (wRt t) S (sa S6 3 (List.replicate 5 0)) := by
    refine fr_sa (fr_tr (fr_sr (fr_sf (fr_sf (fr_sf (fr_sr fr_rf (Or.inl rfl)) (Or.inl rfl)) (Or.inl rfl)) (Or.inl rfl)) (Or.inl rfl)) f6 (fun k j z => Or.inr (Or.inr z))) (Or.inr (Or.inl rfl)) ?_
    rw [List.length_replicate, nD3 hL6]
  have g3 : gf (sa S6 3 (List.replicate 5 0)) 2 3 = nI 0 := (k2 3).1
  have eD : s_X4_reads t (nI n) S = s_X4_reads_L43 t 800 0 (sa S6 3 (List.replicate 5 0)) := by
    unfold s_X4_reads
    rw [pr_ok, sb, pf_ok, sb, pf_ok, sb, pf_ok, sb, pr_ok, sb, tl_ok (v := gr (sr (sf (sf (sf (sr S 2 1 (.ref 1)) 2 2 (nI n)) 2 3 0) 2 8 0) 2 7 (.ref t)) 2 7) (t := t) rfl ht, sb, e6, sb, wf_ok (nD3 hL6) (by omega), sb]
  obtain ⟨M6, eM, z6, fM⟩ := q_L32 (v := 0) 157 0 (sf (sf (sf (sf (sf M 137 0 0) 137 3 (nI n)) 137 2 0) 137 8 0) 137 4 0) 800 (by omega) (by omega) hLM (fun i hi => by omega)
  have hM0 : MJ (st M6 140 0 1) n B A0 := by
    have hLn : LnM M6 := LnM.fr (S := sf (sf (sf (sf (sf M 137 0 0) 137 3 (nI n)) 137 2 0) 137 8 0) 137 4 0) hLM fM
    refine ⟨⟨hLn.st, ?_, ?_⟩, ?_, ?_⟩
    · show gf M6 137 3 = _
      rw [(fM.1 137 3 (by unfold w40; omega)).1]
      rfl
    · intro i hi
      rw [gd_st (by omega), fM.2.2.1 138 (by unfold w40; omega)]
      exact hBM i hi
    · intro i hi
      unfold A0
      by_cases z : i = 0
      · subst z
        rw [if_pos rfl]
        exact gd_st_eq (nM140 hLn) (by omega)
      · rw [if_neg z, gd_st (by omega), z6 i hi]
        rfl
    · show gf M6 137 8 = _
      rw [(fM.1 137 8 (by unfold w40; omega)).1]
      rfl
  have h4 : gf (st M6 140 0 1) 137 4 = nI 0 := by
    show gf M6 137 4 = _
    rw [(fM.1 137 4 (by unfold w40; omega)).1]
    rfl
  obtain ⟨M7, a7, b7, c7, _⟩ := go_next hn (Nat.zero_le n) hM0 h4
  have eT : s_X8_text M = s_X8_text_L63 800 (nI 0) M7 := by
    unfold s_X8_text
    rw [pf_ok, sb, pf_ok, sb, pf_ok, sb, pf_ok, sb, pf_ok, sb]
    show s_X8_text_L32 0 800 0 (sf (sf (sf (sf (sf M 137 0 0) 137 3 (gf M 137 2)) 137 2 0) 137 8 0) 137 4 0) = _
    rw [h2, (show s_X8_text_L32 0 800 0 _ = _ from eM), w_at (i := 0) (x := 0) (n := n) (B := B) (A := fun _ => 0) ⟨⟨LnM.fr (S := sf (sf (sf (sf (sf M 137 0 0) 137 3 (nI n)) 137 2 0) 137 8 0) 137 4 0) hLM fM, by
        rw [(fM.1 137 3 (by unfold w40; omega)).1]
        rfl, fun i hi => by
        rw [fM.2.2.1 138 (by unfold w40; omega)]
        exact hBM i hi⟩, fun i hi => z6 i hi, by rw [(fM.1 137 8 (by unfold w40; omega)).1]; rfl⟩ rfl (by omega), sb, a7, sb]
    rfl
  have fm : Fr wTx M M7 := by
    obtain ⟨r7, e7, f7, _⟩ := q_go hn (Nat.zero_le n) hM0.1 h4
    rw [e7] at a7
    cases a7
    refine fr_tr (fr_st (fr_tr (fr_sf (fr_sf (fr_sf (fr_sf (fr_sf fr_rf ?_) ?_) ?_) ?_) ?_) fM ?_) ?_) f7 ?_
    · unfold wTx; omega
    · unfold wTx; omega
    · unfold wTx; omega
    · unfold wTx; omega
    · unfold wTx; omega
    · intro k j z
      unfold w40 at z
      unfold wTx
      omega
    · unfold wTx; omega
    · intro k j z
      unfold wg at z
      unfold wTx
      omega
  have g72 : gf M7 137 2 = 0 ∧ gf M7 137 8 = 0 := by
    obtain ⟨r7, e7, f7, _⟩ := q_go hn (Nat.zero_le n) hM0.1 h4
    rw [e7] at a7
    cases a7
    refine ⟨?_, ?_⟩
    · rw [(f7.1 137 2 (by unfold wg; omega)).1]
      show gf M6 137 2 = _
      rw [(fM.1 137 2 (by unfold w40; omega)).1]
      rfl
    · rw [(f7.1 137 8 (by unfold wg; omega)).1]
      show gf M6 137 8 = _
      rw [(fM.1 137 8 (by unfold w40; omega)).1]
      rfl
  rw [eD, eT]
  rcases j_loop (S0 := S) (M0 := M7) (B := B) ht hn (n - 0) 0 0 (sa S6 3 (List.replicate 5 0)) M7 A0 800 800 (by omega) (by omega) (by omega) hD g3 b7 c7 f0 fr_rf (by omega) (by omega) with ⟨S1, M1, A1, l1, x1, x2, hD1, hM1, f1, fm1⟩ | ⟨S1, M1, x1, x2, y1, y2, y3, f1, fm1⟩
  · obtain ⟨M8, e8, z8, f8⟩ := q_L108 (v := nI l1) 157 0 M1 800 (by omega) (by omega) hM1.1.1 (fun i hi => by omega)
    refine Or.inl ⟨S1, sf M8 137 14 0, A1, l1, x1, x2.trans e8, hD1, ?_, LnM.fr (S1 := M8) hM1.1.1 f8, ?_, ?_, ?_, ?_, f1⟩
    · intro i hi
      show (ga M8 139).getD i 0 = _
      rw [z8 i hi]
      exact hM1.2.1 i hi
    · intro i hi
      show B i < 256 ∧ (ga M8 138).getD i 0 = _
      rw [f8.2.2.1 138 (by unfold w39; omega)]
      exact hM1.1.2.2 i hi
    · rw [gf_sf, if_neg (by omega), (f8.1 137 2 (by unfold w39; omega)).1, (fm1.1 137 2 (by unfold wG; omega)).1]
      exact g72.1
    · rw [gf_sf, if_neg (by omega), (f8.1 137 8 (by unfold w39; omega)).1]
      exact hM1.2.2
    · rw [gf_sf, if_pos ⟨rfl, rfl⟩]
  · refine Or.inr ⟨S1, M1, x1, x2, y1, y2, y3, f1, b7.1.1.fr fm1, ?_, ?_, ?_, ?_, ?_⟩
    · intro i hi
      rw [fm1.2.2.1 138 (by unfold wG; omega)]
      exact b7.1.2.2 i hi
    · rw [(fm1.1 137 2 (by unfold wG; omega)).1]
      exact g72.1
    · rw [fm1.2.2.1 139 (by unfold wG; omega), fm.2.2.1 139 (by unfold wTx; omega)]
    · rw [fm1.2.2.1 141 (by unfold wG; omega), fm.2.2.1 141 (by unfold wTx; omega)]
    · rw [(fm1.1 137 14 (by unfold wG; omega)).1, (fm.1 137 14 (by unfold wTx; omega)).1]
