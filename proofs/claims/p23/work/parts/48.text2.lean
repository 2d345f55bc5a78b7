/-! text, both sides -/
theorem iv_sr4 {S : HS} {t : Nat} (h : IvD S) (ht : isT t) : IvD (sr S 0 4 (.ref t)) := by
  obtain ⟨a, b, c, d, e⟩ := h
  refine ⟨a, b, ⟨t, ht, ?_⟩, ?_, e⟩
  · rw [gr_sr, if_pos ⟨rfl, rfl⟩]
  · rw [gr_sr, if_neg (by omega)]
    exact d
theorem iv_sr5 {S : HS} {t : Nat} (h : IvD S) (ht : isT t) : IvD (sr S 0 5 (.ref t)) := by
  obtain ⟨a, b, c, d, e⟩ := h
  refine ⟨a, b, ?_, ⟨t, ht, ?_⟩, e⟩
  · rw [gr_sr, if_neg (by omega)]
    exact c
  · rw [gr_sr, if_pos ⟨rfl, rfl⟩]
def wTf (t k j : Nat) : Prop := wRt t k j ∨ (k = 0 ∧ (j = 1 ∨ j = 2))
/-- a new text is told -/
def NewT (S1 M1 : HS) (A : Nat → Nat) (t u : Nat) : Prop := isT t ∧ isT u ∧ gr S1 0 4 = .ref t ∧ gr S1 0 5 = .ref u ∧ RDt S1 t A ∧ RgA A ∧ A 13 ≤ 4 ∧ Zs A ∧ (∀ c, c < 5 → (ga S1 24).getD c 0 = 0 ∧ (ga S1 27).getD c 0 = 0 ∧ (ga S1 25).getD c 0 = -1) ∧ (∀ c, c < 5 → (ga S1 26).getD c 0 = dn (A (32 + 6 * c))) ∧ gf S1 22 1 = nI (A 13) ∧ (∀ d, d < A 13 → (ga S1 28).getD d 0 = 0 ∧ (ga S1 29).getD d 0 = 0) ∧ gf S1 22 4 = 0 ∧ gf S1 30 2 = nI 0 ∧ RMt M1 139 A ∧ gf M1 137 14 = 0
theorem j_text {S M : HS} (hI : IvD S) (hT : TR S M) : ∃ v S1 M1, s_X7_text S = some (v, S1) ∧ s_X8_text M = some (v, M1) ∧ IvD S1 ∧ TR S1 M1 ∧ gf S1 0 2 = gf M1 137 8 ∧ ((∃ A t u, gr S 0 5 = .ref t ∧ gr S 0 4 = .ref u ∧ NewT S1 M1 A t u) ∨ (∃ t, isT t ∧ gr S 0 5 = .ref t ∧ Fr (wTf t) S S1 ∧ ga M1 139 = ga M 139 ∧ ga M1 141 = ga M 141 ∧ gf M1 137 14 = gf M 137 14)) := by
  obtain ⟨B, n, hn, hL, hLM, h1, h2, hB, hBM⟩ := hT
  obtain ⟨t, ht, hr⟩ := hI.2.2.2.1
  obtain ⟨u, hu, hru⟩ := hI.2.2.1
  have hnt := isT_num ht
  have hnu := isT_num hu
  have hq : Lq S t := (hI.2.2.2.2.1 t ht).2.2.2
  unfold s_X7_text
  rw [tl_ok hr ht, sb, h1]
  rcases j_reads hL hq ht hn hB hLM hBM h2 with ⟨S1, M1, A1, l1, x1, x2, hD, m1, m2, m3, m4, m5, m6, f1⟩ | ⟨S1, M1, x1, x2, y1, y2, y3, f1, m2, m3, m4, m5, m6, m7⟩
  · have hI1 : IvD S1 := iv_reads hI ht f1 (iv_dj hD)
    have hr1 : gr S1 0 5 = .ref t := by
      rw [(f1.1 0 5 (by unfold wRt; omega)).2]
      exact hr
    have hru1 : gr S1 0 4 = .ref u := by
      rw [(f1.1 0 4 (by unfold wRt; omega)).2]
      exact hru
    have hI2 : IvD (sf S1 0 1 0) := iv_tp (n := 0) hI1 (by omega)
    have hI3 : IvD (sf (sf S1 0 1 0) 0 2 0) := iv_sf hI2 (by omega) (by omega) (by omega) (by omega)
    have hI4 : IvD (sr (sr (sf (sf S1 0 1 0) 0 2 0) 0 4 (.ref t)) 0 5 (.ref u)) := iv_sr5 (iv_sr4 hI3 ht) hu
    have h9 : gf (sr (sr (sf (sf S1 0 1 0) 0 2 0) 0 4 (.ref t)) 0 5 (.ref u)) t 9 = nI (A1 13) := by
      show gf (sf (sf S1 0 1 0) 0 2 0) t 9 = _
      rw [gf_sf, if_neg (by omega), gf_sf, if_neg (by omega)]
      exact hD.2.2.2.2.1
    obtain ⟨S5, e5, i5, f5, c1, c2, c3, c4, c5⟩ := w_begin hI4 ht h9 hD.2.2.2.2.2.2.2.2.2.1
    have hI6 : IvD (sf S5 30 2 0) := iv_h2 (n := 0) i5 (by omega)
    have k5 : ∀ k j, ¬ wS 22 k j → gf S5 k j = gf (sr (sr (sf (sf S1 0 1 0) 0 2 0) 0 4 (.ref t)) 0 5 (.ref u)) k j ∧ gr S5 k j = gr (sr (sr (sf (sf S1 0 1 0) 0 2 0) 0 4 (.ref t)) 0 5 (.ref u)) k j := f5.1
    have e : (Option.bind (s_X4_reads t (nI n) S) fun q2 => Option.bind (pf q2.2 0 1 (0 : Int32)) fun S3 => if q2.1 = (0 : Int32) then s_X7_text_J41 q2.1 (gf S3 2 9) S3 else s_X7_text_J41 q2.1 (0 : Int32) S3) = some (nI l1, sf S5 30 2 0) := by
      rw [x1, sb, pf_ok, sb]
      dsimp only
      rw [if_neg (by decide)]
      unfold s_X7_text_J41 s_X1_forget
      rw [pf_ok, sb, if_pos (by decide), tl_ok (v := gr (sf (sf S1 0 1 0) 0 2 0) 0 4) hru1 hu, sb, tl_ok (v := gr (sf (sf S1 0 1 0) 0 2 0) 0 5) hr1 ht, sb, pr_ok, sb, pr_ok, sb, tl_ok (v := gr (sr (sr (sf (sf S1 0 1 0) 0 2 0) 0 4 (.ref t)) 0 5 (.ref u)) 0 4) (t := t) rfl ht, sb, e5, sb, pf_ok, sb, sb]
      rw [gf_sf, if_neg (by omega), (k5 2 8 (by unfold wS; omega)).1]
      show some (gf (sf (sf S1 0 1 0) 0 2 0) 2 8, _) = _
      rw [gf_sf, if_neg (by omega), gf_sf, if_neg (by omega), hD.2.2.2.2.2.2.2.1]
    refine ⟨nI l1, sf S5 30 2 0, M1, e, x2, hI6, ⟨B, 0, by omega, hI6.1, m2, ?_, m4, ?_, m3⟩, ?_, Or.inl ⟨A1, t, u, hr, hru, ht, hu, ?_, ?_, ?_, hD.2.2.2.2.2.2.2.2.1, hD.2.2.2.2.2.2.2.2.2.1, hD.2.2.2.2.2.2.2.2.2.2, c1, ?_, ?_, c4, ?_, rfl, m1, m6⟩⟩
    · rw [gf_sf, if_neg (by omega), (k5 0 1 (by unfold wS; omega)).1]
      show gf (sf (sf S1 0 1 0) 0 2 0) 0 1 = _
      rw [gf_sf, if_neg (by omega), gf_sf, if_pos ⟨rfl, rfl⟩]
      rfl
    · intro i hi
      show B i < 256 ∧ (ga S5 1).getD i 0 = _
      rw [f5.2.2.1 1 (by unfold wS; omega)]
      exact hD.1.2.2.2 i hi
    · rw [gf_sf, if_neg (by omega), (k5 0 2 (by unfold wS; omega)).1, m5]
      rfl
    · show gr S5 0 4 = _
      rw [(k5 0 4 (by unfold wS; omega)).2]
      rfl
    · show gr S5 0 5 = _
      rw [(k5 0 5 (by unfold wS; omega)).2]
      rfl
    · refine hD.2.2.1.keep (fun j => ?_) ?_ (fun i hi => ?_)
      · rw [gf_sf, if_neg (by omega), (k5 t j (by unfold wS; omega)).1]
        show gf (sf (sf S1 0 1 0) 0 2 0) t j = _
        rw [gf_sf, if_neg (by omega), gf_sf, if_neg (by omega)]
      · show gl S5 t = _
        rw [f5.2.1 t (by unfold wS; omega)]
        rfl
      · show ga S5 (t + i) = _
        rw [f5.2.2.1 (t + i) (by unfold wS; omega)]
        rfl
    · intro c hc
      show (ga S5 26).getD c 0 = _
      rw [c2]
      exact hD.2.2.2.1 c hc
    · rw [gf_sf, if_neg (by omega), c3]
    · rw [gf_sf, if_neg (by omega), c5]
  · have hI1 : IvD S1 := iv_reads hI ht f1 y3
    have hI2 : IvD (sf S1 0 1 0) := iv_tp (n := 0) hI1 (by omega)
    have hI3 : IvD (sf (sf S1 0 1 0) 0 2 (gf S1 2 9)) := iv_sf hI2 (by omega) (by omega) (by omega) (by omega)
    have e : (Option.bind (s_X4_reads t (nI n) S) fun q2 => Option.bind (pf q2.2 0 1 (0 : Int32)) fun S3 => if q2.1 = (0 : Int32) then s_X7_text_J41 q2.1 (gf S3 2 9) S3 else s_X7_text_J41 q2.1 (0 : Int32) S3) = some (-1 - gf M1 137 9, sf (sf S1 0 1 0) 0 2 (gf S1 2 9)) := by
      rw [x1, sb, pf_ok, sb]
      dsimp only
      rw [if_pos rfl]
      unfold s_X7_text_J41
      rw [pf_ok, sb, if_neg (by decide), gf_sf, if_neg (by omega), gf_sf, if_neg (by omega), gf_sf, if_neg (by omega), y2]
    refine ⟨_, _, M1, e, x2, hI3, ⟨B, 0, by omega, hI3.1, m2, ?_, m4, ?_, m3⟩, ?_, Or.inr ⟨t, ht, hr, ?_, m5, m6, m7⟩⟩
    · rw [gf_sf, if_neg (by omega), gf_sf, if_pos ⟨rfl, rfl⟩]
      rfl
    · intro i hi
      show B i < 256 ∧ (ga S1 1).getD i 0 = _
      rw [f1.2.2.1 1 (by unfold wRt; omega)]
      exact hB i hi
    · rw [gf_sf, if_pos ⟨rfl, rfl⟩, y1]
    · exact fr_sf (fr_sf (fr_tr fr_rf f1 (fun k j z => Or.inl z)) (Or.inr ⟨rfl, Or.inl rfl⟩)) (Or.inr ⟨rfl, Or.inr rfl⟩)
