/-! now -/
theorem e_now {S M : HS} {t : Nat} {A : Nat → Nat} {a : Int32} (h : FS S M t A) (hk : gf S 30 2 = gf M 137 14) (hp : gf S 0 1 = gf M 137 2) (hbar : ∀ M', LnM M' → RMt M' 139 A → ∃ v, s_J13_bitCount_95d88 (gl S t) = some v ∧ s_X8_bars M' = some v) : ∃ v M1, s_X7_now a S = some v ∧ s_X8_now a M = some (v, M1) := by
  have h := h.thrown (x := 0)
  obtain ⟨M', e, f, hLM', hM', hPL, hRP, h144⟩ := fs_paper h
  have h' := h
  obtain ⟨hL, hLM, hr, ht, hT, ⟨h13, h14, hC, hF⟩, hM, hW⟩ := h'
  have h5 := hW.1.1
  have hf0 : ∀ i, i < 157 → fM M' i = nI (A i) := hM'
  have hG : RG M' (A 9) 0 0 := rgz h5 (fun c hc => ⟨h144 c hc, hW.o20 (by omega)⟩)
  obtain ⟨x, y, z, ex1, ex2, ey1, ey2, ez1, ez2⟩ := e_front h hLM' hM' hPL hRP hG
  obtain ⟨w, ew1, ew2⟩ := hbar M' hLM' hM'
  have k14 : gf M' 137 14 = gf M 137 14 := (f.1 137 14 (by unfold wN; omega)).1
  have k2 : gf M' 137 2 = gf M 137 2 := (f.1 137 2 (by unfold wN; omega)).1
  unfold s_X7_now s_X8_now
  rw [pf_ok, sb, e, sb]
  by_cases c0 : a = 0
  · rw [if_pos c0, if_pos c0, tl_ok hr ht, sb, m_at hLM' (x := 9) (i := 9) rfl (by omega), sbM, hf0 9 (by omega), hT.1]
    exact ⟨_, _, rfl, rfl⟩
  rw [if_neg c0, if_neg c0]
  by_cases c1 : a = 1
  · rw [if_pos c1, if_pos c1, tl_ok hr ht, sb, m_at hLM' (x := 10) (i := 10) rfl (by omega), sbM, hf0 10 (by omega), hT.2.1]
    exact ⟨_, _, rfl, rfl⟩
  rw [if_neg c1, if_neg c1]
  by_cases c2 : a = 2
  · rw [if_pos c2, if_pos c2, m_at hLM' (x := 13) (i := 13) rfl (by omega), sbM, hf0 13 (by omega), h13]
    exact ⟨_, _, rfl, rfl⟩
  rw [if_neg c2, if_neg c2]
  by_cases c3 : a = 3
  · rw [if_pos c3, if_pos c3, tl_ok hr ht, sb, ew1, sbI, ew2, sbM]
    exact ⟨_, _, rfl, rfl⟩
  rw [if_neg c3, if_neg c3]
  by_cases c4 : a = 4
  · rw [if_pos c4, if_pos c4, tl_ok hr ht, sb, ex1, sbI, ex2, sbM]
    exact ⟨_, _, rfl, rfl⟩
  rw [if_neg c4, if_neg c4]
  by_cases c5 : a = 5
  · rw [if_pos c5, if_pos c5, tl_ok hr ht, sb, ey1, sbI, ey2, sbM]
    exact ⟨_, _, rfl, rfl⟩
  rw [if_neg c5, if_neg c5]
  by_cases c6 : a = 6
  · rw [if_pos c6, if_pos c6, tl_ok hr ht, sb, ez1, sbI, ez2, sbM]
    exact ⟨_, _, rfl, rfl⟩
  rw [if_neg c6, if_neg c6]
  by_cases c7 : a = 7
  · rw [if_pos c7, if_pos c7, m_at hLM' (x := 14) (i := 14) rfl (by omega), sbM, hf0 14 (by omega), h14]
    exact ⟨_, _, rfl, rfl⟩
  rw [if_neg c7, if_neg c7]
  by_cases c8 : a = 8
  · rw [if_pos c8, if_pos c8, k14, hk]
    exact ⟨_, _, rfl, rfl⟩
  rw [if_neg c8, if_neg c8]
  by_cases c9 : a = 9
  · rw [if_pos c9, if_pos c9, k2, hp]
    exact ⟨_, _, rfl, rfl⟩
  rw [if_neg c9, if_neg c9]
  exact ⟨_, _, rfl, rfl⟩
