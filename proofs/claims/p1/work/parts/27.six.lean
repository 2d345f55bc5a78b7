set_option maxRecDepth 100000 in
theorem drop_pre (a b : Int32) : goTo (CF 20) k_dropP 20 10 0 (lv_args 0 [.ref 0, .int a, .int b]) [] h1 = some (lv_args 0 [.ref 0, .int a, .int b], [], h1) := by
  refine t_pure (by decide) rfl rfl ?_
  refine t_get (by decide) rfl q0_ rfl ?_
  refine t_pure (by decide) rfl rfl ?_
  refine t_callV (by decide) rfl rfl q22_ (Nat.le_of_ble_eq_true rfl) (x_hasD 19 a q22_) ?_
  show goTo _ _ _ _ _ _ [.int 0] _ = _
  refine t_if1 (by decide) rfl (pc' := 20) (by decide) ?_
  exact t_stop
set_option maxRecDepth 100000 in
theorem law6a {xs : Nat → Int32} : goTo (CF 30) (k_lawQ false 6 xs) 344 90 330 lv1 [] h1 = some (lv1, [.ref 151, .int (xs 2), .int (xs 1), .ref 0], h1) := by
  refine t_pure (by decide) rfl rfl ?_
  refine t_pure (by decide) rfl rfl ?_
  refine t_pure (by decide) rfl rfl ?_
  refine t_pure (by decide) rfl rfl ?_
  refine t_pure (by decide) rfl rfl ?_
  refine t_sld (by decide) rfl ix1 ?_
  rw [ie1]
  refine t_pure (by decide) rfl rfl ?_
  refine t_pure (by decide) rfl rfl ?_
  refine t_pure (by decide) rfl rfl ?_
  refine t_pure (by decide) rfl rfl ?_
  refine t_sld (by decide) rfl ix2 ?_
  rw [ie2]
  refine t_pure (by decide) rfl rfl ?_
  exact t_stop
def h1d : List AC := match CF 29 94 [.ref 137] h1 with
  | some q => q.2
  | none => []
set_option maxRecDepth 100000 in
theorem z_refuse : CF 29 94 [.ref 137] h1 = some (some (.int 0), h1d) := eqR_ok (by decide +kernel)
set_option maxRecDepth 100000 in
theorem z_thrown : CF 30 93 [.ref 137] h1d = some (some (.int 1), h1d) := eqR_ok (by decide +kernel)
theorem d137_ : ∃ gs, h1d[137]? = some (.inl (8, gs)) := is8_ok (by decide +kernel)
theorem h1d_len : h1d.length ≤ 1000 ∧ sl h1d ≤ 20000 := by decide +kernel
set_option maxRecDepth 100000 in
theorem law6b {xs : Nat → Int32} : run (CF 30) (k_lawQ false 6 xs) 200 347 lv1 [.int 1] h1 = some (some (.int 1), h1d) := by
  obtain ⟨gs, d137⟩ := d137_
  have em := m_drop (xs 1) (xs 2) q137_ q139_ z_refuse
  refine g_pure rfl rfl ?_
  refine g_pure rfl rfl ?_
  refine g_pure rfl rfl ?_
  refine g_pure rfl rfl ?_
  refine g_pure rfl rfl ?_
  refine g_pure rfl rfl ?_
  refine g_sld rfl ix1 ?_
  rw [ie1]
  refine g_pure rfl rfl ?_
  refine g_pure rfl rfl ?_
  refine g_pure rfl rfl ?_
  refine g_pure rfl rfl ?_
  refine g_sld rfl ix2 ?_
  rw [ie2]
  refine g_callV rfl rfl q137_ (Nat.le_of_ble_eq_true rfl) em ?_
  show run _ _ _ _ _ [.int 0] _ = _
  refine g_pure rfl rfl ?_
  refine g_pure rfl rfl ?_
  refine g_callV rfl rfl d137 (Nat.le_of_ble_eq_true rfl) z_thrown ?_
  show run _ _ _ _ _ [.int 1] _ = _
  refine g_pure rfl rfl ?_
  refine g_if2t rfl (by decide) ?_
  refine g_pure rfl rfl ?_
  refine g_if1t rfl (by decide) ?_
  refine g_pure rfl rfl ?_
  refine g_pure rfl rfl ?_
  refine g_pure rfl rfl ?_
  refine g_pure rfl rfl ?_
  refine g_pure rfl rfl ?_
  refine g_slen rfl ?_
  refine g_pure rfl rfl ?_
  refine g_pure rfl rfl ?_
  refine g_if2t rfl (by decide) ?_
  refine g_pure rfl rfl ?_
  exact g_retZ rfl (Or.inr rfl) rfl
set_option maxRecDepth 100000 in
theorem law_ops {xs : Nat → Int32} {j : Nat} (hj : j < 32) (h6 : j ≠ 6) (ej : xs 0 &&& 31 = nI j) : ∃ hm : List AC, run (CF 30) (k_lawQ false 6 xs) (0 + 90 + 12) 23 lv1 [] h1 = some (some (.int 1), hm) ∧ hm.length ≤ 1000 ∧ sl hm ≤ 20000 := by
  have hc : j = 0 ∨ j = 1 ∨ j = 2 ∨ j = 3 ∨ j = 4 ∨ j = 5 ∨ j = 7 ∨ j = 8 ∨ j = 9 ∨ j = 10 ∨ j = 11 ∨ j = 12 ∨ j = 13 ∨ j = 14 ∨ j = 15 ∨ j = 16 ∨ j = 17 ∨ j = 18 ∨ j = 19 ∨ j = 20 ∨ j = 21 ∨ j = 22 ∨ j = 23 ∨ j = 24 ∨ j = 25 ∨ j = 26 ∨ j = 27 ∨ j = 28 ∨ j = 29 ∨ j = 30 ∨ j = 31 := by omega
  rcases hc with rfl | rfl | rfl | rfl | rfl | rfl | rfl | rfl | rfl | rfl | rfl | rfl | rfl | rfl | rfl | rfl | rfl | rfl | rfl | rfl | rfl | rfl | rfl | rfl | rfl | rfl | rfl | rfl | rfl | rfl | rfl
  · obtain ⟨hm, hr, b1, b2⟩ := r_feed (xs := xs) (n := 0) (a_feed _ _ _ _ _)
    exact ⟨hm, law_head ej (by decide) hr, b1, b2⟩
  · obtain ⟨hm, hr, b1, b2⟩ := r_end (xs := xs) (n := 0) (a_end _)
    exact ⟨hm, law_head ej (by decide) hr, b1, b2⟩
  · obtain ⟨hm, hr, b1, b2⟩ := r_text (xs := xs) (n := 0) (a_text)
    exact ⟨hm, law_head ej (by decide) hr, b1, b2⟩
  · obtain ⟨hm, hr, b1, b2⟩ := r_fault (xs := xs) (n := 0) (a_fault)
    exact ⟨hm, law_head ej (by decide) hr, b1, b2⟩
  · obtain ⟨hm, hr, b1, b2⟩ := r_now (xs := xs) (n := 0) (a_now _)
    exact ⟨hm, law_head ej (by decide) hr, b1, b2⟩
  · obtain ⟨hm, hr, b1, b2⟩ := r_compartment (xs := xs) (n := 0) (a_compartment _ _)
    exact ⟨hm, law_head ej (by decide) hr, b1, b2⟩
  · obtain ⟨hm, hr, b1, b2⟩ := r_may (xs := xs) (n := 0) (a_may _ _)
    exact ⟨hm, law_head ej (by decide) hr, b1, b2⟩
  · obtain ⟨hm, hr, b1, b2⟩ := r_would (xs := xs) (n := 0) (a_would _ _ _)
    exact ⟨hm, law_head ej (by decide) hr, b1, b2⟩
  · obtain ⟨hm, hr, b1, b2⟩ := r_orders (xs := xs) (n := 0) (a_orders)
    exact ⟨hm, law_head ej (by decide) hr, b1, b2⟩
  · obtain ⟨hm, hr, b1, b2⟩ := r_ordered (xs := xs) (n := 0) (a_ordered _)
    exact ⟨hm, law_head ej (by decide) hr, b1, b2⟩
  · obtain ⟨hm, hr, b1, b2⟩ := r_without (xs := xs) (n := 0) (a_without _)
    exact ⟨hm, law_head ej (by decide) hr, b1, b2⟩
  · obtain ⟨hm, hr, b1, b2⟩ := r_plan (xs := xs) (n := 0) (a_plan _)
    exact ⟨hm, law_head ej (by decide) hr, b1, b2⟩
  · obtain ⟨hm, hr, b1, b2⟩ := r_washes (xs := xs) (n := 0) (a_washes)
    exact ⟨hm, law_head ej (by decide) hr, b1, b2⟩
  · obtain ⟨hm, hr, b1, b2⟩ := r_asks (xs := xs) (n := 0) (a_asks _ _)
    exact ⟨hm, law_head ej (by decide) hr, b1, b2⟩
  · obtain ⟨hm, hr, b1, b2⟩ := r_cancel (xs := xs) (n := 0) (a_cancel _)
    exact ⟨hm, law_head ej (by decide) hr, b1, b2⟩
  · obtain ⟨hm, hr, b1, b2⟩ := r_put (xs := xs) (n := 0) (a_put _ _)
    exact ⟨hm, law_head ej (by decide) hr, b1, b2⟩
  · obtain ⟨hm, hr, b1, b2⟩ := r_load (xs := xs) (n := 0) (a_load)
    exact ⟨hm, law_head ej (by decide) hr, b1, b2⟩
  · obtain ⟨hm, hr, b1, b2⟩ := r_unload (xs := xs) (n := 0) (a_unload _ _)
    exact ⟨hm, law_head ej (by decide) hr, b1, b2⟩
  · obtain ⟨hm, hr, b1, b2⟩ := r_empty (xs := xs) (n := 0) (a_empty _)
    exact ⟨hm, law_head ej (by decide) hr, b1, b2⟩
  · obtain ⟨hm, hr, b1, b2⟩ := r_wash (xs := xs) (n := 0) (a_wash _)
    exact ⟨hm, law_head ej (by decide) hr, b1, b2⟩
  · obtain ⟨hm, hr, b1, b2⟩ := r_undo (xs := xs) (n := 0) (a_undo)
    exact ⟨hm, law_head ej (by decide) hr, b1, b2⟩
  · exact ⟨h1, law_head ej (t := 797) (by decide) (law_tail (n := 70) rfl), by rw [h1_len]; decide, Nat.le_trans h1_sl (by decide)⟩
  · exact ⟨h1, law_head ej (t := 797) (by decide) (law_tail (n := 70) rfl), by rw [h1_len]; decide, Nat.le_trans h1_sl (by decide)⟩
  · exact ⟨h1, law_head ej (t := 797) (by decide) (law_tail (n := 70) rfl), by rw [h1_len]; decide, Nat.le_trans h1_sl (by decide)⟩
  · exact ⟨h1, law_head ej (t := 797) (by decide) (law_tail (n := 70) rfl), by rw [h1_len]; decide, Nat.le_trans h1_sl (by decide)⟩
  · exact ⟨h1, law_head ej (t := 797) (by decide) (law_tail (n := 70) rfl), by rw [h1_len]; decide, Nat.le_trans h1_sl (by decide)⟩
  · exact ⟨h1, law_head ej (t := 797) (by decide) (law_tail (n := 70) rfl), by rw [h1_len]; decide, Nat.le_trans h1_sl (by decide)⟩
  · exact ⟨h1, law_head ej (t := 797) (by decide) (law_tail (n := 70) rfl), by rw [h1_len]; decide, Nat.le_trans h1_sl (by decide)⟩
  · exact ⟨h1, law_head ej (t := 797) (by decide) (law_tail (n := 70) rfl), by rw [h1_len]; decide, Nat.le_trans h1_sl (by decide)⟩
  · exact ⟨h1, law_head ej (t := 797) (by decide) (law_tail (n := 70) rfl), by rw [h1_len]; decide, Nat.le_trans h1_sl (by decide)⟩
  · exact ⟨h1, law_head ej (t := 797) (by decide) (law_tail (n := 70) rfl), by rw [h1_len]; decide, Nat.le_trans h1_sl (by decide)⟩
