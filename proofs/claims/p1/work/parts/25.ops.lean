set_option maxRecDepth 100000 in
theorem a_end (c : Int32) : Agree 70 99 [.int c] h1 := by
  by_cases h : c = 0
  · subst h
    exact chk_ok (by decide +kernel)
  · exact agree_h (x_end 29 c q0_ h) (m_end 29 c q137_ h)
theorem a_now (c : Int32) : Agree 73 140 [.int c] h1 := by
  rcases i32_or c 10 (by decide) with ⟨j, hj, rfl⟩ | h
  · have : j = 0 ∨ j = 1 ∨ j = 2 ∨ j = 3 ∨ j = 4 ∨ j = 5 ∨ j = 6 ∨ j = 7 ∨ j = 8 ∨ j = 9 := by omega
    rcases this with rfl | rfl | rfl | rfl | rfl | rfl | rfl | rfl | rfl | rfl
    · exact a_now0
    · exact a_now1
    · exact a_now2
    · exact a_now3
    · exact a_now4
    · exact a_now5
    · exact a_now6
    · exact a_now7
    · exact a_now8
    · exact a_now9
  · exact agree_h (x_now 29 c q0_ h) (m_now c (h2 := h1) h q137_ z_lays)
theorem a_compartment (a : Int32) (b : Int32) : Agree 74 142 [.int a, .int b] h1 := agree_h (x_compartment 28 a b q0_ q4_) (m_compartment 27 a b q137_ q139_)
theorem a_may (a : Int32) (b : Int32) : Agree 76 144 [.int a, .int b] h1 := agree_h (x_may 28 a b q0_ q4_) (m_may 27 a b q137_ q139_)
theorem a_would (a : Int32) (b : Int32) (c : Int32) : Agree 77 145 [.int a, .int b, .int c] h1 := agree_h (x_would 28 a b c q0_ q4_) (m_would 27 a b c q137_ q139_)
theorem a_without (a : Int32) : Agree 80 148 [.int a] h1 := agree_h (x_without 27 a q0_ q22_) (m_without 27 a q137_ q139_)
theorem a_asks (a : Int32) (b : Int32) : Agree 83 156 [.int a, .int b] h1 := agree_h (x_asks 28 a b q0_ q4_) (m_asks 27 a b q137_ q139_)
theorem a_cancel (a : Int32) : Agree 84 157 [.int a] h1 := agree_h (x_cancel 27 a q0_ q22_) (m_cancel 27 a q137_ q139_)
theorem a_put (a : Int32) (b : Int32) : Agree 85 159 [.int a, .int b] h1 := agree_h (x_put 28 a b q0_ q4_) (m_put 27 a b q137_ q139_)
theorem a_unload (a : Int32) (b : Int32) : Agree 87 162 [.int a, .int b] h1 := agree_h (x_unload 27 a b q0_ q22_) (m_unload 27 a b q137_ q139_)
theorem a_empty (a : Int32) : Agree 88 163 [.int a] h1 := agree_h (x_empty 28 a q0_ q4_) (m_empty 27 a q137_ q139_)
theorem a_wash (a : Int32) : Agree 89 164 [.int a] h1 := agree_h (x_wash 28 a q0_ q4_) (m_wash 27 a q137_ q139_)
theorem a_plan (c : Int32) : Agree 81 153 [.int c] h1 := by
  rcases i32_or c 2 (by decide) with ⟨j, hj, rfl⟩ | h
  · have : j = 0 ∨ j = 1 := by omega
    rcases this with rfl | rfl
    · exact a_plan0
    · exact a_plan1
  · have hn0 : c.toInt ≠ 0 := by omega
    have hn1 : c.toInt ≠ 1 := by omega
    exact ⟨-1, h2p, h2p, MF, x_plan c hn0 hn1 q0_ q121_ p0_ p4_ z_plan, m_plan c (h2 := h2p) hn0 hn1 p137_ p139_, p137_, h2p_len.1, h2p_len.2⟩
theorem a_ordered (c : Int32) : Agree 79 147 [.int c] h1 :=
  ⟨-1, h2o, h2o, MF, x_ordered c q0_ q22_ q117_ o0_ o117_ z_count, m_ordered c (h2 := h2o) o137_ y_lays y_aboard y_of, o137_, h2o_len.1, h2o_len.2⟩
theorem a_feed (a b c d e : Int32) : Agree 69 98 [.int a, .int b, .int c, .int d, .int e] h1 := by
  have hl : (138 : Nat) < h1.length := by rw [h1_len]; decide
  obtain ⟨ys, l1, e1⟩ := x_feed a b c d e (h := h1) (xs := List.replicate 740 0) (fs := DF) (by omega) (by decide) rfl List.length_replicate
  rw [show NN h1 0 1 7 1 (List.replicate 740 0) (DF.set 1 (.int 0)) = h1 from NN_id q0_ q1_ (by decide)] at e1
  generalize hT : (DF.set 1 (.int (o_iadd (o_iadd (o_iadd (o_iadd (o_iadd (o_iadd (o_iadd (o_iadd (o_iadd (o_iadd (o_iadd (o_iadd (o_iadd (o_iadd (o_iadd (o_iadd (o_iadd (o_iadd (o_iadd (o_iadd 0 1) 1) 1) 1) 1) 1) 1) 1) 1) 1) 1) 1) 1) 1) 1) 1) 1) 1) 1) 1))) = DF2 at e1
  have hD2 : DF2.length = DF.length := by rw [← hT, List.length_set]
  have hx137 : (NN h1 0 1 7 1 ys DF2)[137]? = some (.inl (8, MF)) := by rw [NN_k (by decide) (by decide)]; exact q137_
  have hx138 : (NN h1 0 1 7 1 ys DF2)[138]? = some (.inr (0, .inl (List.replicate 740 0))) := by rw [NN_k (by decide) (by decide)]; exact q138_
  obtain ⟨zs, l2, e2⟩ := m_feed a b c d e (h := NN h1 0 1 7 1 ys DF2) (xs := List.replicate 740 0) (fs := MF) (by rw [NN_len]; exact hl) (by decide) rfl rfl List.length_replicate
  rw [show NN (NN h1 0 1 7 1 ys DF2) 137 138 8 0 (List.replicate 740 0) (MF.set 2 (.int 0)) = NN h1 0 1 7 1 ys DF2 from NN_id hx137 hx138 (by decide)] at e2
  refine ⟨20, _, _, MF, e1, e2, hx137, ?_, ?_⟩
  · rw [NN_len, NN_len, h1_len]
    decide
  · rw [NN_sl hx137 hx138 (by decide) (List.length_set ..) (by rw [l2, List.length_replicate]), NN_sl q0_ q1_ (by decide) hD2 (by rw [l1, List.length_replicate])]
    exact Nat.le_trans h1_sl (by decide)
