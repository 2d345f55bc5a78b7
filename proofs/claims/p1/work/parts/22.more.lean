abbrev PF : List Value := [.ref 122, .ref 126, .null, .null, .int 0, .int 0, .ref 131, .ref 132, .ref 133, .ref 134, .int 0, .int 0, .int 0, .int 0, .int 0, .int 0, .ref 135, .ref 136]
set_option maxRecDepth 100000 in
theorem m_now (c : Int32) {h h2 : List AC} (hsw : c.toInt < 0 ∨ 0 + 10 ≤ c.toInt) (q137 : h[137]? = some (.inl (8, MF))) (z : CF 29 132 [.ref 137] h = some (none, h)) : CF 30 140 [.ref 137, .int c] h = some (some (.int (-100000000)), h) := by
  refine callD_of (k_X8_now false) rfl (Nat.le_of_ble_eq_true rfl) ?_
  refine g_pure rfl rfl ?_
  refine g_pure rfl rfl ?_
  refine g_put0 rfl q137 rfl rfl ?_
  refine g_pure rfl rfl ?_
  refine g_callV rfl rfl q137 (Nat.le_of_ble_eq_true rfl) (z) ?_
  show run _ _ _ _ _ [] _ = _
  refine g_pure rfl rfl ?_
  refine g_swd rfl hsw ?_
  refine g_pure rfl rfl ?_
  exact g_retI rfl rfl
set_option maxRecDepth 100000 in
theorem m_drop (a : Int32) (b : Int32) {h h2 : List AC} (q137 : h[137]? = some (.inl (8, MF))) (q139 : h[139]? = some (.inr (0, .inl NW))) (z : CF 29 94 [.ref 137] h = some (some (.int 0), h2)) : CF 30 143 [.ref 137, .int a, .int b] h = some (some (.int 0), h2) := by
  refine callD_of (k_X8_drop false) rfl (Nat.le_of_ble_eq_true rfl) ?_
  refine g_pure rfl rfl ?_
  refine g_pure rfl rfl ?_
  refine g_put0 rfl q137 rfl rfl ?_
  refine g_pure rfl rfl ?_
  refine g_pure rfl rfl ?_
  refine g_callV rfl rfl q137 (Nat.le_of_ble_eq_true rfl) (m_isDrop 27 a q137 q139) ?_
  show run _ _ _ _ _ [.int 0] _ = _
  refine g_if1t rfl (by decide) ?_
  refine g_pure rfl rfl ?_
  refine g_callV rfl rfl q137 (Nat.le_of_ble_eq_true rfl) (z) ?_
  show run _ _ _ _ _ [.int 0] _ = _
  exact g_retI rfl rfl
set_option maxRecDepth 100000 in
theorem x_plan (c : Int32) {h h2 : List AC} (hn0 : c.toInt ≠ 0) (hn1 : c.toInt ≠ 1) (q0 : h[0]? = some (.inl (7, DF))) (q121 : h[121]? = some (.inl (3, PF))) (p0 : h2[0]? = some (.inl (7, DF))) (p4 : h2[4]? = some (.inl (6, OF))) (z : CF 29 25 [.ref 121, .ref 4, .ref 22] h = some (some (.int 1), h2)) : CF 30 81 [.ref 0, .int c] h = some (some (.int (-1)), h2) := by
  refine callD_of (k_X7_plan false) rfl (Nat.le_of_ble_eq_true rfl) ?_
  refine g_pure rfl rfl ?_
  refine g_get rfl q0 rfl ?_
  refine g_pure rfl rfl ?_
  refine g_get rfl q0 rfl ?_
  refine g_pure rfl rfl ?_
  refine g_get rfl q0 rfl ?_
  refine g_callV rfl rfl q121 (Nat.le_of_ble_eq_true rfl) (z) ?_
  show run _ _ _ _ _ [.int 1] _ = _
  refine g_if1t rfl (by decide) ?_
  refine g_pure rfl rfl ?_
  refine g_if1 rfl (fun hc1 => ?_) (fun hc1 => ?_)
  · skip
    refine g_pure rfl rfl ?_
    refine g_pure rfl rfl ?_
    refine g_if2 rfl (fun hc2 => ?_) (fun hc2 => ?_)
    · skip
      refine g_pure rfl rfl ?_
      refine g_pure rfl rfl ?_
      refine g_if2 rfl (fun hc3 => ?_) (fun hc3 => ?_)
      · skip
        refine g_pure rfl rfl ?_
        refine g_pure rfl rfl ?_
        refine g_if2 rfl (fun hc4 => ?_) (fun hc4 => ?_)
        · skip
          refine g_pure rfl rfl ?_
          exact g_retI rfl rfl
        · skip
          exfalso
          have kk0 : (0 : Int32).toInt = 0 := by decide
          have kk1 : (1 : Int32).toInt = 1 := by decide
          have kk10 : (10 : Int32).toInt = 10 := by decide
          have kk20 : (20 : Int32).toInt = 20 := by decide
          simp only [b1_lt, b1_le, b1_gt, b1_ge, b1_eq, b1_ne, b2_lt, b2_le, b2_gt, b2_ge, b2_eq, b2_ne, decide_eq_true_eq, decide_eq_false_iff_not, Int32.lt_iff_toInt_lt, Int32.le_iff_toInt_le, Int32.not_lt, Int32.not_le, ne_eq, Decidable.not_not, ← Int32.toInt_inj, kk0, kk1, kk10, kk20] at hc1 hc2 hc3 hc4
          omega
      · skip
        refine g_pure rfl rfl ?_
        refine g_get rfl p0 rfl ?_
        refine g_pure rfl rfl ?_
        refine g_pure rfl rfl ?_
        refine g_pure rfl rfl ?_
        refine g_callV rfl rfl p4 (Nat.le_of_ble_eq_true rfl) (x_hasC 28 (o_isub c 10) p4) ?_
        show run _ _ _ _ _ [.int 0] _ = _
        refine g_if1t rfl (by decide) ?_
        refine g_pure rfl rfl ?_
        refine g_pure rfl rfl ?_
        refine g_if2 rfl (fun hc5 => ?_) (fun hc5 => ?_)
        · skip
          refine g_pure rfl rfl ?_
          exact g_retI rfl rfl
        · skip
          refine g_pure rfl rfl ?_
          refine g_get rfl p0 rfl ?_
          refine g_pure rfl rfl ?_
          refine g_pure rfl rfl ?_
          refine g_pure rfl rfl ?_
          refine g_callV rfl rfl p4 (Nat.le_of_ble_eq_true rfl) (x_hasC 28 (o_isub c 20) p4) ?_
          show run _ _ _ _ _ [.int 0] _ = _
          refine g_if1t rfl (by decide) ?_
          refine g_pure rfl rfl ?_
          exact g_retI rfl rfl
    · skip
      exfalso
      have kk0 : (0 : Int32).toInt = 0 := by decide
      have kk1 : (1 : Int32).toInt = 1 := by decide
      have kk10 : (10 : Int32).toInt = 10 := by decide
      have kk20 : (20 : Int32).toInt = 20 := by decide
      simp only [b1_lt, b1_le, b1_gt, b1_ge, b1_eq, b1_ne, b2_lt, b2_le, b2_gt, b2_ge, b2_eq, b2_ne, decide_eq_true_eq, decide_eq_false_iff_not, Int32.lt_iff_toInt_lt, Int32.le_iff_toInt_le, Int32.not_lt, Int32.not_le, ne_eq, Decidable.not_not, ← Int32.toInt_inj, kk0, kk1, kk10, kk20] at hc1 hc2
      omega
  · skip
    exfalso
    have kk0 : (0 : Int32).toInt = 0 := by decide
    have kk1 : (1 : Int32).toInt = 1 := by decide
    have kk10 : (10 : Int32).toInt = 10 := by decide
    have kk20 : (20 : Int32).toInt = 20 := by decide
    simp only [b1_lt, b1_le, b1_gt, b1_ge, b1_eq, b1_ne, b2_lt, b2_le, b2_gt, b2_ge, b2_eq, b2_ne, decide_eq_true_eq, decide_eq_false_iff_not, Int32.lt_iff_toInt_lt, Int32.le_iff_toInt_le, Int32.not_lt, Int32.not_le, ne_eq, Decidable.not_not, ← Int32.toInt_inj, kk0, kk1, kk10, kk20] at hc1
    omega
theorem m_in01 (d : Nat) (c : Int32) {h : List AC} (hn0 : c.toInt ≠ 0) (hn1 : c.toInt ≠ 1) : CF (d + 1) 95 [.int c, .int 0, .int 1] h = some (some (.int 0), h) := by
  refine callD_of (k_X8_isIn false) rfl (Nat.le_of_ble_eq_true rfl) ?_
  refine g_pure rfl rfl ?_
  refine g_pure rfl rfl ?_
  refine g_if2 rfl (fun hc1 => ?_) (fun hc1 => ?_)
  · skip
    refine g_pure rfl rfl ?_
    exact g_retZ rfl (Or.inl rfl) rfl
  · skip
    refine g_pure rfl rfl ?_
    refine g_pure rfl rfl ?_
    refine g_if2 rfl (fun hc2 => ?_) (fun hc2 => ?_)
    · skip
      refine g_pure rfl rfl ?_
      exact g_retZ rfl (Or.inl rfl) rfl
    · skip
      exfalso
      have kk0 : (0 : Int32).toInt = 0 := by decide
      have kk1 : (1 : Int32).toInt = 1 := by decide
      simp only [b1_lt, b1_le, b1_gt, b1_ge, b1_eq, b1_ne, b2_lt, b2_le, b2_gt, b2_ge, b2_eq, b2_ne, decide_eq_true_eq, decide_eq_false_iff_not, Int32.lt_iff_toInt_lt, Int32.le_iff_toInt_le, Int32.not_lt, Int32.not_le, ne_eq, Decidable.not_not, ← Int32.toInt_inj, kk0, kk1] at hc1 hc2
      omega
theorem m_in09 (d : Nat) (c : Int32) {h : List AC} : ∃ b : Int32, (b = 0 ∨ b = 1) ∧ CF (d + 1) 95 [.int c, .int 0, .int 9] h = some (some (.int b), h) := by
  by_cases h1 : c < 0
  · refine ⟨0, Or.inl rfl, ?_⟩
    refine callD_of (k_X8_isIn false) rfl (Nat.le_of_ble_eq_true rfl) ?_
    refine g_pure rfl rfl ?_
    refine g_pure rfl rfl ?_
    refine g_if2t rfl (decide_eq_true h1) ?_
    refine g_pure rfl rfl ?_
    exact g_retZ rfl (Or.inl rfl) rfl
  · by_cases h2 : 9 < c
    · refine ⟨0, Or.inl rfl, ?_⟩
      refine callD_of (k_X8_isIn false) rfl (Nat.le_of_ble_eq_true rfl) ?_
      refine g_pure rfl rfl ?_
      refine g_pure rfl rfl ?_
      refine g_if2f rfl (decide_eq_false h1) ?_
      refine g_pure rfl rfl ?_
      refine g_pure rfl rfl ?_
      refine g_if2t rfl (decide_eq_true h2) ?_
      refine g_pure rfl rfl ?_
      exact g_retZ rfl (Or.inl rfl) rfl
    · refine ⟨1, Or.inr rfl, ?_⟩
      refine callD_of (k_X8_isIn false) rfl (Nat.le_of_ble_eq_true rfl) ?_
      refine g_pure rfl rfl ?_
      refine g_pure rfl rfl ?_
      refine g_if2f rfl (decide_eq_false h1) ?_
      refine g_pure rfl rfl ?_
      refine g_pure rfl rfl ?_
      refine g_if2f rfl (decide_eq_false h2) ?_
      refine g_pure rfl rfl ?_
      refine g_pure rfl rfl ?_
      exact g_retZ rfl (Or.inr rfl) rfl
set_option maxRecDepth 100000 in
theorem m_plan (c : Int32) {h h2 : List AC} (hn0 : c.toInt ≠ 0) (hn1 : c.toInt ≠ 1) (q137 : h[137]? = some (.inl (8, MF))) (q139 : h[139]? = some (.inr (0, .inl NW))) : CF 30 153 [.ref 137, .int c] h = some (some (.int (-1)), h) := by
  refine callD_of (k_X8_plan false) rfl (Nat.le_of_ble_eq_true rfl) ?_
  refine g_pure rfl rfl ?_
  refine g_pure rfl rfl ?_
  refine g_put0 rfl q137 rfl rfl ?_
  refine g_pure rfl rfl ?_
  refine g_pure rfl rfl ?_
  refine g_if2 rfl (fun hc1 => ?_) (fun hc1 => ?_)
  · skip
    refine g_pure rfl rfl ?_
    refine g_pure rfl rfl ?_
    refine g_pure rfl rfl ?_
    refine g_pure rfl rfl ?_
    refine g_pure rfl rfl ?_
    refine g_pure rfl rfl ?_
    refine g_pure rfl rfl ?_
    refine g_callS rfl (Nat.le_of_ble_eq_true rfl) (Nat.le_of_ble_eq_true rfl) (m_in01 28 c hn0 hn1) ?_
    show run _ _ _ _ _ [.int 0] _ = _
    refine g_if1f rfl (by decide) ?_
    refine g_pure rfl rfl ?_
    refine g_pure rfl rfl ?_
    refine g_pure rfl rfl ?_
    obtain ⟨b1, hb1, eb1⟩ := m_in09 28 (o_isub c 10) (h := h)
    refine g_callS rfl (Nat.le_of_ble_eq_true rfl) (Nat.le_of_ble_eq_true rfl) (eb1) ?_
    show run _ _ _ _ _ [.int b1] _ = _
    refine g_if1 rfl (fun hc2 => ?_) (fun hc2 => ?_)
    · skip
      refine g_pure rfl rfl ?_
      exact g_retI rfl rfl
    · skip
      refine g_pure rfl rfl ?_
      refine g_pure rfl rfl ?_
      refine g_callV rfl rfl q137 (Nat.le_of_ble_eq_true rfl) (m_isHold 27 (o_isub c 10) q137 q139) ?_
      show run _ _ _ _ _ [.int 0] _ = _
      refine g_if1f rfl (by decide) ?_
      refine g_pure rfl rfl ?_
      exact g_retI rfl rfl
  · skip
    refine g_pure rfl rfl ?_
    refine g_pure rfl rfl ?_
    refine g_pure rfl rfl ?_
    refine g_pure rfl rfl ?_
    refine g_pure rfl rfl ?_
    refine g_pure rfl rfl ?_
    refine g_pure rfl rfl ?_
    refine g_pure rfl rfl ?_
    refine g_callS rfl (Nat.le_of_ble_eq_true rfl) (Nat.le_of_ble_eq_true rfl) (m_in01 28 c hn0 hn1) ?_
    show run _ _ _ _ _ [.int 0] _ = _
    refine g_if1f rfl (by decide) ?_
    refine g_pure rfl rfl ?_
    refine g_pure rfl rfl ?_
    refine g_pure rfl rfl ?_
    obtain ⟨b2, hb2, eb2⟩ := m_in09 28 (o_isub c 20) (h := h)
    refine g_callS rfl (Nat.le_of_ble_eq_true rfl) (Nat.le_of_ble_eq_true rfl) (eb2) ?_
    show run _ _ _ _ _ [.int b2] _ = _
    refine g_if1 rfl (fun hc3 => ?_) (fun hc3 => ?_)
    · skip
      refine g_pure rfl rfl ?_
      exact g_retI rfl rfl
    · skip
      refine g_pure rfl rfl ?_
      refine g_pure rfl rfl ?_
      refine g_callV rfl rfl q137 (Nat.le_of_ble_eq_true rfl) (m_isHold 27 (o_isub c 20) q137 q139) ?_
      show run _ _ _ _ _ [.int 0] _ = _
      refine g_if1f rfl (by decide) ?_
      refine g_pure rfl rfl ?_
      exact g_retI rfl rfl
set_option maxRecDepth 100000 in
theorem x_ordered (c : Int32) {h h2 : List AC} (q0 : h[0]? = some (.inl (7, DF))) (q22 : h[22]? = some (.inl (5, SF))) (q117 : h[117]? = some (.inl (2, TF))) (p0 : h2[0]? = some (.inl (7, DF))) (p117 : h2[117]? = some (.inl (2, TF))) (z : CF 29 18 [.ref 117, .ref 4, .ref 23, .int 0] h = some (some (.int 1), h2)) : CF 30 79 [.ref 0, .int c] h = some (some (.int (-1)), h2) := by
  refine callD_of (k_X7_ordered false) rfl (Nat.le_of_ble_eq_true rfl) ?_
  refine g_pure rfl rfl ?_
  refine g_get rfl q0 rfl ?_
  refine g_pure rfl rfl ?_
  refine g_get rfl q0 rfl ?_
  refine g_pure rfl rfl ?_
  refine g_get rfl q0 rfl ?_
  refine g_get rfl q22 rfl ?_
  refine g_pure rfl rfl ?_
  refine g_get rfl q0 rfl ?_
  refine g_get rfl q22 rfl ?_
  refine g_callV rfl rfl q117 (Nat.le_of_ble_eq_true rfl) (z) ?_
  show run _ _ _ _ _ [.int 1] _ = _
  refine g_pure rfl rfl ?_
  refine g_pure rfl rfl ?_
  refine g_get rfl p0 rfl ?_
  refine g_pure rfl rfl ?_
  refine g_callV rfl rfl p117 (Nat.le_of_ble_eq_true rfl) (x_first 28 c p117) ?_
  show run _ _ _ _ _ [.int (-1)] _ = _
  exact g_retI rfl rfl
set_option maxRecDepth 100000 in
theorem m_ordered (c : Int32) {h h2 : List AC} (q137 : h[137]? = some (.inl (8, MF))) (z1 : CF 29 132 [.ref 137] h = some (none, h)) (z2 : CF 29 139 [.ref 137] h = some (some (.int 0), h)) (z3 : CF 29 138 [.ref 137, .int 0] h = some (some (.int 1), h)) : CF 30 147 [.ref 137, .int c] h = some (some (.int (-1)), h) := by
  refine callD_of (k_X8_ordered false) rfl (Nat.le_of_ble_eq_true rfl) ?_
  refine g_pure rfl rfl ?_
  refine g_pure rfl rfl ?_
  refine g_put0 rfl q137 rfl rfl ?_
  refine g_pure rfl rfl ?_
  refine g_callV rfl rfl q137 (Nat.le_of_ble_eq_true rfl) (z1) ?_
  show run _ _ _ _ _ [] _ = _
  refine g_pure rfl rfl ?_
  refine g_pure rfl rfl ?_
  refine g_callV rfl rfl q137 (Nat.le_of_ble_eq_true rfl) (z2) ?_
  show run _ _ _ _ _ [.int 0, .ref 137] _ = _
  refine g_callV rfl rfl q137 (Nat.le_of_ble_eq_true rfl) (z3) ?_
  show run _ _ _ _ _ [.int 1] _ = _
  refine g_pure rfl rfl ?_
  refine g_pure rfl rfl ?_
  refine g_pure rfl rfl ?_
  refine g_pure rfl rfl ?_
  refine g_get rfl q137 rfl ?_
  refine g_pure rfl rfl ?_
  refine g_pure rfl rfl ?_
  show run _ _ _ _ _ [.int (-1), .int 0, .int c] _ = _
  refine g_callS rfl (Nat.le_of_ble_eq_true rfl) (Nat.le_of_ble_eq_true rfl) (m_in0 28 c) ?_
  show run _ _ _ _ _ [.int 0] _ = _
  refine g_if1t rfl (by decide) ?_
  refine g_pure rfl rfl ?_
  exact g_retI rfl rfl
