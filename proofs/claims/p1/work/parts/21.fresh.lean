abbrev CF (d : Nat) : Call := callD (codeT false) mI 100000 d
def lawSt : Option (Lv × List Value × List AC) := goTo (CC 30) (k_lawP true) 23 1000 0 (lv_args 0 [.retAddr 0]) [] []
def h1 : List AC := match lawSt with
  | some q => q.2.2
  | none => []
def lv1 : Lv := [(4, .int 0), (3, .ref 151), (2, .ref 137), (1, .ref 0), (0, .retAddr 0)]
set_option maxRecDepth 100000 in
theorem law_pre : goTo (CC 30) (k_lawP true) 23 1000 0 (lv_args 0 [.retAddr 0]) [] [] = some (lv1, [], h1) := eqG_ok (by decide +kernel)
theorem h1_len : h1.length = 152 := by decide +kernel
theorem h1_sl : sl h1 ≤ 10000 := by decide +kernel
abbrev DF : List Value := [.ref 1, .int 0, .int 0, .ref 2, .ref 4, .ref 13, .ref 22, .ref 30, .ref 112, .ref 117, .ref 121]
abbrev OF : List Value := [.ref 5, .int 0, .ref 6, .ref 7, .ref 8, .ref 9, .int 0, .ref 10, .long 0, .int 0, .ref 11, .ref 12]
abbrev SF : List Value := [.ref 23, .int 0, .ref 28, .ref 29, .int 0]
abbrev TF : List Value := [.int 0, .ref 118, .ref 119, .ref 120]
abbrev MF : List Value := [.int 0, .ref 138, .int 0, .int 0, .int 0, .int 0, .int 0, .int 0, .int 0, .int 0, .long 0, .ref 139, .ref 140, .ref 141, .int 0, .int 0, .ref 142, .ref 143, .ref 144, .ref 145, .ref 146, .int 0, .ref 147, .ref 148, .ref 149, .ref 150, .int 0, .int 0]
abbrev NW : List Int32 := 1 :: List.replicate 156 0
theorem q0_ : h1[0]? = some (.inl (7, DF)) := eqO_ok (by decide +kernel)
theorem q4_ : h1[4]? = some (.inl (6, OF)) := eqO_ok (by decide +kernel)
theorem q22_ : h1[22]? = some (.inl (5, SF)) := eqO_ok (by decide +kernel)
theorem q117_ : h1[117]? = some (.inl (2, TF)) := eqO_ok (by decide +kernel)
theorem q137_ : h1[137]? = some (.inl (8, MF)) := eqO_ok (by decide +kernel)
theorem q139_ : h1[139]? = some (.inr (0, .inl NW)) := eqO_ok (by decide +kernel)
theorem g_swd {call : Call} {code : List Ent} {n pc : Nat} {lv : Lv} {st : List Value} {h : List AC} {res : Option Value × List AC} {lo : Int} {ts : List Nat} {t0 : Nat} {x : Int32} (hl : look code pc = some (ePure pc (fSw lo ts t0))) (hx : x.toInt < lo ∨ lo + ts.length ≤ x.toInt) (g : run call code n t0 lv st h = some res) : run call code (n + 1) pc lv (.int x :: st) h = some res := by
  refine g_pure hl (pc' := swt x.toInt lo ts t0) (lv' := lv) (st' := st) rfl ?_
  have e : swt x.toInt lo ts t0 = t0 := by
    unfold swt
    by_cases h1 : x.toInt < lo
    · rw [if_pos h1]
    · rw [if_neg h1, List.getElem?_eq_none (by omega)]
      rfl
  rw [e]
  exact g
theorem x_hasC (d : Nat) (c : Int32) {h : List AC} (q4 : h[4]? = some (.inl (6, OF))) : CF (d + 1) 63 [.ref 4, .int c] h = some (some (.int 0), h) := by
  refine callD_of (k_X6_hasCompartment false) rfl (Nat.le_of_ble_eq_true rfl) ?_
  refine g_pure rfl rfl ?_
  refine g_if1 rfl (fun hc1 => ?_) (fun hc1 => ?_)
  · skip
    refine g_pure rfl rfl ?_
    exact g_retZ rfl (Or.inl rfl) rfl
  · skip
    refine g_pure rfl rfl ?_
    refine g_pure rfl rfl ?_
    refine g_get rfl q4 rfl ?_
    refine g_if2 rfl (fun hc2 => ?_) (fun hc2 => ?_)
    · skip
      refine g_pure rfl rfl ?_
      exact g_retZ rfl (Or.inl rfl) rfl
    · skip
      exfalso
      have kk0 : (0 : Int32).toInt = 0 := by decide
      simp only [b1_lt, b1_le, b1_gt, b1_ge, b1_eq, b1_ne, b2_lt, b2_le, b2_gt, b2_ge, b2_eq, b2_ne, decide_eq_true_eq, decide_eq_false_iff_not, Int32.lt_iff_toInt_lt, Int32.le_iff_toInt_le, Int32.not_lt, Int32.not_le, ne_eq, Decidable.not_not, ← Int32.toInt_inj, kk0] at hc1 hc2
      omega
theorem x_hasL (d : Nat) (c : Int32) {h : List AC} (q4 : h[4]? = some (.inl (6, OF))) : CF (d + 1) 64 [.ref 4, .int c] h = some (some (.int 0), h) := by
  refine callD_of (k_X6_hasLiquid false) rfl (Nat.le_of_ble_eq_true rfl) ?_
  refine g_pure rfl rfl ?_
  refine g_if1 rfl (fun hc1 => ?_) (fun hc1 => ?_)
  · skip
    refine g_pure rfl rfl ?_
    exact g_retZ rfl (Or.inl rfl) rfl
  · skip
    refine g_pure rfl rfl ?_
    refine g_pure rfl rfl ?_
    refine g_get rfl q4 rfl ?_
    refine g_if2 rfl (fun hc2 => ?_) (fun hc2 => ?_)
    · skip
      refine g_pure rfl rfl ?_
      exact g_retZ rfl (Or.inl rfl) rfl
    · skip
      exfalso
      have kk0 : (0 : Int32).toInt = 0 := by decide
      simp only [b1_lt, b1_le, b1_gt, b1_ge, b1_eq, b1_ne, b2_lt, b2_le, b2_gt, b2_ge, b2_eq, b2_ne, decide_eq_true_eq, decide_eq_false_iff_not, Int32.lt_iff_toInt_lt, Int32.le_iff_toInt_le, Int32.not_lt, Int32.not_le, ne_eq, Decidable.not_not, ← Int32.toInt_inj, kk0] at hc1 hc2
      omega
theorem x_hasD (d : Nat) (c : Int32) {h : List AC} (q22 : h[22]? = some (.inl (5, SF))) : CF (d + 1) 57 [.ref 22, .int c] h = some (some (.int 0), h) := by
  refine callD_of (k_X5_hasDrop false) rfl (Nat.le_of_ble_eq_true rfl) ?_
  refine g_pure rfl rfl ?_
  refine g_if1 rfl (fun hc1 => ?_) (fun hc1 => ?_)
  · skip
    refine g_pure rfl rfl ?_
    exact g_retZ rfl (Or.inl rfl) rfl
  · skip
    refine g_pure rfl rfl ?_
    refine g_pure rfl rfl ?_
    refine g_get rfl q22 rfl ?_
    refine g_if2 rfl (fun hc2 => ?_) (fun hc2 => ?_)
    · skip
      refine g_pure rfl rfl ?_
      exact g_retZ rfl (Or.inl rfl) rfl
    · skip
      exfalso
      have kk0 : (0 : Int32).toInt = 0 := by decide
      simp only [b1_lt, b1_le, b1_gt, b1_ge, b1_eq, b1_ne, b2_lt, b2_le, b2_gt, b2_ge, b2_eq, b2_ne, decide_eq_true_eq, decide_eq_false_iff_not, Int32.lt_iff_toInt_lt, Int32.le_iff_toInt_le, Int32.not_lt, Int32.not_le, ne_eq, Decidable.not_not, ← Int32.toInt_inj, kk0] at hc1 hc2
      omega
theorem x_so0 (d : Nat) (c : Int32) {h : List AC} (q0 : h[0]? = some (.inl (7, DF))) (q22 : h[22]? = some (.inl (5, SF))) : CF (d + 2) 92 [.ref 0, .int c, .int 0] h = some (some (.int 0), h) := by
  refine callD_of (k_X7_isSo false) rfl (Nat.le_of_ble_eq_true rfl) ?_
  refine g_pure rfl rfl ?_
  refine g_get rfl q0 rfl ?_
  refine g_pure rfl rfl ?_
  refine g_callV rfl rfl q22 (Nat.le_of_ble_eq_true rfl) (x_hasD _ c q22) ?_
  show run _ _ _ _ _ [.int 0] _ = _
  refine g_if1t rfl (by decide) ?_
  refine g_pure rfl rfl ?_
  exact g_retZ rfl (Or.inl rfl) rfl
theorem x_so1 (d : Nat) (c : Int32) {h : List AC} (q0 : h[0]? = some (.inl (7, DF))) (q22 : h[22]? = some (.inl (5, SF))) : CF (d + 2) 92 [.ref 0, .int c, .int 1] h = some (some (.int 0), h) := by
  refine callD_of (k_X7_isSo false) rfl (Nat.le_of_ble_eq_true rfl) ?_
  refine g_pure rfl rfl ?_
  refine g_get rfl q0 rfl ?_
  refine g_pure rfl rfl ?_
  refine g_callV rfl rfl q22 (Nat.le_of_ble_eq_true rfl) (x_hasD _ c q22) ?_
  show run _ _ _ _ _ [.int 0] _ = _
  refine g_if1t rfl (by decide) ?_
  refine g_pure rfl rfl ?_
  exact g_retZ rfl (Or.inl rfl) rfl
theorem x_end (d : Nat) (c : Int32) {h : List AC} (q0 : h[0]? = some (.inl (7, DF))) (hne : c ≠ 0) : CF (d + 1) 70 [.ref 0, .int c] h = some (some (.int 0), h) := by
  refine callD_of (k_X7_end false) rfl (Nat.le_of_ble_eq_true rfl) ?_
  refine g_pure rfl rfl ?_
  refine g_if1 rfl (fun hc1 => ?_) (fun hc1 => ?_)
  · skip
    refine g_pure rfl rfl ?_
    exact g_retZ rfl (Or.inl rfl) rfl
  · skip
    refine g_pure rfl rfl ?_
    refine g_pure rfl rfl ?_
    refine g_get rfl q0 rfl ?_
    refine g_if2 rfl (fun hc2 => ?_) (fun hc2 => ?_)
    · skip
      exfalso
      have hn0 : c.toInt ≠ 0 := fun z => hne (Int32.toInt_inj.mp (by rw [z]; decide))
      have kk0 : (0 : Int32).toInt = 0 := by decide
      simp only [b1_lt, b1_le, b1_gt, b1_ge, b1_eq, b1_ne, b2_lt, b2_le, b2_gt, b2_ge, b2_eq, b2_ne, decide_eq_true_eq, decide_eq_false_iff_not, Int32.lt_iff_toInt_lt, Int32.le_iff_toInt_le, Int32.not_lt, Int32.not_le, ne_eq, Decidable.not_not, ← Int32.toInt_inj, kk0] at hc1 hc2
      omega
    · skip
      refine g_pure rfl rfl ?_
      exact g_retZ rfl (Or.inl rfl) rfl
theorem x_now (d : Nat) (c : Int32) {h : List AC} (q0 : h[0]? = some (.inl (7, DF))) (hsw : c.toInt < 0 ∨ 0 + 10 ≤ c.toInt) : CF (d + 1) 73 [.ref 0, .int c] h = some (some (.int (-100000000)), h) := by
  refine callD_of (k_X7_now false) rfl (Nat.le_of_ble_eq_true rfl) ?_
  refine g_pure rfl rfl ?_
  refine g_swd rfl hsw ?_
  refine g_pure rfl rfl ?_
  exact g_retI rfl rfl
theorem x_compartment (d : Nat) (a : Int32) (b : Int32) {h : List AC} (q0 : h[0]? = some (.inl (7, DF))) (q4 : h[4]? = some (.inl (6, OF))) : CF (d + 2) 74 [.ref 0, .int a, .int b] h = some (some (.int (-1)), h) := by
  refine callD_of (k_X7_compartment false) rfl (Nat.le_of_ble_eq_true rfl) ?_
  refine g_pure rfl rfl ?_
  refine g_get rfl q0 rfl ?_
  refine g_pure rfl rfl ?_
  refine g_callV rfl rfl q4 (Nat.le_of_ble_eq_true rfl) (x_hasC _ a q4) ?_
  show run _ _ _ _ _ [.int 0] _ = _
  refine g_if1f rfl (by decide) ?_
  refine g_pure rfl rfl ?_
  exact g_retI rfl rfl
theorem x_may (d : Nat) (a : Int32) (b : Int32) {h : List AC} (q0 : h[0]? = some (.inl (7, DF))) (q4 : h[4]? = some (.inl (6, OF))) : CF (d + 2) 76 [.ref 0, .int a, .int b] h = some (some (.int 0), h) := by
  refine callD_of (k_X7_may false) rfl (Nat.le_of_ble_eq_true rfl) ?_
  refine g_pure rfl rfl ?_
  refine g_get rfl q0 rfl ?_
  refine g_pure rfl rfl ?_
  refine g_callV rfl rfl q4 (Nat.le_of_ble_eq_true rfl) (x_hasC _ a q4) ?_
  show run _ _ _ _ _ [.int 0] _ = _
  refine g_if1t rfl (by decide) ?_
  refine g_pure rfl rfl ?_
  exact g_retZ rfl (Or.inl rfl) rfl
theorem x_would (d : Nat) (a : Int32) (b : Int32) (c : Int32) {h : List AC} (q0 : h[0]? = some (.inl (7, DF))) (q4 : h[4]? = some (.inl (6, OF))) : CF (d + 2) 77 [.ref 0, .int a, .int b, .int c] h = some (some (.int (-1)), h) := by
  refine callD_of (k_X7_would false) rfl (Nat.le_of_ble_eq_true rfl) ?_
  refine g_pure rfl rfl ?_
  refine g_get rfl q0 rfl ?_
  refine g_pure rfl rfl ?_
  refine g_callV rfl rfl q4 (Nat.le_of_ble_eq_true rfl) (x_hasC _ a q4) ?_
  show run _ _ _ _ _ [.int 0] _ = _
  refine g_if1t rfl (by decide) ?_
  refine g_pure rfl rfl ?_
  exact g_retI rfl rfl
theorem x_without (d : Nat) (a : Int32) {h : List AC} (q0 : h[0]? = some (.inl (7, DF))) (q22 : h[22]? = some (.inl (5, SF))) : CF (d + 3) 80 [.ref 0, .int a] h = some (some (.int (-1)), h) := by
  refine callD_of (k_X7_without false) rfl (Nat.le_of_ble_eq_true rfl) ?_
  refine g_pure rfl rfl ?_
  refine g_pure rfl rfl ?_
  refine g_pure rfl rfl ?_
  refine g_callV rfl rfl q0 (Nat.le_of_ble_eq_true rfl) (x_so1 _ a q0 q22) ?_
  show run _ _ _ _ _ [.int 0] _ = _
  refine g_if1f rfl (by decide) ?_
  refine g_pure rfl rfl ?_
  exact g_retI rfl rfl
theorem x_asks (d : Nat) (a : Int32) (b : Int32) {h : List AC} (q0 : h[0]? = some (.inl (7, DF))) (q4 : h[4]? = some (.inl (6, OF))) : CF (d + 2) 83 [.ref 0, .int a, .int b] h = some (some (.int (-1)), h) := by
  refine callD_of (k_X7_asks false) rfl (Nat.le_of_ble_eq_true rfl) ?_
  refine g_pure rfl rfl ?_
  refine g_get rfl q0 rfl ?_
  refine g_pure rfl rfl ?_
  refine g_callV rfl rfl q4 (Nat.le_of_ble_eq_true rfl) (x_hasL _ a q4) ?_
  show run _ _ _ _ _ [.int 0] _ = _
  refine g_if1t rfl (by decide) ?_
  refine g_pure rfl rfl ?_
  exact g_retI rfl rfl
theorem x_cancel (d : Nat) (a : Int32) {h : List AC} (q0 : h[0]? = some (.inl (7, DF))) (q22 : h[22]? = some (.inl (5, SF))) : CF (d + 3) 84 [.ref 0, .int a] h = some (some (.int 0), h) := by
  refine callD_of (k_X7_cancel false) rfl (Nat.le_of_ble_eq_true rfl) ?_
  refine g_pure rfl rfl ?_
  refine g_pure rfl rfl ?_
  refine g_pure rfl rfl ?_
  refine g_callV rfl rfl q0 (Nat.le_of_ble_eq_true rfl) (x_so0 _ a q0 q22) ?_
  show run _ _ _ _ _ [.int 0] _ = _
  refine g_if1t rfl (by decide) ?_
  refine g_pure rfl rfl ?_
  exact g_retZ rfl (Or.inl rfl) rfl
theorem x_put (d : Nat) (a : Int32) (b : Int32) {h : List AC} (q0 : h[0]? = some (.inl (7, DF))) (q4 : h[4]? = some (.inl (6, OF))) : CF (d + 2) 85 [.ref 0, .int a, .int b] h = some (some (.int (-1)), h) := by
  refine callD_of (k_X7_put false) rfl (Nat.le_of_ble_eq_true rfl) ?_
  refine g_pure rfl rfl ?_
  refine g_get rfl q0 rfl ?_
  refine g_pure rfl rfl ?_
  refine g_callV rfl rfl q4 (Nat.le_of_ble_eq_true rfl) (x_hasC _ a q4) ?_
  show run _ _ _ _ _ [.int 0] _ = _
  refine g_if1t rfl (by decide) ?_
  refine g_pure rfl rfl ?_
  exact g_retI rfl rfl
theorem x_unload (d : Nat) (a : Int32) (b : Int32) {h : List AC} (q0 : h[0]? = some (.inl (7, DF))) (q22 : h[22]? = some (.inl (5, SF))) : CF (d + 3) 87 [.ref 0, .int a, .int b] h = some (some (.int (-1)), h) := by
  refine callD_of (k_X7_unload false) rfl (Nat.le_of_ble_eq_true rfl) ?_
  refine g_pure rfl rfl ?_
  refine g_pure rfl rfl ?_
  refine g_pure rfl rfl ?_
  refine g_callV rfl rfl q0 (Nat.le_of_ble_eq_true rfl) (x_so1 _ a q0 q22) ?_
  show run _ _ _ _ _ [.int 0] _ = _
  refine g_if1t rfl (by decide) ?_
  refine g_pure rfl rfl ?_
  exact g_retI rfl rfl
theorem x_empty (d : Nat) (a : Int32) {h : List AC} (q0 : h[0]? = some (.inl (7, DF))) (q4 : h[4]? = some (.inl (6, OF))) : CF (d + 2) 88 [.ref 0, .int a] h = some (some (.int (-1)), h) := by
  refine callD_of (k_X7_empty false) rfl (Nat.le_of_ble_eq_true rfl) ?_
  refine g_pure rfl rfl ?_
  refine g_get rfl q0 rfl ?_
  refine g_pure rfl rfl ?_
  refine g_callV rfl rfl q4 (Nat.le_of_ble_eq_true rfl) (x_hasC _ a q4) ?_
  show run _ _ _ _ _ [.int 0] _ = _
  refine g_if1t rfl (by decide) ?_
  refine g_pure rfl rfl ?_
  exact g_retI rfl rfl
theorem x_wash (d : Nat) (a : Int32) {h : List AC} (q0 : h[0]? = some (.inl (7, DF))) (q4 : h[4]? = some (.inl (6, OF))) : CF (d + 2) 89 [.ref 0, .int a] h = some (some (.int 0), h) := by
  refine callD_of (k_X7_wash false) rfl (Nat.le_of_ble_eq_true rfl) ?_
  refine g_pure rfl rfl ?_
  refine g_get rfl q0 rfl ?_
  refine g_pure rfl rfl ?_
  refine g_callV rfl rfl q4 (Nat.le_of_ble_eq_true rfl) (x_hasC _ a q4) ?_
  show run _ _ _ _ _ [.int 0] _ = _
  refine g_if1t rfl (by decide) ?_
  refine g_pure rfl rfl ?_
  exact g_retZ rfl (Or.inl rfl) rfl
theorem x_first (d : Nat) (c : Int32) {h : List AC} (q117 : h[117]? = some (.inl (2, TF))) : CF (d + 1) 19 [.ref 117, .int c] h = some (some (.int (-1)), h) := by
  refine callD_of (k_X2_dropOfFirst false) rfl (Nat.le_of_ble_eq_true rfl) ?_
  refine g_pure rfl rfl ?_
  refine g_if1 rfl (fun hc1 => ?_) (fun hc1 => ?_)
  · skip
    refine g_pure rfl rfl ?_
    exact g_retI rfl rfl
  · skip
    refine g_pure rfl rfl ?_
    refine g_pure rfl rfl ?_
    refine g_get rfl q117 rfl ?_
    refine g_if2 rfl (fun hc2 => ?_) (fun hc2 => ?_)
    · skip
      refine g_pure rfl rfl ?_
      exact g_retI rfl rfl
    · skip
      exfalso
      have kk0 : (0 : Int32).toInt = 0 := by decide
      simp only [b1_lt, b1_le, b1_gt, b1_ge, b1_eq, b1_ne, b2_lt, b2_le, b2_gt, b2_ge, b2_eq, b2_ne, decide_eq_true_eq, decide_eq_false_iff_not, Int32.lt_iff_toInt_lt, Int32.le_iff_toInt_le, Int32.not_lt, Int32.not_le, ne_eq, Decidable.not_not, ← Int32.toInt_inj, kk0] at hc1 hc2
      omega
theorem m_in0 (d : Nat) (c : Int32) {h : List AC}  : CF (d + 1) 95 [.int c, .int 0, .int (-1)] h = some (some (.int 0), h) := by
  refine callD_of (k_X8_isIn false) rfl (Nat.le_of_ble_eq_true rfl) ?_
  refine g_pure rfl rfl ?_
  refine g_pure rfl rfl ?_
  refine g_if2 rfl (fun hc1 => ?_) (fun hc1 => ?_)
  · skip
    refine g_pure rfl rfl ?_
    exact g_retZ rfl (Or.inl rfl) rfl
  · skip
    refine g_pure rfl rfl ?_
    refine g_pure rfl rfl ?_
    refine g_if2 rfl (fun hc2 => ?_) (fun hc2 => ?_)
    · skip
      refine g_pure rfl rfl ?_
      exact g_retZ rfl (Or.inl rfl) rfl
    · skip
      exfalso
      have kkm1 : ((-1) : Int32).toInt = -1 := by decide
      have kk0 : (0 : Int32).toInt = 0 := by decide
      simp only [b1_lt, b1_le, b1_gt, b1_ge, b1_eq, b1_ne, b2_lt, b2_le, b2_gt, b2_ge, b2_eq, b2_ne, decide_eq_true_eq, decide_eq_false_iff_not, Int32.lt_iff_toInt_lt, Int32.le_iff_toInt_le, Int32.not_lt, Int32.not_le, ne_eq, Decidable.not_not, ← Int32.toInt_inj, kkm1, kk0] at hc1 hc2
      omega
theorem m_isHold (d : Nat) (c : Int32) {h : List AC} (q137 : h[137]? = some (.inl (8, MF))) (q139 : h[139]? = some (.inr (0, .inl NW))) : CF (d + 2) 122 [.ref 137, .int c] h = some (some (.int 0), h) := by
  refine callD_of (k_X8_isHold false) rfl (Nat.le_of_ble_eq_true rfl) ?_
  refine g_pure rfl rfl ?_
  refine g_pure rfl rfl ?_
  refine g_pure rfl rfl ?_
  refine g_get rfl q137 rfl ?_
  refine g_pure rfl rfl ?_
  refine g_iald rfl q139 (by decide) rfl ?_
  refine g_pure rfl rfl ?_
  refine g_pure rfl rfl ?_
  show run _ _ _ _ _ [.int (-1), .int 0, .int c] _ = _
  refine g_callS rfl (Nat.le_of_ble_eq_true rfl) (Nat.le_of_ble_eq_true rfl) (m_in0 _ c) ?_
  show run _ _ _ _ _ [.int 0] _ = _
  exact g_retZ rfl (Or.inl rfl) rfl
theorem m_isLiquid (d : Nat) (c : Int32) {h : List AC} (q137 : h[137]? = some (.inl (8, MF))) (q139 : h[139]? = some (.inr (0, .inl NW))) : CF (d + 2) 123 [.ref 137, .int c] h = some (some (.int 0), h) := by
  refine callD_of (k_X8_isLiquid false) rfl (Nat.le_of_ble_eq_true rfl) ?_
  refine g_pure rfl rfl ?_
  refine g_pure rfl rfl ?_
  refine g_pure rfl rfl ?_
  refine g_get rfl q137 rfl ?_
  refine g_pure rfl rfl ?_
  refine g_iald rfl q139 (by decide) rfl ?_
  refine g_pure rfl rfl ?_
  refine g_pure rfl rfl ?_
  show run _ _ _ _ _ [.int (-1), .int 0, .int c] _ = _
  refine g_callS rfl (Nat.le_of_ble_eq_true rfl) (Nat.le_of_ble_eq_true rfl) (m_in0 _ c) ?_
  show run _ _ _ _ _ [.int 0] _ = _
  exact g_retZ rfl (Or.inl rfl) rfl
theorem m_isDrop (d : Nat) (c : Int32) {h : List AC} (q137 : h[137]? = some (.inl (8, MF))) (q139 : h[139]? = some (.inr (0, .inl NW))) : CF (d + 2) 124 [.ref 137, .int c] h = some (some (.int 0), h) := by
  refine callD_of (k_X8_isDrop false) rfl (Nat.le_of_ble_eq_true rfl) ?_
  refine g_pure rfl rfl ?_
  refine g_pure rfl rfl ?_
  refine g_pure rfl rfl ?_
  refine g_get rfl q137 rfl ?_
  refine g_pure rfl rfl ?_
  refine g_iald rfl q139 (by decide) rfl ?_
  refine g_pure rfl rfl ?_
  refine g_pure rfl rfl ?_
  show run _ _ _ _ _ [.int (-1), .int 0, .int c] _ = _
  refine g_callS rfl (Nat.le_of_ble_eq_true rfl) (Nat.le_of_ble_eq_true rfl) (m_in0 _ c) ?_
  show run _ _ _ _ _ [.int 0] _ = _
  exact g_retZ rfl (Or.inl rfl) rfl
theorem m_end (d : Nat) (c : Int32) {h : List AC} (q137 : h[137]? = some (.inl (8, MF))) (hne : c ≠ 0) : CF (d + 1) 99 [.ref 137, .int c] h = some (some (.int 0), h) := by
  refine callD_of (k_X8_end false) rfl (Nat.le_of_ble_eq_true rfl) ?_
  refine g_pure rfl rfl ?_
  refine g_pure rfl rfl ?_
  refine g_put0 rfl q137 rfl rfl ?_
  refine g_pure rfl rfl ?_
  refine g_if1 rfl (fun hc1 => ?_) (fun hc1 => ?_)
  · skip
    refine g_pure rfl rfl ?_
    exact g_retZ rfl (Or.inl rfl) rfl
  · skip
    refine g_pure rfl rfl ?_
    refine g_pure rfl rfl ?_
    refine g_get rfl q137 rfl ?_
    refine g_if2 rfl (fun hc2 => ?_) (fun hc2 => ?_)
    · skip
      exfalso
      have hn0 : c.toInt ≠ 0 := fun z => hne (Int32.toInt_inj.mp (by rw [z]; decide))
      have kk0 : (0 : Int32).toInt = 0 := by decide
      simp only [b1_lt, b1_le, b1_gt, b1_ge, b1_eq, b1_ne, b2_lt, b2_le, b2_gt, b2_ge, b2_eq, b2_ne, decide_eq_true_eq, decide_eq_false_iff_not, Int32.lt_iff_toInt_lt, Int32.le_iff_toInt_le, Int32.not_lt, Int32.not_le, ne_eq, Decidable.not_not, ← Int32.toInt_inj, kk0] at hc1 hc2
      omega
    · skip
      refine g_pure rfl rfl ?_
      exact g_retZ rfl (Or.inl rfl) rfl
theorem m_compartment (d : Nat) (a : Int32) (b : Int32) {h : List AC} (q137 : h[137]? = some (.inl (8, MF))) (q139 : h[139]? = some (.inr (0, .inl NW))) : CF (d + 3) 142 [.ref 137, .int a, .int b] h = some (some (.int (-1)), h) := by
  refine callD_of (k_X8_compartment false) rfl (Nat.le_of_ble_eq_true rfl) ?_
  refine g_pure rfl rfl ?_
  refine g_pure rfl rfl ?_
  refine g_put0 rfl q137 rfl rfl ?_
  refine g_pure rfl rfl ?_
  refine g_pure rfl rfl ?_
  refine g_callV rfl rfl q137 (Nat.le_of_ble_eq_true rfl) (m_isHold _ a q137 q139) ?_
  show run _ _ _ _ _ [.int 0] _ = _
  refine g_if1f rfl (by decide) ?_
  refine g_pure rfl rfl ?_
  exact g_retI rfl rfl
theorem m_may (d : Nat) (a : Int32) (b : Int32) {h : List AC} (q137 : h[137]? = some (.inl (8, MF))) (q139 : h[139]? = some (.inr (0, .inl NW))) : CF (d + 3) 144 [.ref 137, .int a, .int b] h = some (some (.int 0), h) := by
  refine callD_of (k_X8_may false) rfl (Nat.le_of_ble_eq_true rfl) ?_
  refine g_pure rfl rfl ?_
  refine g_pure rfl rfl ?_
  refine g_put0 rfl q137 rfl rfl ?_
  refine g_pure rfl rfl ?_
  refine g_pure rfl rfl ?_
  refine g_callV rfl rfl q137 (Nat.le_of_ble_eq_true rfl) (m_isHold _ a q137 q139) ?_
  show run _ _ _ _ _ [.int 0] _ = _
  refine g_if1t rfl (by decide) ?_
  refine g_pure rfl rfl ?_
  exact g_retZ rfl (Or.inl rfl) rfl
theorem m_would (d : Nat) (a : Int32) (b : Int32) (c : Int32) {h : List AC} (q137 : h[137]? = some (.inl (8, MF))) (q139 : h[139]? = some (.inr (0, .inl NW))) : CF (d + 3) 145 [.ref 137, .int a, .int b, .int c] h = some (some (.int (-1)), h) := by
  refine callD_of (k_X8_would false) rfl (Nat.le_of_ble_eq_true rfl) ?_
  refine g_pure rfl rfl ?_
  refine g_pure rfl rfl ?_
  refine g_put0 rfl q137 rfl rfl ?_
  refine g_pure rfl rfl ?_
  refine g_pure rfl rfl ?_
  refine g_callV rfl rfl q137 (Nat.le_of_ble_eq_true rfl) (m_isHold _ a q137 q139) ?_
  show run _ _ _ _ _ [.int 0] _ = _
  refine g_if1t rfl (by decide) ?_
  refine g_pure rfl rfl ?_
  exact g_retI rfl rfl
theorem m_without (d : Nat) (a : Int32) {h : List AC} (q137 : h[137]? = some (.inl (8, MF))) (q139 : h[139]? = some (.inr (0, .inl NW))) : CF (d + 3) 148 [.ref 137, .int a] h = some (some (.int (-1)), h) := by
  refine callD_of (k_X8_without false) rfl (Nat.le_of_ble_eq_true rfl) ?_
  refine g_pure rfl rfl ?_
  refine g_pure rfl rfl ?_
  refine g_put0 rfl q137 rfl rfl ?_
  refine g_pure rfl rfl ?_
  refine g_pure rfl rfl ?_
  refine g_callV rfl rfl q137 (Nat.le_of_ble_eq_true rfl) (m_isDrop _ a q137 q139) ?_
  show run _ _ _ _ _ [.int 0] _ = _
  refine g_if1t rfl (by decide) ?_
  refine g_pure rfl rfl ?_
  exact g_retI rfl rfl
theorem m_asks (d : Nat) (a : Int32) (b : Int32) {h : List AC} (q137 : h[137]? = some (.inl (8, MF))) (q139 : h[139]? = some (.inr (0, .inl NW))) : CF (d + 3) 156 [.ref 137, .int a, .int b] h = some (some (.int (-1)), h) := by
  refine callD_of (k_X8_asks false) rfl (Nat.le_of_ble_eq_true rfl) ?_
  refine g_pure rfl rfl ?_
  refine g_pure rfl rfl ?_
  refine g_put0 rfl q137 rfl rfl ?_
  refine g_pure rfl rfl ?_
  refine g_pure rfl rfl ?_
  refine g_callV rfl rfl q137 (Nat.le_of_ble_eq_true rfl) (m_isLiquid _ a q137 q139) ?_
  show run _ _ _ _ _ [.int 0] _ = _
  refine g_if1t rfl (by decide) ?_
  refine g_pure rfl rfl ?_
  exact g_retI rfl rfl
theorem m_cancel (d : Nat) (a : Int32) {h : List AC} (q137 : h[137]? = some (.inl (8, MF))) (q139 : h[139]? = some (.inr (0, .inl NW))) : CF (d + 3) 157 [.ref 137, .int a] h = some (some (.int 0), h) := by
  refine callD_of (k_X8_cancel false) rfl (Nat.le_of_ble_eq_true rfl) ?_
  refine g_pure rfl rfl ?_
  refine g_pure rfl rfl ?_
  refine g_put0 rfl q137 rfl rfl ?_
  refine g_pure rfl rfl ?_
  refine g_pure rfl rfl ?_
  refine g_callV rfl rfl q137 (Nat.le_of_ble_eq_true rfl) (m_isDrop _ a q137 q139) ?_
  show run _ _ _ _ _ [.int 0] _ = _
  refine g_if1t rfl (by decide) ?_
  refine g_pure rfl rfl ?_
  exact g_retZ rfl (Or.inl rfl) rfl
theorem m_put (d : Nat) (a : Int32) (b : Int32) {h : List AC} (q137 : h[137]? = some (.inl (8, MF))) (q139 : h[139]? = some (.inr (0, .inl NW))) : CF (d + 3) 159 [.ref 137, .int a, .int b] h = some (some (.int (-1)), h) := by
  refine callD_of (k_X8_put false) rfl (Nat.le_of_ble_eq_true rfl) ?_
  refine g_pure rfl rfl ?_
  refine g_pure rfl rfl ?_
  refine g_put0 rfl q137 rfl rfl ?_
  refine g_pure rfl rfl ?_
  refine g_pure rfl rfl ?_
  refine g_callV rfl rfl q137 (Nat.le_of_ble_eq_true rfl) (m_isHold _ a q137 q139) ?_
  show run _ _ _ _ _ [.int 0] _ = _
  refine g_if1t rfl (by decide) ?_
  refine g_pure rfl rfl ?_
  exact g_retI rfl rfl
theorem m_unload (d : Nat) (a : Int32) (b : Int32) {h : List AC} (q137 : h[137]? = some (.inl (8, MF))) (q139 : h[139]? = some (.inr (0, .inl NW))) : CF (d + 3) 162 [.ref 137, .int a, .int b] h = some (some (.int (-1)), h) := by
  refine callD_of (k_X8_unload false) rfl (Nat.le_of_ble_eq_true rfl) ?_
  refine g_pure rfl rfl ?_
  refine g_pure rfl rfl ?_
  refine g_put0 rfl q137 rfl rfl ?_
  refine g_pure rfl rfl ?_
  refine g_pure rfl rfl ?_
  refine g_callV rfl rfl q137 (Nat.le_of_ble_eq_true rfl) (m_isDrop _ a q137 q139) ?_
  show run _ _ _ _ _ [.int 0] _ = _
  refine g_if1t rfl (by decide) ?_
  refine g_pure rfl rfl ?_
  exact g_retI rfl rfl
theorem m_empty (d : Nat) (a : Int32) {h : List AC} (q137 : h[137]? = some (.inl (8, MF))) (q139 : h[139]? = some (.inr (0, .inl NW))) : CF (d + 3) 163 [.ref 137, .int a] h = some (some (.int (-1)), h) := by
  refine callD_of (k_X8_empty false) rfl (Nat.le_of_ble_eq_true rfl) ?_
  refine g_pure rfl rfl ?_
  refine g_pure rfl rfl ?_
  refine g_put0 rfl q137 rfl rfl ?_
  refine g_pure rfl rfl ?_
  refine g_pure rfl rfl ?_
  refine g_callV rfl rfl q137 (Nat.le_of_ble_eq_true rfl) (m_isHold _ a q137 q139) ?_
  show run _ _ _ _ _ [.int 0] _ = _
  refine g_if1t rfl (by decide) ?_
  refine g_pure rfl rfl ?_
  exact g_retI rfl rfl
theorem m_wash (d : Nat) (a : Int32) {h : List AC} (q137 : h[137]? = some (.inl (8, MF))) (q139 : h[139]? = some (.inr (0, .inl NW))) : CF (d + 3) 164 [.ref 137, .int a] h = some (some (.int 0), h) := by
  refine callD_of (k_X8_wash false) rfl (Nat.le_of_ble_eq_true rfl) ?_
  refine g_pure rfl rfl ?_
  refine g_pure rfl rfl ?_
  refine g_put0 rfl q137 rfl rfl ?_
  refine g_pure rfl rfl ?_
  refine g_pure rfl rfl ?_
  refine g_callV rfl rfl q137 (Nat.le_of_ble_eq_true rfl) (m_isHold _ a q137 q139) ?_
  show run _ _ _ _ _ [.int 0] _ = _
  refine g_if1t rfl (by decide) ?_
  refine g_pure rfl rfl ?_
  exact g_retZ rfl (Or.inl rfl) rfl
