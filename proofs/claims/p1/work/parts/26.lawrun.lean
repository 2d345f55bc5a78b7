/-! walking the law -/
section LawRows
variable {call : Call} {code : List Ent} {n pc L : Nat} {xs : Nat → Int32} {lv : Lv} {st : List Value} {h : List AC} {res : Option Value × List AC} {stop : Nat} {out : Lv × List Value × List AC}
theorem g_slen {u : Nat} (hl : look code pc = some (eSlen pc L)) (g : run call code n (pc + 1) lv (.int (Int32.ofNat L) :: st) h = some res) : run call code (n + 1) pc lv (.retAddr u :: st) h = some res := by
  unfold run
  rw [hl]
  exact g
theorem g_sld {u : Nat} {i : Int32} (hl : look code pc = some (eSld pc L xs)) (hi : ¬ i < 0 ∧ i.toNatClampNeg < L) (g : run call code n (pc + 1) lv (.int (xs i.toNatClampNeg) :: st) h = some res) : run call code (n + 1) pc lv (.int i :: .retAddr u :: st) h = some res := by
  unfold run
  rw [hl]
  simp only [eSld]
  rw [if_pos hi]
  exact g
theorem g_sw {lo : Int} {ts : List Nat} {t0 t : Nat} {x : Int32} (hl : look code pc = some (ePure pc (fSw lo ts t0))) (hx : swt x.toInt lo ts t0 = t) (g : run call code n t lv st h = some res) : run call code (n + 1) pc lv (.int x :: st) h = some res := by
  refine g_pure hl (pc' := swt x.toInt lo ts t0) (lv' := lv) (st' := st) rfl ?_
  rw [hx]
  exact g
theorem t_stop : goTo call code stop (n + 1) stop lv st h = some (lv, st, h) := by
  unfold goTo
  rw [if_pos rfl]
theorem t_pure {f : Lv → List Value → Option (Nat × Lv × List Value)} {pc' : Nat} {lv' : Lv} {st' : List Value} (hne : pc ≠ stop) (hl : look code pc = some (ePure pc f)) (hf : f lv st = some (pc', lv', st')) (g : goTo call code stop n pc' lv' st' h = some out) : goTo call code stop (n + 1) pc lv st h = some out := by
  unfold goTo
  rw [if_neg hne, hl]
  simp only [ePure, hf]
  exact g
theorem t_get {b ci k : Nat} {fs : List Value} {v : Value} (hne : pc ≠ stop) (hl : look code pc = some (eGet pc ci k)) (hb : h[b]? = some (.inl (ci, fs))) (hv : fs[k]? = some v) (g : goTo call code stop n (pc + 3) lv (v :: st) h = some out) : goTo call code stop (n + 1) pc lv (.ref b :: st) h = some out := by
  unfold goTo
  rw [if_neg hne, hl]
  simp only [eGet, hb, hv, if_true]
  exact g
theorem t_callV {b k id ci : Nat} {fs : List Value} {r : List Value} {v : Option Value} {h' : List AC} (hne : pc ≠ stop) (hl : look code pc = some (eCallV pc k id ci)) (hd : st.drop k = .ref b :: r) (hb : h[b]? = some (.inl (ci, fs))) (hc : cats r ≤ 8) (hm : call id (.ref b :: (st.take k).reverse) h = some (v, h')) (g : goTo call code stop n (pc + 3) lv (v.toList ++ r) h' = some out) : goTo call code stop (n + 1) pc lv st h = some out := by
  unfold goTo
  rw [if_neg hne, hl]
  simp only [eCallV, hd, hb, hm]
  rw [if_pos ⟨trivial, hc⟩]
  exact g
theorem t_if1 {f : Int32 → Bool} {t pc' : Nat} {x : Int32} (hne : pc ≠ stop) (hl : look code pc = some (ePure pc (fIf1 pc t f))) (hx : (if f x = true then t else pc + 3) = pc') (g : goTo call code stop n pc' lv st h = some out) : goTo call code stop (n + 1) pc lv (.int x :: st) h = some out := by
  refine t_pure hne hl (pc' := if f x = true then t else pc + 3) (lv' := lv) (st' := st) rfl ?_
  rw [hx]
  exact g
theorem t_if2 {f : Int32 → Int32 → Bool} {t pc' : Nat} {x y : Int32} (hne : pc ≠ stop) (hl : look code pc = some (ePure pc (fIf2 pc t f))) (hx : (if f x y = true then t else pc + 3) = pc') (g : goTo call code stop n pc' lv st h = some out) : goTo call code stop (n + 1) pc lv (.int y :: .int x :: st) h = some out := by
  refine t_pure hne hl (pc' := if f x y = true then t else pc + 3) (lv' := lv) (st' := st) rfl ?_
  rw [hx]
  exact g
theorem t_slen {u : Nat} (hne : pc ≠ stop) (hl : look code pc = some (eSlen pc L)) (g : goTo call code stop n (pc + 1) lv (.int (Int32.ofNat L) :: st) h = some out) : goTo call code stop (n + 1) pc lv (.retAddr u :: st) h = some out := by
  unfold goTo
  rw [if_neg hne, hl]
  exact g
theorem t_sld {u : Nat} {i : Int32} (hne : pc ≠ stop) (hl : look code pc = some (eSld pc L xs)) (hi : ¬ i < 0 ∧ i.toNatClampNeg < L) (g : goTo call code stop n (pc + 1) lv (.int (xs i.toNatClampNeg) :: st) h = some out) : goTo call code stop (n + 1) pc lv (.int i :: .retAddr u :: st) h = some out := by
  unfold goTo
  rw [if_neg hne, hl]
  simp only [eSld]
  rw [if_pos hi]
  exact g
theorem t_sw {lo : Int} {ts : List Nat} {t0 t : Nat} {x : Int32} (hne : pc ≠ stop) (hl : look code pc = some (ePure pc (fSw lo ts t0))) (hx : swt x.toInt lo ts t0 = t) (g : goTo call code stop n t lv st h = some out) : goTo call code stop (n + 1) pc lv (.int x :: st) h = some out := by
  refine t_pure hne hl (pc' := swt x.toInt lo ts t0) (lv' := lv) (st' := st) rfl ?_
  rw [hx]
  exact g
end LawRows
set_option maxRecDepth 100000 in
theorem law_tail {xs : Nat → Int32} {n : Nat} {h : List AC} {lv : Lv} (hlv : lv = lv1) : run (CF 30) (k_lawQ false 6 xs) (n + 20) 797 lv [] h = some (some (.int 1), h) := by
  subst hlv
  refine g_pure rfl rfl ?_
  refine g_pure rfl rfl ?_
  refine g_pure rfl rfl ?_
  refine g_pure rfl rfl ?_
  refine g_slen rfl ?_
  refine g_pure rfl rfl ?_
  refine g_pure rfl rfl ?_
  refine g_if2t rfl (by decide) ?_
  refine g_pure rfl rfl ?_
  exact g_retZ rfl (Or.inr rfl) rfl
theorem ix1 : ¬ (o_iadd 0 1) < 0 ∧ (o_iadd 0 1).toNatClampNeg < 6 := by decide
theorem ie1 : (o_iadd 0 1).toNatClampNeg = 1 := by decide
theorem ix2 : ¬ (o_iadd 0 2) < 0 ∧ (o_iadd 0 2).toNatClampNeg < 6 := by decide
theorem ie2 : (o_iadd 0 2).toNatClampNeg = 2 := by decide
theorem ix3 : ¬ (o_iadd 0 3) < 0 ∧ (o_iadd 0 3).toNatClampNeg < 6 := by decide
theorem ie3 : (o_iadd 0 3).toNatClampNeg = 3 := by decide
theorem ix4 : ¬ (o_iadd 0 4) < 0 ∧ (o_iadd 0 4).toNatClampNeg < 6 := by decide
theorem ie4 : (o_iadd 0 4).toNatClampNeg = 4 := by decide
theorem ix5 : ¬ (o_iadd 0 5) < 0 ∧ (o_iadd 0 5).toNatClampNeg < 6 := by decide
theorem ie5 : (o_iadd 0 5).toNatClampNeg = 5 := by decide
set_option maxRecDepth 100000 in
theorem r_feed {xs : Nat → Int32} {n : Nat} (ha : Agree 69 98 [.int (xs 1), .int (xs 2), .int (xs 3), .int (xs 4), .int (xs 5)] h1) : ∃ hm : List AC, run (CF 30) (k_lawQ false 6 xs) (n + 90) 144 lv1 [] h1 = some (some (.int 1), hm) ∧ hm.length ≤ 1000 ∧ sl hm ≤ 20000 := by
  obtain ⟨r, hx, hm, gs, e1, e2, h8, b1, b2⟩ := ha
  refine ⟨hm, ?_, b1, b2⟩
  refine g_pure rfl rfl ?_
  refine g_pure rfl rfl ?_
  refine g_pure rfl rfl ?_
  refine g_pure rfl rfl ?_
  refine g_pure rfl rfl ?_
  refine g_sld rfl ix1 ?_
  rw [ie1]
  refine g_pure rfl rfl ?_
  refine g_pure rfl rfl ?_
  refine g_pure rfl rfl ?_
  refine g_pure rfl rfl ?_
  refine g_sld rfl ix2 ?_
  rw [ie2]
  refine g_pure rfl rfl ?_
  refine g_pure rfl rfl ?_
  refine g_pure rfl rfl ?_
  refine g_pure rfl rfl ?_
  refine g_sld rfl ix3 ?_
  rw [ie3]
  refine g_pure rfl rfl ?_
  refine g_pure rfl rfl ?_
  refine g_pure rfl rfl ?_
  refine g_pure rfl rfl ?_
  refine g_sld rfl ix4 ?_
  rw [ie4]
  refine g_pure rfl rfl ?_
  refine g_pure rfl rfl ?_
  refine g_pure rfl rfl ?_
  refine g_pure rfl rfl ?_
  refine g_sld rfl ix5 ?_
  rw [ie5]
  refine g_callV rfl rfl q0_ (Nat.le_of_ble_eq_true rfl) e1 ?_
  show run _ _ _ _ _ [.int r] _ = _
  refine g_pure rfl rfl ?_
  refine g_pure rfl rfl ?_
  refine g_pure rfl rfl ?_
  refine g_pure rfl rfl ?_
  refine g_pure rfl rfl ?_
  refine g_sld rfl ix1 ?_
  rw [ie1]
  refine g_pure rfl rfl ?_
  refine g_pure rfl rfl ?_
  refine g_pure rfl rfl ?_
  refine g_pure rfl rfl ?_
  refine g_sld rfl ix2 ?_
  rw [ie2]
  refine g_pure rfl rfl ?_
  refine g_pure rfl rfl ?_
  refine g_pure rfl rfl ?_
  refine g_pure rfl rfl ?_
  refine g_sld rfl ix3 ?_
  rw [ie3]
  refine g_pure rfl rfl ?_
  refine g_pure rfl rfl ?_
  refine g_pure rfl rfl ?_
  refine g_pure rfl rfl ?_
  refine g_sld rfl ix4 ?_
  rw [ie4]
  refine g_pure rfl rfl ?_
  refine g_pure rfl rfl ?_
  refine g_pure rfl rfl ?_
  refine g_pure rfl rfl ?_
  refine g_sld rfl ix5 ?_
  rw [ie5]
  refine g_callV rfl rfl h8 (Nat.le_of_ble_eq_true rfl) e2 ?_
  show run _ _ _ _ _ [.int r, .int r] _ = _
  refine g_if2t rfl (decide_eq_true rfl) ?_
  exact law_tail rfl
set_option maxRecDepth 100000 in
theorem r_end {xs : Nat → Int32} {n : Nat} (ha : Agree 70 99 [.int (xs 1)] h1) : ∃ hm : List AC, run (CF 30) (k_lawQ false 6 xs) (n + 90) 217 lv1 [] h1 = some (some (.int 1), hm) ∧ hm.length ≤ 1000 ∧ sl hm ≤ 20000 := by
  obtain ⟨r, hx, hm, gs, e1, e2, h8, b1, b2⟩ := ha
  refine ⟨hm, ?_, b1, b2⟩
  refine g_pure rfl rfl ?_
  refine g_pure rfl rfl ?_
  refine g_pure rfl rfl ?_
  refine g_pure rfl rfl ?_
  refine g_pure rfl rfl ?_
  refine g_sld rfl ix1 ?_
  rw [ie1]
  refine g_callV rfl rfl q0_ (Nat.le_of_ble_eq_true rfl) e1 ?_
  show run _ _ _ _ _ [.int r] _ = _
  refine g_pure rfl rfl ?_
  refine g_pure rfl rfl ?_
  refine g_pure rfl rfl ?_
  refine g_pure rfl rfl ?_
  refine g_pure rfl rfl ?_
  refine g_sld rfl ix1 ?_
  rw [ie1]
  refine g_callV rfl rfl h8 (Nat.le_of_ble_eq_true rfl) e2 ?_
  show run _ _ _ _ _ [.int r, .int r] _ = _
  refine g_if2t rfl (decide_eq_true rfl) ?_
  exact law_tail rfl
set_option maxRecDepth 100000 in
theorem r_text {xs : Nat → Int32} {n : Nat} (ha : Agree 71 120 [] h1) : ∃ hm : List AC, run (CF 30) (k_lawQ false 6 xs) (n + 90) 242 lv1 [] h1 = some (some (.int 1), hm) ∧ hm.length ≤ 1000 ∧ sl hm ≤ 20000 := by
  obtain ⟨r, hx, hm, gs, e1, e2, h8, b1, b2⟩ := ha
  refine ⟨hm, ?_, b1, b2⟩
  refine g_pure rfl rfl ?_
  refine g_callV rfl rfl q0_ (Nat.le_of_ble_eq_true rfl) e1 ?_
  show run _ _ _ _ _ [.int r] _ = _
  refine g_pure rfl rfl ?_
  refine g_callV rfl rfl h8 (Nat.le_of_ble_eq_true rfl) e2 ?_
  show run _ _ _ _ _ [.int r, .int r] _ = _
  refine g_if2t rfl (decide_eq_true rfl) ?_
  exact law_tail rfl
set_option maxRecDepth 100000 in
theorem r_fault {xs : Nat → Int32} {n : Nat} (ha : Agree 72 121 [] h1) : ∃ hm : List AC, run (CF 30) (k_lawQ false 6 xs) (n + 90) 255 lv1 [] h1 = some (some (.int 1), hm) ∧ hm.length ≤ 1000 ∧ sl hm ≤ 20000 := by
  obtain ⟨r, hx, hm, gs, e1, e2, h8, b1, b2⟩ := ha
  refine ⟨hm, ?_, b1, b2⟩
  refine g_pure rfl rfl ?_
  refine g_callV rfl rfl q0_ (Nat.le_of_ble_eq_true rfl) e1 ?_
  show run _ _ _ _ _ [.int r] _ = _
  refine g_pure rfl rfl ?_
  refine g_callV rfl rfl h8 (Nat.le_of_ble_eq_true rfl) e2 ?_
  show run _ _ _ _ _ [.int r, .int r] _ = _
  refine g_if2t rfl (decide_eq_true rfl) ?_
  exact law_tail rfl
set_option maxRecDepth 100000 in
theorem r_now {xs : Nat → Int32} {n : Nat} (ha : Agree 73 140 [.int (xs 1)] h1) : ∃ hm : List AC, run (CF 30) (k_lawQ false 6 xs) (n + 90) 268 lv1 [] h1 = some (some (.int 1), hm) ∧ hm.length ≤ 1000 ∧ sl hm ≤ 20000 := by
  obtain ⟨r, hx, hm, gs, e1, e2, h8, b1, b2⟩ := ha
  refine ⟨hm, ?_, b1, b2⟩
  refine g_pure rfl rfl ?_
  refine g_pure rfl rfl ?_
  refine g_pure rfl rfl ?_
  refine g_pure rfl rfl ?_
  refine g_pure rfl rfl ?_
  refine g_sld rfl ix1 ?_
  rw [ie1]
  refine g_callV rfl rfl q0_ (Nat.le_of_ble_eq_true rfl) e1 ?_
  show run _ _ _ _ _ [.int r] _ = _
  refine g_pure rfl rfl ?_
  refine g_pure rfl rfl ?_
  refine g_pure rfl rfl ?_
  refine g_pure rfl rfl ?_
  refine g_pure rfl rfl ?_
  refine g_sld rfl ix1 ?_
  rw [ie1]
  refine g_callV rfl rfl h8 (Nat.le_of_ble_eq_true rfl) e2 ?_
  show run _ _ _ _ _ [.int r, .int r] _ = _
  refine g_if2t rfl (decide_eq_true rfl) ?_
  exact law_tail rfl
set_option maxRecDepth 100000 in
theorem r_compartment {xs : Nat → Int32} {n : Nat} (ha : Agree 74 142 [.int (xs 1), .int (xs 2)] h1) : ∃ hm : List AC, run (CF 30) (k_lawQ false 6 xs) (n + 90) 293 lv1 [] h1 = some (some (.int 1), hm) ∧ hm.length ≤ 1000 ∧ sl hm ≤ 20000 := by
  obtain ⟨r, hx, hm, gs, e1, e2, h8, b1, b2⟩ := ha
  refine ⟨hm, ?_, b1, b2⟩
  refine g_pure rfl rfl ?_
  refine g_pure rfl rfl ?_
  refine g_pure rfl rfl ?_
  refine g_pure rfl rfl ?_
  refine g_pure rfl rfl ?_
  refine g_sld rfl ix1 ?_
  rw [ie1]
  refine g_pure rfl rfl ?_
  refine g_pure rfl rfl ?_
  refine g_pure rfl rfl ?_
  refine g_pure rfl rfl ?_
  refine g_sld rfl ix2 ?_
  rw [ie2]
  refine g_callV rfl rfl q0_ (Nat.le_of_ble_eq_true rfl) e1 ?_
  show run _ _ _ _ _ [.int r] _ = _
  refine g_pure rfl rfl ?_
  refine g_pure rfl rfl ?_
  refine g_pure rfl rfl ?_
  refine g_pure rfl rfl ?_
  refine g_pure rfl rfl ?_
  refine g_sld rfl ix1 ?_
  rw [ie1]
  refine g_pure rfl rfl ?_
  refine g_pure rfl rfl ?_
  refine g_pure rfl rfl ?_
  refine g_pure rfl rfl ?_
  refine g_sld rfl ix2 ?_
  rw [ie2]
  refine g_callV rfl rfl h8 (Nat.le_of_ble_eq_true rfl) e2 ?_
  show run _ _ _ _ _ [.int r, .int r] _ = _
  refine g_if2t rfl (decide_eq_true rfl) ?_
  exact law_tail rfl
set_option maxRecDepth 100000 in
theorem r_may {xs : Nat → Int32} {n : Nat} (ha : Agree 76 144 [.int (xs 1), .int (xs 2)] h1) : ∃ hm : List AC, run (CF 30) (k_lawQ false 6 xs) (n + 90) 398 lv1 [] h1 = some (some (.int 1), hm) ∧ hm.length ≤ 1000 ∧ sl hm ≤ 20000 := by
  obtain ⟨r, hx, hm, gs, e1, e2, h8, b1, b2⟩ := ha
  refine ⟨hm, ?_, b1, b2⟩
  refine g_pure rfl rfl ?_
  refine g_pure rfl rfl ?_
  refine g_pure rfl rfl ?_
  refine g_pure rfl rfl ?_
  refine g_pure rfl rfl ?_
  refine g_sld rfl ix1 ?_
  rw [ie1]
  refine g_pure rfl rfl ?_
  refine g_pure rfl rfl ?_
  refine g_pure rfl rfl ?_
  refine g_pure rfl rfl ?_
  refine g_sld rfl ix2 ?_
  rw [ie2]
  refine g_callV rfl rfl q0_ (Nat.le_of_ble_eq_true rfl) e1 ?_
  show run _ _ _ _ _ [.int r] _ = _
  refine g_pure rfl rfl ?_
  refine g_pure rfl rfl ?_
  refine g_pure rfl rfl ?_
  refine g_pure rfl rfl ?_
  refine g_pure rfl rfl ?_
  refine g_sld rfl ix1 ?_
  rw [ie1]
  refine g_pure rfl rfl ?_
  refine g_pure rfl rfl ?_
  refine g_pure rfl rfl ?_
  refine g_pure rfl rfl ?_
  refine g_sld rfl ix2 ?_
  rw [ie2]
  refine g_callV rfl rfl h8 (Nat.le_of_ble_eq_true rfl) e2 ?_
  show run _ _ _ _ _ [.int r, .int r] _ = _
  refine g_if2t rfl (decide_eq_true rfl) ?_
  exact law_tail rfl
set_option maxRecDepth 100000 in
theorem r_would {xs : Nat → Int32} {n : Nat} (ha : Agree 77 145 [.int (xs 1), .int (xs 2), .int (xs 3)] h1) : ∃ hm : List AC, run (CF 30) (k_lawQ false 6 xs) (n + 90) 435 lv1 [] h1 = some (some (.int 1), hm) ∧ hm.length ≤ 1000 ∧ sl hm ≤ 20000 := by
  obtain ⟨r, hx, hm, gs, e1, e2, h8, b1, b2⟩ := ha
  refine ⟨hm, ?_, b1, b2⟩
  refine g_pure rfl rfl ?_
  refine g_pure rfl rfl ?_
  refine g_pure rfl rfl ?_
  refine g_pure rfl rfl ?_
  refine g_pure rfl rfl ?_
  refine g_sld rfl ix1 ?_
  rw [ie1]
  refine g_pure rfl rfl ?_
  refine g_pure rfl rfl ?_
  refine g_pure rfl rfl ?_
  refine g_pure rfl rfl ?_
  refine g_sld rfl ix2 ?_
  rw [ie2]
  refine g_pure rfl rfl ?_
  refine g_pure rfl rfl ?_
  refine g_pure rfl rfl ?_
  refine g_pure rfl rfl ?_
  refine g_sld rfl ix3 ?_
  rw [ie3]
  refine g_callV rfl rfl q0_ (Nat.le_of_ble_eq_true rfl) e1 ?_
  show run _ _ _ _ _ [.int r] _ = _
  refine g_pure rfl rfl ?_
  refine g_pure rfl rfl ?_
  refine g_pure rfl rfl ?_
  refine g_pure rfl rfl ?_
  refine g_pure rfl rfl ?_
  refine g_sld rfl ix1 ?_
  rw [ie1]
  refine g_pure rfl rfl ?_
  refine g_pure rfl rfl ?_
  refine g_pure rfl rfl ?_
  refine g_pure rfl rfl ?_
  refine g_sld rfl ix2 ?_
  rw [ie2]
  refine g_pure rfl rfl ?_
  refine g_pure rfl rfl ?_
  refine g_pure rfl rfl ?_
  refine g_pure rfl rfl ?_
  refine g_sld rfl ix3 ?_
  rw [ie3]
  refine g_callV rfl rfl h8 (Nat.le_of_ble_eq_true rfl) e2 ?_
  show run _ _ _ _ _ [.int r, .int r] _ = _
  refine g_if2t rfl (decide_eq_true rfl) ?_
  exact law_tail rfl
set_option maxRecDepth 100000 in
theorem r_orders {xs : Nat → Int32} {n : Nat} (ha : Agree 78 146 [] h1) : ∃ hm : List AC, run (CF 30) (k_lawQ false 6 xs) (n + 90) 484 lv1 [] h1 = some (some (.int 1), hm) ∧ hm.length ≤ 1000 ∧ sl hm ≤ 20000 := by
  obtain ⟨r, hx, hm, gs, e1, e2, h8, b1, b2⟩ := ha
  refine ⟨hm, ?_, b1, b2⟩
  refine g_pure rfl rfl ?_
  refine g_callV rfl rfl q0_ (Nat.le_of_ble_eq_true rfl) e1 ?_
  show run _ _ _ _ _ [.int r] _ = _
  refine g_pure rfl rfl ?_
  refine g_callV rfl rfl h8 (Nat.le_of_ble_eq_true rfl) e2 ?_
  show run _ _ _ _ _ [.int r, .int r] _ = _
  refine g_if2t rfl (decide_eq_true rfl) ?_
  exact law_tail rfl
set_option maxRecDepth 100000 in
theorem r_ordered {xs : Nat → Int32} {n : Nat} (ha : Agree 79 147 [.int (xs 1)] h1) : ∃ hm : List AC, run (CF 30) (k_lawQ false 6 xs) (n + 90) 497 lv1 [] h1 = some (some (.int 1), hm) ∧ hm.length ≤ 1000 ∧ sl hm ≤ 20000 := by
  obtain ⟨r, hx, hm, gs, e1, e2, h8, b1, b2⟩ := ha
  refine ⟨hm, ?_, b1, b2⟩
  refine g_pure rfl rfl ?_
  refine g_pure rfl rfl ?_
  refine g_pure rfl rfl ?_
  refine g_pure rfl rfl ?_
  refine g_pure rfl rfl ?_
  refine g_sld rfl ix1 ?_
  rw [ie1]
  refine g_callV rfl rfl q0_ (Nat.le_of_ble_eq_true rfl) e1 ?_
  show run _ _ _ _ _ [.int r] _ = _
  refine g_pure rfl rfl ?_
  refine g_pure rfl rfl ?_
  refine g_pure rfl rfl ?_
  refine g_pure rfl rfl ?_
  refine g_pure rfl rfl ?_
  refine g_sld rfl ix1 ?_
  rw [ie1]
  refine g_callV rfl rfl h8 (Nat.le_of_ble_eq_true rfl) e2 ?_
  show run _ _ _ _ _ [.int r, .int r] _ = _
  refine g_if2t rfl (decide_eq_true rfl) ?_
  exact law_tail rfl
set_option maxRecDepth 100000 in
theorem r_without {xs : Nat → Int32} {n : Nat} (ha : Agree 80 148 [.int (xs 1)] h1) : ∃ hm : List AC, run (CF 30) (k_lawQ false 6 xs) (n + 90) 522 lv1 [] h1 = some (some (.int 1), hm) ∧ hm.length ≤ 1000 ∧ sl hm ≤ 20000 := by
  obtain ⟨r, hx, hm, gs, e1, e2, h8, b1, b2⟩ := ha
  refine ⟨hm, ?_, b1, b2⟩
  refine g_pure rfl rfl ?_
  refine g_pure rfl rfl ?_
  refine g_pure rfl rfl ?_
  refine g_pure rfl rfl ?_
  refine g_pure rfl rfl ?_
  refine g_sld rfl ix1 ?_
  rw [ie1]
  refine g_callV rfl rfl q0_ (Nat.le_of_ble_eq_true rfl) e1 ?_
  show run _ _ _ _ _ [.int r] _ = _
  refine g_pure rfl rfl ?_
  refine g_pure rfl rfl ?_
  refine g_pure rfl rfl ?_
  refine g_pure rfl rfl ?_
  refine g_pure rfl rfl ?_
  refine g_sld rfl ix1 ?_
  rw [ie1]
  refine g_callV rfl rfl h8 (Nat.le_of_ble_eq_true rfl) e2 ?_
  show run _ _ _ _ _ [.int r, .int r] _ = _
  refine g_if2t rfl (decide_eq_true rfl) ?_
  exact law_tail rfl
set_option maxRecDepth 100000 in
theorem r_plan {xs : Nat → Int32} {n : Nat} (ha : Agree 81 153 [.int (xs 1)] h1) : ∃ hm : List AC, run (CF 30) (k_lawQ false 6 xs) (n + 90) 547 lv1 [] h1 = some (some (.int 1), hm) ∧ hm.length ≤ 1000 ∧ sl hm ≤ 20000 := by
  obtain ⟨r, hx, hm, gs, e1, e2, h8, b1, b2⟩ := ha
  refine ⟨hm, ?_, b1, b2⟩
  refine g_pure rfl rfl ?_
  refine g_pure rfl rfl ?_
  refine g_pure rfl rfl ?_
  refine g_pure rfl rfl ?_
  refine g_pure rfl rfl ?_
  refine g_sld rfl ix1 ?_
  rw [ie1]
  refine g_callV rfl rfl q0_ (Nat.le_of_ble_eq_true rfl) e1 ?_
  show run _ _ _ _ _ [.int r] _ = _
  refine g_pure rfl rfl ?_
  refine g_pure rfl rfl ?_
  refine g_pure rfl rfl ?_
  refine g_pure rfl rfl ?_
  refine g_pure rfl rfl ?_
  refine g_sld rfl ix1 ?_
  rw [ie1]
  refine g_callV rfl rfl h8 (Nat.le_of_ble_eq_true rfl) e2 ?_
  show run _ _ _ _ _ [.int r, .int r] _ = _
  refine g_if2t rfl (decide_eq_true rfl) ?_
  exact law_tail rfl
set_option maxRecDepth 100000 in
theorem r_washes {xs : Nat → Int32} {n : Nat} (ha : Agree 82 154 [] h1) : ∃ hm : List AC, run (CF 30) (k_lawQ false 6 xs) (n + 90) 572 lv1 [] h1 = some (some (.int 1), hm) ∧ hm.length ≤ 1000 ∧ sl hm ≤ 20000 := by
  obtain ⟨r, hx, hm, gs, e1, e2, h8, b1, b2⟩ := ha
  refine ⟨hm, ?_, b1, b2⟩
  refine g_pure rfl rfl ?_
  refine g_callV rfl rfl q0_ (Nat.le_of_ble_eq_true rfl) e1 ?_
  show run _ _ _ _ _ [.int r] _ = _
  refine g_pure rfl rfl ?_
  refine g_callV rfl rfl h8 (Nat.le_of_ble_eq_true rfl) e2 ?_
  show run _ _ _ _ _ [.int r, .int r] _ = _
  refine g_if2t rfl (decide_eq_true rfl) ?_
  exact law_tail rfl
set_option maxRecDepth 100000 in
theorem r_asks {xs : Nat → Int32} {n : Nat} (ha : Agree 83 156 [.int (xs 1), .int (xs 2)] h1) : ∃ hm : List AC, run (CF 30) (k_lawQ false 6 xs) (n + 90) 585 lv1 [] h1 = some (some (.int 1), hm) ∧ hm.length ≤ 1000 ∧ sl hm ≤ 20000 := by
  obtain ⟨r, hx, hm, gs, e1, e2, h8, b1, b2⟩ := ha
  refine ⟨hm, ?_, b1, b2⟩
  refine g_pure rfl rfl ?_
  refine g_pure rfl rfl ?_
  refine g_pure rfl rfl ?_
  refine g_pure rfl rfl ?_
  refine g_pure rfl rfl ?_
  refine g_sld rfl ix1 ?_
  rw [ie1]
  refine g_pure rfl rfl ?_
  refine g_pure rfl rfl ?_
  refine g_pure rfl rfl ?_
  refine g_pure rfl rfl ?_
  refine g_sld rfl ix2 ?_
  rw [ie2]
  refine g_callV rfl rfl q0_ (Nat.le_of_ble_eq_true rfl) e1 ?_
  show run _ _ _ _ _ [.int r] _ = _
  refine g_pure rfl rfl ?_
  refine g_pure rfl rfl ?_
  refine g_pure rfl rfl ?_
  refine g_pure rfl rfl ?_
  refine g_pure rfl rfl ?_
  refine g_sld rfl ix1 ?_
  rw [ie1]
  refine g_pure rfl rfl ?_
  refine g_pure rfl rfl ?_
  refine g_pure rfl rfl ?_
  refine g_pure rfl rfl ?_
  refine g_sld rfl ix2 ?_
  rw [ie2]
  refine g_callV rfl rfl h8 (Nat.le_of_ble_eq_true rfl) e2 ?_
  show run _ _ _ _ _ [.int r, .int r] _ = _
  refine g_if2t rfl (decide_eq_true rfl) ?_
  exact law_tail rfl
set_option maxRecDepth 100000 in
theorem r_cancel {xs : Nat → Int32} {n : Nat} (ha : Agree 84 157 [.int (xs 1)] h1) : ∃ hm : List AC, run (CF 30) (k_lawQ false 6 xs) (n + 90) 622 lv1 [] h1 = some (some (.int 1), hm) ∧ hm.length ≤ 1000 ∧ sl hm ≤ 20000 := by
  obtain ⟨r, hx, hm, gs, e1, e2, h8, b1, b2⟩ := ha
  refine ⟨hm, ?_, b1, b2⟩
  refine g_pure rfl rfl ?_
  refine g_pure rfl rfl ?_
  refine g_pure rfl rfl ?_
  refine g_pure rfl rfl ?_
  refine g_pure rfl rfl ?_
  refine g_sld rfl ix1 ?_
  rw [ie1]
  refine g_callV rfl rfl q0_ (Nat.le_of_ble_eq_true rfl) e1 ?_
  show run _ _ _ _ _ [.int r] _ = _
  refine g_pure rfl rfl ?_
  refine g_pure rfl rfl ?_
  refine g_pure rfl rfl ?_
  refine g_pure rfl rfl ?_
  refine g_pure rfl rfl ?_
  refine g_sld rfl ix1 ?_
  rw [ie1]
  refine g_callV rfl rfl h8 (Nat.le_of_ble_eq_true rfl) e2 ?_
  show run _ _ _ _ _ [.int r, .int r] _ = _
  refine g_if2t rfl (decide_eq_true rfl) ?_
  exact law_tail rfl
set_option maxRecDepth 100000 in
theorem r_put {xs : Nat → Int32} {n : Nat} (ha : Agree 85 159 [.int (xs 1), .int (xs 2)] h1) : ∃ hm : List AC, run (CF 30) (k_lawQ false 6 xs) (n + 90) 647 lv1 [] h1 = some (some (.int 1), hm) ∧ hm.length ≤ 1000 ∧ sl hm ≤ 20000 := by
  obtain ⟨r, hx, hm, gs, e1, e2, h8, b1, b2⟩ := ha
  refine ⟨hm, ?_, b1, b2⟩
  refine g_pure rfl rfl ?_
  refine g_pure rfl rfl ?_
  refine g_pure rfl rfl ?_
  refine g_pure rfl rfl ?_
  refine g_pure rfl rfl ?_
  refine g_sld rfl ix1 ?_
  rw [ie1]
  refine g_pure rfl rfl ?_
  refine g_pure rfl rfl ?_
  refine g_pure rfl rfl ?_
  refine g_pure rfl rfl ?_
  refine g_sld rfl ix2 ?_
  rw [ie2]
  refine g_callV rfl rfl q0_ (Nat.le_of_ble_eq_true rfl) e1 ?_
  show run _ _ _ _ _ [.int r] _ = _
  refine g_pure rfl rfl ?_
  refine g_pure rfl rfl ?_
  refine g_pure rfl rfl ?_
  refine g_pure rfl rfl ?_
  refine g_pure rfl rfl ?_
  refine g_sld rfl ix1 ?_
  rw [ie1]
  refine g_pure rfl rfl ?_
  refine g_pure rfl rfl ?_
  refine g_pure rfl rfl ?_
  refine g_pure rfl rfl ?_
  refine g_sld rfl ix2 ?_
  rw [ie2]
  refine g_callV rfl rfl h8 (Nat.le_of_ble_eq_true rfl) e2 ?_
  show run _ _ _ _ _ [.int r, .int r] _ = _
  refine g_if2t rfl (decide_eq_true rfl) ?_
  exact law_tail rfl
set_option maxRecDepth 100000 in
theorem r_load {xs : Nat → Int32} {n : Nat} (ha : Agree 86 160 [] h1) : ∃ hm : List AC, run (CF 30) (k_lawQ false 6 xs) (n + 90) 684 lv1 [] h1 = some (some (.int 1), hm) ∧ hm.length ≤ 1000 ∧ sl hm ≤ 20000 := by
  obtain ⟨r, hx, hm, gs, e1, e2, h8, b1, b2⟩ := ha
  refine ⟨hm, ?_, b1, b2⟩
  refine g_pure rfl rfl ?_
  refine g_callV rfl rfl q0_ (Nat.le_of_ble_eq_true rfl) e1 ?_
  show run _ _ _ _ _ [.int r] _ = _
  refine g_pure rfl rfl ?_
  refine g_callV rfl rfl h8 (Nat.le_of_ble_eq_true rfl) e2 ?_
  show run _ _ _ _ _ [.int r, .int r] _ = _
  refine g_if2t rfl (decide_eq_true rfl) ?_
  exact law_tail rfl
set_option maxRecDepth 100000 in
theorem r_unload {xs : Nat → Int32} {n : Nat} (ha : Agree 87 162 [.int (xs 1), .int (xs 2)] h1) : ∃ hm : List AC, run (CF 30) (k_lawQ false 6 xs) (n + 90) 697 lv1 [] h1 = some (some (.int 1), hm) ∧ hm.length ≤ 1000 ∧ sl hm ≤ 20000 := by
  obtain ⟨r, hx, hm, gs, e1, e2, h8, b1, b2⟩ := ha
  refine ⟨hm, ?_, b1, b2⟩
  refine g_pure rfl rfl ?_
  refine g_pure rfl rfl ?_
  refine g_pure rfl rfl ?_
  refine g_pure rfl rfl ?_
  refine g_pure rfl rfl ?_
  refine g_sld rfl ix1 ?_
  rw [ie1]
  refine g_pure rfl rfl ?_
  refine g_pure rfl rfl ?_
  refine g_pure rfl rfl ?_
  refine g_pure rfl rfl ?_
  refine g_sld rfl ix2 ?_
  rw [ie2]
  refine g_callV rfl rfl q0_ (Nat.le_of_ble_eq_true rfl) e1 ?_
  show run _ _ _ _ _ [.int r] _ = _
  refine g_pure rfl rfl ?_
  refine g_pure rfl rfl ?_
  refine g_pure rfl rfl ?_
  refine g_pure rfl rfl ?_
  refine g_pure rfl rfl ?_
  refine g_sld rfl ix1 ?_
  rw [ie1]
  refine g_pure rfl rfl ?_
  refine g_pure rfl rfl ?_
  refine g_pure rfl rfl ?_
  refine g_pure rfl rfl ?_
  refine g_sld rfl ix2 ?_
  rw [ie2]
  refine g_callV rfl rfl h8 (Nat.le_of_ble_eq_true rfl) e2 ?_
  show run _ _ _ _ _ [.int r, .int r] _ = _
  refine g_if2t rfl (decide_eq_true rfl) ?_
  exact law_tail rfl
set_option maxRecDepth 100000 in
theorem r_empty {xs : Nat → Int32} {n : Nat} (ha : Agree 88 163 [.int (xs 1)] h1) : ∃ hm : List AC, run (CF 30) (k_lawQ false 6 xs) (n + 90) 734 lv1 [] h1 = some (some (.int 1), hm) ∧ hm.length ≤ 1000 ∧ sl hm ≤ 20000 := by
  obtain ⟨r, hx, hm, gs, e1, e2, h8, b1, b2⟩ := ha
  refine ⟨hm, ?_, b1, b2⟩
  refine g_pure rfl rfl ?_
  refine g_pure rfl rfl ?_
  refine g_pure rfl rfl ?_
  refine g_pure rfl rfl ?_
  refine g_pure rfl rfl ?_
  refine g_sld rfl ix1 ?_
  rw [ie1]
  refine g_callV rfl rfl q0_ (Nat.le_of_ble_eq_true rfl) e1 ?_
  show run _ _ _ _ _ [.int r] _ = _
  refine g_pure rfl rfl ?_
  refine g_pure rfl rfl ?_
  refine g_pure rfl rfl ?_
  refine g_pure rfl rfl ?_
  refine g_pure rfl rfl ?_
  refine g_sld rfl ix1 ?_
  rw [ie1]
  refine g_callV rfl rfl h8 (Nat.le_of_ble_eq_true rfl) e2 ?_
  show run _ _ _ _ _ [.int r, .int r] _ = _
  refine g_if2t rfl (decide_eq_true rfl) ?_
  exact law_tail rfl
set_option maxRecDepth 100000 in
theorem r_wash {xs : Nat → Int32} {n : Nat} (ha : Agree 89 164 [.int (xs 1)] h1) : ∃ hm : List AC, run (CF 30) (k_lawQ false 6 xs) (n + 90) 759 lv1 [] h1 = some (some (.int 1), hm) ∧ hm.length ≤ 1000 ∧ sl hm ≤ 20000 := by
  obtain ⟨r, hx, hm, gs, e1, e2, h8, b1, b2⟩ := ha
  refine ⟨hm, ?_, b1, b2⟩
  refine g_pure rfl rfl ?_
  refine g_pure rfl rfl ?_
  refine g_pure rfl rfl ?_
  refine g_pure rfl rfl ?_
  refine g_pure rfl rfl ?_
  refine g_sld rfl ix1 ?_
  rw [ie1]
  refine g_callV rfl rfl q0_ (Nat.le_of_ble_eq_true rfl) e1 ?_
  show run _ _ _ _ _ [.int r] _ = _
  refine g_pure rfl rfl ?_
  refine g_pure rfl rfl ?_
  refine g_pure rfl rfl ?_
  refine g_pure rfl rfl ?_
  refine g_pure rfl rfl ?_
  refine g_sld rfl ix1 ?_
  rw [ie1]
  refine g_callV rfl rfl h8 (Nat.le_of_ble_eq_true rfl) e2 ?_
  show run _ _ _ _ _ [.int r, .int r] _ = _
  refine g_if2t rfl (decide_eq_true rfl) ?_
  exact law_tail rfl
set_option maxRecDepth 100000 in
theorem r_undo {xs : Nat → Int32} {n : Nat} (ha : Agree 90 165 [] h1) : ∃ hm : List AC, run (CF 30) (k_lawQ false 6 xs) (n + 90) 784 lv1 [] h1 = some (some (.int 1), hm) ∧ hm.length ≤ 1000 ∧ sl hm ≤ 20000 := by
  obtain ⟨r, hx, hm, gs, e1, e2, h8, b1, b2⟩ := ha
  refine ⟨hm, ?_, b1, b2⟩
  refine g_pure rfl rfl ?_
  refine g_callV rfl rfl q0_ (Nat.le_of_ble_eq_true rfl) e1 ?_
  show run _ _ _ _ _ [.int r] _ = _
  refine g_pure rfl rfl ?_
  refine g_callV rfl rfl h8 (Nat.le_of_ble_eq_true rfl) e2 ?_
  show run _ _ _ _ _ [.int r, .int r] _ = _
  refine g_if2t rfl (decide_eq_true rfl) ?_
  exact law_tail rfl
set_option maxRecDepth 100000 in
theorem law_short {L : Nat} {xs : Nat → Int32} {h : List AC} (hL : b2_gt 0 (o_isub (Int32.ofNat L) 6) = true) : run (CF 30) (k_lawQ false L xs) 200 23 lv1 [] h = some (some (.int 1), h) := by
  refine g_pure rfl rfl ?_
  refine g_pure rfl rfl ?_
  refine g_slen rfl ?_
  refine g_pure rfl rfl ?_
  refine g_pure rfl rfl ?_
  refine g_if2t rfl hL ?_
  refine g_pure rfl rfl ?_
  exact g_retZ rfl (Or.inr rfl) rfl
set_option maxRecDepth 100000 in
theorem law_head {xs : Nat → Int32} {j t : Nat} {h : List AC} {res : Option Value × List AC} (hj : xs 0 &&& 31 = nI j) (ht : swt (nI j).toInt 0 [144, 217, 242, 255, 268, 293, 330, 398, 435, 484, 497, 522, 547, 572, 585, 622, 647, 684, 697, 734, 759, 784] 797 = t) (g : run (CF 30) (k_lawQ false 6 xs) (0 + 90) t lv1 [] h = some res) : run (CF 30) (k_lawQ false 6 xs) (0 + 90 + 12) 23 lv1 [] h = some res := by
  refine g_pure rfl rfl ?_
  refine g_pure rfl rfl ?_
  refine g_slen rfl ?_
  refine g_pure rfl rfl ?_
  refine g_pure rfl rfl ?_
  refine g_if2f rfl (by decide) ?_
  refine g_pure rfl rfl ?_
  refine g_pure rfl rfl ?_
  refine g_sld rfl (by decide) ?_
  refine g_pure rfl rfl ?_
  refine g_pure rfl rfl ?_
  refine g_sw rfl (t := t) ?_ g
  show swt (xs 0 &&& 31).toInt 0 [144, 217, 242, 255, 268, 293, 330, 398, 435, 484, 497, 522, 547, 572, 585, 622, 647, 684, 697, 734, 759, 784] 797 = t
  rw [hj]
  exact ht
set_option maxRecDepth 100000 in
theorem law_head6 {xs : Nat → Int32} {h : List AC} {out : Lv × List Value × List AC} (hj : xs 0 &&& 31 = nI 6) (g : goTo (CF 30) (k_lawQ false 6 xs) 344 90 330 lv1 [] h = some out) : goTo (CF 30) (k_lawQ false 6 xs) 344 (90 + 12) 23 lv1 [] h = some out := by
  refine t_pure (by decide) rfl rfl ?_
  refine t_pure (by decide) rfl rfl ?_
  refine t_slen (by decide) rfl ?_
  refine t_pure (by decide) rfl rfl ?_
  refine t_pure (by decide) rfl rfl ?_
  refine t_if2 (by decide) rfl (pc' := 33) (by decide) ?_
  refine t_pure (by decide) rfl rfl ?_
  refine t_pure (by decide) rfl rfl ?_
  refine t_sld (by decide) rfl (by decide) ?_
  refine t_pure (by decide) rfl rfl ?_
  refine t_pure (by decide) rfl rfl ?_
  refine t_sw (by decide) rfl (t := 330) ?_ g
  show swt (xs 0 &&& 31).toInt 0 [144, 217, 242, 255, 268, 293, 330, 398, 435, 484, 497, 522, 547, 572, 585, 622, 647, 684, 697, 734, 759, 784] 797 = 330
  rw [hj]
  decide
