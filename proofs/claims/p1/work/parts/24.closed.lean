/-- both sides answer the call alike -/
def Agree (iX iM : Nat) (as : List Value) (h : List AC) : Prop := ∃ (r : Int32) (hx hm : List AC) (gs : List Value), CF 30 iX (.ref 0 :: as) h = some (some (.int r), hx) ∧ CF 30 iM (.ref 137 :: as) hx = some (some (.int r), hm) ∧ hx[137]? = some (.inl (8, gs)) ∧ hm.length ≤ 1000 ∧ sl hm ≤ 20000
def is8 (c : Option AC) : Bool := match c with
  | some (.inl (8, _)) => true
  | _ => false
theorem is8_ok {c : Option AC} (h : is8 c = true) : ∃ gs, c = some (.inl (8, gs)) := by
  unfold is8 at h
  split at h
  · next gs => exact ⟨gs, rfl⟩
  · cases h
def chk (iX iM : Nat) (as : List Value) (h : List AC) : Bool := match CF 30 iX (.ref 0 :: as) h with
  | some (some (.int r), hx) => is8 hx[137]? && (match CF 30 iM (.ref 137 :: as) hx with
    | some (some (.int r'), hm) => decide (r = r') && (decide (hm.length ≤ 1000) && decide (sl hm ≤ 20000))
    | _ => false)
  | _ => false
theorem chk_ok {iX iM : Nat} {as : List Value} {h : List AC} (hc : chk iX iM as h = true) : Agree iX iM as h := by
  unfold chk at hc
  split at hc
  · next r hx e1 =>
    simp only [Bool.and_eq_true] at hc
    obtain ⟨h8, hc⟩ := hc
    split at hc
    · next r' hm e2 =>
      simp only [Bool.and_eq_true, decide_eq_true_eq] at hc
      obtain ⟨gs, h8⟩ := is8_ok h8
      obtain ⟨h1, h2, h3⟩ := hc
      subst h1
      exact ⟨r, hx, hm, gs, e1, e2, h8, h2, h3⟩
    · cases hc
  · cases hc
theorem agree_h {iX iM : Nat} {as : List Value} {r : Int32} (e1 : CF 30 iX (.ref 0 :: as) h1 = some (some (.int r), h1)) (e2 : CF 30 iM (.ref 137 :: as) h1 = some (some (.int r), h1)) : Agree iX iM as h1 :=
  ⟨r, h1, h1, MF, e1, e2, q137_, by rw [h1_len]; decide, Nat.le_trans h1_sl (by decide)⟩
theorem i32_or (c : Int32) (n : Nat) (hn : n < 100) : (∃ j : Nat, j < n ∧ c = nI j) ∨ (c.toInt < 0 ∨ 0 + (n : Int) ≤ c.toInt) := by
  rcases pk_ix c (n := n) (by omega) with h | h | h
  · right; left
    have := (Int32.lt_iff_toInt_lt).mp h
    exact this
  · right; right
    have h2 := (Int32.le_iff_toInt_le).mp h
    rw [nI_toInt (by omega)] at h2
    omega
  · exact Or.inl h
theorem NN_sl {h : List AC} {i j ci tg : Nat} {xs ys : List Int32} {fs gs : List Value} (hi : h[i]? = some (.inl (ci, fs))) (hj : h[j]? = some (.inr (tg, .inl xs))) (hij : i ≠ j) (h1 : gs.length = fs.length) (h2 : ys.length = xs.length) : sl (NN h i j ci tg ys gs) = sl h := by
  unfold NN
  rw [sl_set (c := .inl (ci, fs)) (by rw [List.getElem?_set_ne (Ne.symm hij)]; exact hi) (by simp only [sl1]; exact h1), sl_set hj (by simp only [sl1]; exact h2)]
set_option maxRecDepth 100000 in
theorem a_text : Agree 71 120 [] h1 := chk_ok (by decide +kernel)
set_option maxRecDepth 100000 in
theorem a_fault : Agree 72 121 [] h1 := chk_ok (by decide +kernel)
set_option maxRecDepth 100000 in
theorem a_orders : Agree 78 146 [] h1 := chk_ok (by decide +kernel)
set_option maxRecDepth 100000 in
theorem a_washes : Agree 82 154 [] h1 := chk_ok (by decide +kernel)
set_option maxRecDepth 100000 in
theorem a_load : Agree 86 160 [] h1 := chk_ok (by decide +kernel)
set_option maxRecDepth 100000 in
theorem a_undo : Agree 90 165 [] h1 := chk_ok (by decide +kernel)
set_option maxRecDepth 100000 in
theorem z_lays : CF 29 132 [.ref 137] h1 = some (none, h1) := eqR_ok (by decide +kernel)
set_option maxRecDepth 100000 in
theorem a_now0 : Agree 73 140 [.int (nI 0)] h1 := chk_ok (by decide +kernel)
set_option maxRecDepth 100000 in
theorem a_now1 : Agree 73 140 [.int (nI 1)] h1 := chk_ok (by decide +kernel)
set_option maxRecDepth 100000 in
theorem a_now2 : Agree 73 140 [.int (nI 2)] h1 := chk_ok (by decide +kernel)
set_option maxRecDepth 100000 in
theorem a_now3 : Agree 73 140 [.int (nI 3)] h1 := chk_ok (by decide +kernel)
set_option maxRecDepth 100000 in
theorem a_now4 : Agree 73 140 [.int (nI 4)] h1 := chk_ok (by decide +kernel)
set_option maxRecDepth 100000 in
theorem a_now5 : Agree 73 140 [.int (nI 5)] h1 := chk_ok (by decide +kernel)
set_option maxRecDepth 100000 in
theorem a_now6 : Agree 73 140 [.int (nI 6)] h1 := chk_ok (by decide +kernel)
set_option maxRecDepth 100000 in
theorem a_now7 : Agree 73 140 [.int (nI 7)] h1 := chk_ok (by decide +kernel)
set_option maxRecDepth 100000 in
theorem a_now8 : Agree 73 140 [.int (nI 8)] h1 := chk_ok (by decide +kernel)
set_option maxRecDepth 100000 in
theorem a_now9 : Agree 73 140 [.int (nI 9)] h1 := chk_ok (by decide +kernel)
def h2p : List AC := match CF 29 25 [.ref 121, .ref 4, .ref 22] h1 with
  | some q => q.2
  | none => []
def h2o : List AC := match CF 29 18 [.ref 117, .ref 4, .ref 23, .int 0] h1 with
  | some q => q.2
  | none => []
set_option maxRecDepth 100000 in
theorem z_plan : CF 29 25 [.ref 121, .ref 4, .ref 22] h1 = some (some (.int 1), h2p) := eqR_ok (by decide +kernel)
set_option maxRecDepth 100000 in
theorem z_count : CF 29 18 [.ref 117, .ref 4, .ref 23, .int 0] h1 = some (some (.int 1), h2o) := eqR_ok (by decide +kernel)
theorem q121_ : h1[121]? = some (.inl (3, PF)) := eqO_ok (by decide +kernel)
theorem p0_ : h2p[0]? = some (.inl (7, DF)) := eqO_ok (by decide +kernel)
theorem p4_ : h2p[4]? = some (.inl (6, OF)) := eqO_ok (by decide +kernel)
theorem p137_ : h2p[137]? = some (.inl (8, MF)) := eqO_ok (by decide +kernel)
theorem p139_ : h2p[139]? = some (.inr (0, .inl NW)) := eqO_ok (by decide +kernel)
theorem h2p_len : h2p.length ≤ 1000 ∧ sl h2p ≤ 20000 := by decide +kernel
theorem o0_ : h2o[0]? = some (.inl (7, DF)) := eqO_ok (by decide +kernel)
theorem o117_ : h2o[117]? = some (.inl (2, TF)) := eqO_ok (by decide +kernel)
theorem o137_ : h2o[137]? = some (.inl (8, MF)) := eqO_ok (by decide +kernel)
theorem h2o_len : h2o.length ≤ 1000 ∧ sl h2o ≤ 20000 := by decide +kernel
set_option maxRecDepth 100000 in
theorem y_lays : CF 29 132 [.ref 137] h2o = some (none, h2o) := eqR_ok (by decide +kernel)
set_option maxRecDepth 100000 in
theorem y_aboard : CF 29 139 [.ref 137] h2o = some (some (.int 0), h2o) := eqR_ok (by decide +kernel)
set_option maxRecDepth 100000 in
theorem y_of : CF 29 138 [.ref 137, .int 0] h2o = some (some (.int 1), h2o) := eqR_ok (by decide +kernel)
set_option maxRecDepth 100000 in
theorem a_plan0 : Agree 81 153 [.int (nI 0)] h1 := chk_ok (by decide +kernel)
set_option maxRecDepth 100000 in
theorem a_plan1 : Agree 81 153 [.int (nI 1)] h1 := chk_ok (by decide +kernel)
theorem q1_ : h1[1]? = some (.inr (1, .inl (List.replicate 740 0))) := eqO_ok (by decide +kernel)
theorem q138_ : h1[138]? = some (.inr (0, .inl (List.replicate 740 0))) := eqO_ok (by decide +kernel)
