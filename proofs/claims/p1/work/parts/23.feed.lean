/-! an object and one of its rows, seen together -/
def NN (h : List AC) (i j ci tg : Nat) (xs : List Int32) (fs : List Value) : List AC := (h.set j (.inr (tg, .inl xs))).set i (.inl (ci, fs))
section NNs
variable {h : List AC} {i j ci tg : Nat} {xs : List Int32} {fs : List Value}
theorem NN_len : (NN h i j ci tg xs fs).length = h.length := by simp [NN]
theorem NN_i (hi : i < h.length) : (NN h i j ci tg xs fs)[i]? = some (.inl (ci, fs)) := by
  unfold NN
  rw [List.getElem?_set_self (by simpa using hi)]
theorem NN_j (hij : i ≠ j) (hj : j < h.length) : (NN h i j ci tg xs fs)[j]? = some (.inr (tg, .inl xs)) := by
  unfold NN
  rw [List.getElem?_set_ne hij, List.getElem?_set_self hj]
theorem NN_k {k : Nat} (h1 : i ≠ k) (h2 : j ≠ k) : (NN h i j ci tg xs fs)[k]? = h[k]? := by
  unfold NN
  rw [List.getElem?_set_ne h1, List.getElem?_set_ne h2]
theorem NN_si {gs : List Value} : (NN h i j ci tg xs fs).set i (.inl (ci, gs)) = NN h i j ci tg xs gs := by
  unfold NN
  rw [List.set_set]
theorem NN_sj (hij : i ≠ j) {ys : List Int32} : (NN h i j ci tg xs fs).set j (.inr (tg, .inl ys)) = NN h i j ci tg ys fs := by
  unfold NN
  rw [List.set_comm _ _ hij, List.set_set]
theorem NN_id (hi : h[i]? = some (.inl (ci, fs))) (hj : h[j]? = some (.inr (tg, .inl xs))) (hij : i ≠ j) : NN h i j ci tg xs fs = h := by
  apply List.ext_getElem?
  intro k
  by_cases h1 : i = k
  · subst h1
    rw [NN_i (lt_at hi), hi]
  · by_cases h2 : j = k
    · subst h2
      rw [NN_j hij (lt_at hj), hj]
    · rw [NN_k h1 h2]
end NNs
theorem fs_1 {fs : List Value} {k : Nat} {v : Value} (hl : k < fs.length) : (fs.set k v)[k]? = some v := List.getElem?_set_self hl
theorem fs_0 {fs : List Value} {k i : Nat} {v w : Value} (h : k ≠ i) (hf : fs[i]? = some w) : (fs.set k v)[i]? = some w := by rw [List.getElem?_set_ne h]; exact hf
def okT (t : Int32) : Prop := b2_ge t 740 = false ∧ ¬ t < 0 ∧ t.toNatClampNeg < 740
def tb (a s : Int32) : Int32 := (o_ishr a s).toInt8.toInt32.toInt8.toInt32
set_option maxRecDepth 100000 in
/-- one turn of TankerDesk.tapeNumber's loop -/
theorem x_turn {call : Call} {n : Nat} {a s t : Int32} {h : List AC} {xs : List Int32} {fs : List Value} {res : Option Value × List AC} (hh : 1 < h.length) (hf : 1 < fs.length) (f0 : fs[0]? = some (.ref 1)) (hlen : xs.length = 740) (hs : b1_lt s = false) (ht : okT t)
    (g : run call (k_X7_tapeNumber false) n 3 [(2, .int (s + (-8))), (0, .ref 0), (1, .int a)] [] (NN h 0 1 7 1 (xs.set t.toNatClampNeg (tb a s)) (fs.set 1 (.int (o_iadd t 1)))) = some res) :
    run call (k_X7_tapeNumber false) (n + 23) 3 [(2, .int s), (0, .ref 0), (1, .int a)] [] (NN h 0 1 7 1 xs (fs.set 1 (.int t))) = some res := by
  have h0 : ∀ {ys : List Int32} {gs : List Value}, (NN h 0 1 7 1 ys gs)[0]? = some (.inl (7, gs)) := fun {ys gs} => NN_i (by omega)
  have hj : ∀ {ys : List Int32} {gs : List Value}, (NN h 0 1 7 1 ys gs)[1]? = some (.inr (1, .inl ys)) := fun {ys gs} => NN_j (by decide) hh
  refine g_pure rfl rfl ?_
  refine g_if1f rfl hs ?_
  refine g_pure rfl rfl ?_
  refine g_get rfl h0 (fs_1 hf) ?_
  refine g_pure rfl rfl ?_
  refine g_if2f rfl ht.1 ?_
  refine g_pure rfl rfl ?_
  refine g_get rfl h0 (fs_0 (by decide) f0) ?_
  refine g_pure rfl rfl ?_
  refine g_get rfl h0 (fs_1 hf) ?_
  refine g_pure rfl rfl ?_
  refine g_pure rfl rfl ?_
  refine g_pure rfl rfl ?_
  refine g_pure rfl rfl ?_
  refine g_iast rfl hj ht.2.1 (by rw [hlen]; exact ht.2.2) ?_
  rw [NN_sj (by decide)]
  refine g_pure rfl rfl ?_
  refine g_pure rfl rfl ?_
  refine g_get rfl h0 (fs_1 hf) ?_
  refine g_pure rfl rfl ?_
  refine g_pure rfl rfl ?_
  refine g_put rfl h0 (by rw [List.length_set]; exact hf) rfl ?_
  rw [NN_si, List.set_set]
  refine g_pure rfl rfl ?_
  refine g_pure rfl rfl ?_
  exact g
set_option maxRecDepth 100000 in
theorem x_tapeN (d : Nat) (a t : Int32) {h : List AC} {xs : List Int32} {fs : List Value} (hh : 1 < h.length) (hf : 1 < fs.length) (f0 : fs[0]? = some (.ref 1)) (hlen : xs.length = 740) (c0 : okT t) (c1 : okT (o_iadd t 1)) (c2 : okT (o_iadd (o_iadd t 1) 1)) (c3 : okT (o_iadd (o_iadd (o_iadd t 1) 1) 1)) :
    ∃ ys : List Int32, ys.length = 740 ∧ CF (d + 1) 91 [.ref 0, .int a] (NN h 0 1 7 1 xs (fs.set 1 (.int t))) = some (none, NN h 0 1 7 1 ys (fs.set 1 (.int (o_iadd (o_iadd (o_iadd (o_iadd t 1) 1) 1) 1)))) := by
  refine ⟨((((xs.set t.toNatClampNeg (tb a 24)).set (o_iadd t 1).toNatClampNeg (tb a (24 + (-8)))).set (o_iadd (o_iadd t 1) 1).toNatClampNeg (tb a (24 + (-8) + (-8)))).set (o_iadd (o_iadd (o_iadd t 1) 1) 1).toNatClampNeg (tb a (24 + (-8) + (-8) + (-8)))), ?_, callD_of (k_X7_tapeNumber false) rfl (Nat.le_of_ble_eq_true rfl) ?_⟩
  rotate_left
  · refine g_pure rfl rfl ?_
    refine g_pure rfl rfl ?_
    refine x_turn hh hf f0 hlen (by decide) c0 ?_
    refine x_turn hh hf f0 (by rw [List.length_set]; exact hlen) (by decide) c1 ?_
    refine x_turn hh hf f0 (by rw [List.length_set, List.length_set]; exact hlen) (by decide) c2 ?_
    refine x_turn hh hf f0 (by rw [List.length_set, List.length_set, List.length_set]; exact hlen) (by decide) c3 ?_
    refine g_pure rfl rfl ?_
    refine g_if1t rfl (by decide) ?_
    exact g_retV rfl rfl
  · rw [List.length_set, List.length_set, List.length_set, List.length_set]
    exact hlen
def mb (a s : Int32) : Int32 := o_iand (o_iushr a s) 255
set_option maxRecDepth 100000 in
/-- one turn of the reference's -/
theorem m_turn {call : Call} {n : Nat} {a s t : Int32} {h : List AC} {xs : List Int32} {fs : List Value} {res : Option Value × List AC} (hh : 138 < h.length) (hf : 2 < fs.length) (f0 : fs[1]? = some (.ref 138)) (hlen : xs.length = 740) (hs : b1_lt s = false) (ht : okT t)
    (g : run call (k_X8_lays false) n 3 [(2, .int (s + (-8))), (0, .ref 137), (1, .int a)] [] (NN h 137 138 8 0 (xs.set t.toNatClampNeg (mb a s)) (fs.set 2 (.int (o_iadd t 1)))) = some res) :
    run call (k_X8_lays false) (n + 20) 3 [(2, .int s), (0, .ref 137), (1, .int a)] [] (NN h 137 138 8 0 xs (fs.set 2 (.int t))) = some res := by
  have h0 : ∀ {ys : List Int32} {gs : List Value}, (NN h 137 138 8 0 ys gs)[137]? = some (.inl (8, gs)) := fun {ys gs} => NN_i (by omega)
  have hj : ∀ {ys : List Int32} {gs : List Value}, (NN h 137 138 8 0 ys gs)[138]? = some (.inr (0, .inl ys)) := fun {ys gs} => NN_j (by decide) hh
  refine g_pure rfl rfl ?_
  refine g_if1f rfl hs ?_
  refine g_pure rfl rfl ?_
  refine g_get rfl h0 (fs_0 (by decide) f0) ?_
  refine g_pure rfl rfl ?_
  refine g_get rfl h0 (fs_1 hf) ?_
  refine g_pure rfl rfl ?_
  refine g_pure rfl rfl ?_
  refine g_pure rfl rfl ?_
  refine g_pure rfl rfl ?_
  refine g_pure rfl rfl ?_
  refine g_iast rfl hj ht.2.1 (by rw [hlen]; exact ht.2.2) ?_
  rw [NN_sj (by decide)]
  refine g_pure rfl rfl ?_
  refine g_pure rfl rfl ?_
  refine g_get rfl h0 (fs_1 hf) ?_
  refine g_pure rfl rfl ?_
  refine g_pure rfl rfl ?_
  refine g_put rfl h0 (by rw [List.length_set]; exact hf) rfl ?_
  rw [NN_si, List.set_set]
  refine g_pure rfl rfl ?_
  refine g_pure rfl rfl ?_
  exact g
set_option maxRecDepth 100000 in
theorem m_lays (d : Nat) (a t : Int32) {h : List AC} {xs : List Int32} {fs : List Value} (hh : 138 < h.length) (hf : 2 < fs.length) (f0 : fs[1]? = some (.ref 138)) (hlen : xs.length = 740) (c0 : okT t) (c1 : okT (o_iadd t 1)) (c2 : okT (o_iadd (o_iadd t 1) 1)) (c3 : okT (o_iadd (o_iadd (o_iadd t 1) 1) 1)) :
    ∃ ys : List Int32, ys.length = 740 ∧ CF (d + 1) 97 [.ref 137, .int a] (NN h 137 138 8 0 xs (fs.set 2 (.int t))) = some (none, NN h 137 138 8 0 ys (fs.set 2 (.int (o_iadd (o_iadd (o_iadd (o_iadd t 1) 1) 1) 1)))) := by
  refine ⟨((((xs.set t.toNatClampNeg (mb a 24)).set (o_iadd t 1).toNatClampNeg (mb a (24 + (-8)))).set (o_iadd (o_iadd t 1) 1).toNatClampNeg (mb a (24 + (-8) + (-8)))).set (o_iadd (o_iadd (o_iadd t 1) 1) 1).toNatClampNeg (mb a (24 + (-8) + (-8) + (-8)))), ?_, callD_of (k_X8_lays false) rfl (Nat.le_of_ble_eq_true rfl) ?_⟩
  rotate_left
  · refine g_pure rfl rfl ?_
    refine g_pure rfl rfl ?_
    refine m_turn hh hf f0 hlen (by decide) c0 ?_
    refine m_turn hh hf f0 (by rw [List.length_set]; exact hlen) (by decide) c1 ?_
    refine m_turn hh hf f0 (by rw [List.length_set, List.length_set]; exact hlen) (by decide) c2 ?_
    refine m_turn hh hf f0 (by rw [List.length_set, List.length_set, List.length_set]; exact hlen) (by decide) c3 ?_
    refine g_pure rfl rfl ?_
    refine g_if1t rfl (by decide) ?_
    exact g_retV rfl rfl
  · rw [List.length_set, List.length_set, List.length_set, List.length_set]
    exact hlen
set_option maxRecDepth 100000 in
theorem x_feed (a b c d e : Int32) {h : List AC} {xs : List Int32} {fs : List Value} (hh : 1 < h.length) (hf : 1 < fs.length) (f0 : fs[0]? = some (.ref 1)) (hlen : xs.length = 740) :
    ∃ ys : List Int32, ys.length = 740 ∧ CF 30 69 [.ref 0, .int a, .int b, .int c, .int d, .int e] (NN h 0 1 7 1 xs (fs.set 1 (.int 0))) = some (some (.int 20), NN h 0 1 7 1 ys (fs.set 1 (.int (o_iadd (o_iadd (o_iadd (o_iadd (o_iadd (o_iadd (o_iadd (o_iadd (o_iadd (o_iadd (o_iadd (o_iadd (o_iadd (o_iadd (o_iadd (o_iadd (o_iadd (o_iadd (o_iadd (o_iadd 0 1) 1) 1) 1) 1) 1) 1) 1) 1) 1) 1) 1) 1) 1) 1) 1) 1) 1) 1) 1)))) := by
  have h0 : ∀ {ys : List Int32} {gs : List Value}, (NN h 0 1 7 1 ys gs)[0]? = some (.inl (7, gs)) := fun {ys gs} => NN_i (by omega)
  obtain ⟨y0, l0, e0⟩ := x_tapeN 28 a 0 hh hf f0 hlen ⟨by decide, by decide, by decide⟩ ⟨by decide, by decide, by decide⟩ ⟨by decide, by decide, by decide⟩ ⟨by decide, by decide, by decide⟩
  obtain ⟨y1, l1, e1⟩ := x_tapeN 28 b (o_iadd (o_iadd (o_iadd (o_iadd 0 1) 1) 1) 1) hh hf f0 l0 ⟨by decide, by decide, by decide⟩ ⟨by decide, by decide, by decide⟩ ⟨by decide, by decide, by decide⟩ ⟨by decide, by decide, by decide⟩
  obtain ⟨y2, l2, e2⟩ := x_tapeN 28 c (o_iadd (o_iadd (o_iadd (o_iadd (o_iadd (o_iadd (o_iadd (o_iadd 0 1) 1) 1) 1) 1) 1) 1) 1) hh hf f0 l1 ⟨by decide, by decide, by decide⟩ ⟨by decide, by decide, by decide⟩ ⟨by decide, by decide, by decide⟩ ⟨by decide, by decide, by decide⟩
  obtain ⟨y3, l3, e3⟩ := x_tapeN 28 d (o_iadd (o_iadd (o_iadd (o_iadd (o_iadd (o_iadd (o_iadd (o_iadd (o_iadd (o_iadd (o_iadd (o_iadd 0 1) 1) 1) 1) 1) 1) 1) 1) 1) 1) 1) 1) hh hf f0 l2 ⟨by decide, by decide, by decide⟩ ⟨by decide, by decide, by decide⟩ ⟨by decide, by decide, by decide⟩ ⟨by decide, by decide, by decide⟩
  obtain ⟨y4, l4, e4⟩ := x_tapeN 28 e (o_iadd (o_iadd (o_iadd (o_iadd (o_iadd (o_iadd (o_iadd (o_iadd (o_iadd (o_iadd (o_iadd (o_iadd (o_iadd (o_iadd (o_iadd (o_iadd 0 1) 1) 1) 1) 1) 1) 1) 1) 1) 1) 1) 1) 1) 1) 1) 1) hh hf f0 l3 ⟨by decide, by decide, by decide⟩ ⟨by decide, by decide, by decide⟩ ⟨by decide, by decide, by decide⟩ ⟨by decide, by decide, by decide⟩
  refine ⟨y4, l4, callD_of (k_X7_feed false) rfl (Nat.le_of_ble_eq_true rfl) ?_⟩
  refine g_pure rfl rfl ?_
  refine g_get rfl h0 (fs_1 hf) ?_
  refine g_pure rfl rfl ?_
  refine g_pure rfl rfl ?_
  refine g_pure rfl rfl ?_
  refine g_if2t rfl (by decide) ?_
  refine g_pure rfl rfl ?_
  refine g_pure rfl rfl ?_
  refine g_callV rfl rfl h0 (Nat.le_of_ble_eq_true rfl) e0 ?_
  refine g_pure rfl rfl ?_
  refine g_pure rfl rfl ?_
  refine g_callV rfl rfl h0 (Nat.le_of_ble_eq_true rfl) e1 ?_
  refine g_pure rfl rfl ?_
  refine g_pure rfl rfl ?_
  refine g_callV rfl rfl h0 (Nat.le_of_ble_eq_true rfl) e2 ?_
  refine g_pure rfl rfl ?_
  refine g_pure rfl rfl ?_
  refine g_callV rfl rfl h0 (Nat.le_of_ble_eq_true rfl) e3 ?_
  refine g_pure rfl rfl ?_
  refine g_pure rfl rfl ?_
  refine g_callV rfl rfl h0 (Nat.le_of_ble_eq_true rfl) e4 ?_
  refine g_pure rfl rfl ?_
  refine g_get rfl h0 (fs_1 hf) ?_
  exact g_retI rfl (by rw [show (o_iadd (o_iadd (o_iadd (o_iadd (o_iadd (o_iadd (o_iadd (o_iadd (o_iadd (o_iadd (o_iadd (o_iadd (o_iadd (o_iadd (o_iadd (o_iadd (o_iadd (o_iadd (o_iadd (o_iadd 0 1) 1) 1) 1) 1) 1) 1) 1) 1) 1) 1) 1) 1) 1) 1) 1) 1) 1) 1) 1) = (20 : Int32) from by decide])
set_option maxRecDepth 100000 in
theorem m_feed (a b c d e : Int32) {h : List AC} {xs : List Int32} {fs : List Value} (hh : 138 < h.length) (hf : 2 < fs.length) (f0 : fs[1]? = some (.ref 138)) (ft : fs[0]? = some (.int 0)) (hlen : xs.length = 740) :
    ∃ ys : List Int32, ys.length = 740 ∧ CF 30 98 [.ref 137, .int a, .int b, .int c, .int d, .int e] (NN h 137 138 8 0 xs (fs.set 2 (.int 0))) = some (some (.int 20), NN h 137 138 8 0 ys (fs.set 2 (.int (o_iadd (o_iadd (o_iadd (o_iadd (o_iadd (o_iadd (o_iadd (o_iadd (o_iadd (o_iadd (o_iadd (o_iadd (o_iadd (o_iadd (o_iadd (o_iadd (o_iadd (o_iadd (o_iadd (o_iadd 0 1) 1) 1) 1) 1) 1) 1) 1) 1) 1) 1) 1) 1) 1) 1) 1) 1) 1) 1) 1)))) := by
  have h0 : ∀ {ys : List Int32} {gs : List Value}, (NN h 137 138 8 0 ys gs)[137]? = some (.inl (8, gs)) := fun {ys gs} => NN_i (by omega)
  obtain ⟨y0, l0, e0⟩ := m_lays 28 a 0 hh hf f0 hlen ⟨by decide, by decide, by decide⟩ ⟨by decide, by decide, by decide⟩ ⟨by decide, by decide, by decide⟩ ⟨by decide, by decide, by decide⟩
  obtain ⟨y1, l1, e1⟩ := m_lays 28 b (o_iadd (o_iadd (o_iadd (o_iadd 0 1) 1) 1) 1) hh hf f0 l0 ⟨by decide, by decide, by decide⟩ ⟨by decide, by decide, by decide⟩ ⟨by decide, by decide, by decide⟩ ⟨by decide, by decide, by decide⟩
  obtain ⟨y2, l2, e2⟩ := m_lays 28 c (o_iadd (o_iadd (o_iadd (o_iadd (o_iadd (o_iadd (o_iadd (o_iadd 0 1) 1) 1) 1) 1) 1) 1) 1) hh hf f0 l1 ⟨by decide, by decide, by decide⟩ ⟨by decide, by decide, by decide⟩ ⟨by decide, by decide, by decide⟩ ⟨by decide, by decide, by decide⟩
  obtain ⟨y3, l3, e3⟩ := m_lays 28 d (o_iadd (o_iadd (o_iadd (o_iadd (o_iadd (o_iadd (o_iadd (o_iadd (o_iadd (o_iadd (o_iadd (o_iadd 0 1) 1) 1) 1) 1) 1) 1) 1) 1) 1) 1) 1) hh hf f0 l2 ⟨by decide, by decide, by decide⟩ ⟨by decide, by decide, by decide⟩ ⟨by decide, by decide, by decide⟩ ⟨by decide, by decide, by decide⟩
  obtain ⟨y4, l4, e4⟩ := m_lays 28 e (o_iadd (o_iadd (o_iadd (o_iadd (o_iadd (o_iadd (o_iadd (o_iadd (o_iadd (o_iadd (o_iadd (o_iadd (o_iadd (o_iadd (o_iadd (o_iadd 0 1) 1) 1) 1) 1) 1) 1) 1) 1) 1) 1) 1) 1) 1) 1) 1) hh hf f0 l3 ⟨by decide, by decide, by decide⟩ ⟨by decide, by decide, by decide⟩ ⟨by decide, by decide, by decide⟩ ⟨by decide, by decide, by decide⟩
  refine ⟨y4, l4, callD_of (k_X8_feed false) rfl (Nat.le_of_ble_eq_true rfl) ?_⟩
  refine g_pure rfl rfl ?_
  refine g_pure rfl rfl ?_
  refine g_put0 rfl h0 (fs_0 (by decide) ft) rfl ?_
  refine g_pure rfl rfl ?_
  refine g_get rfl h0 (fs_1 hf) ?_
  refine g_pure rfl rfl ?_
  refine g_pure rfl rfl ?_
  refine g_pure rfl rfl ?_
  refine g_if2t rfl (by decide) ?_
  refine g_pure rfl rfl ?_
  refine g_pure rfl rfl ?_
  refine g_callV rfl rfl h0 (Nat.le_of_ble_eq_true rfl) e0 ?_
  refine g_pure rfl rfl ?_
  refine g_pure rfl rfl ?_
  refine g_callV rfl rfl h0 (Nat.le_of_ble_eq_true rfl) e1 ?_
  refine g_pure rfl rfl ?_
  refine g_pure rfl rfl ?_
  refine g_callV rfl rfl h0 (Nat.le_of_ble_eq_true rfl) e2 ?_
  refine g_pure rfl rfl ?_
  refine g_pure rfl rfl ?_
  refine g_callV rfl rfl h0 (Nat.le_of_ble_eq_true rfl) e3 ?_
  refine g_pure rfl rfl ?_
  refine g_pure rfl rfl ?_
  refine g_callV rfl rfl h0 (Nat.le_of_ble_eq_true rfl) e4 ?_
  refine g_pure rfl rfl ?_
  refine g_get rfl h0 (fs_1 hf) ?_
  exact g_retI rfl (by rw [show (o_iadd (o_iadd (o_iadd (o_iadd (o_iadd (o_iadd (o_iadd (o_iadd (o_iadd (o_iadd (o_iadd (o_iadd (o_iadd (o_iadd (o_iadd (o_iadd (o_iadd (o_iadd (o_iadd (o_iadd 0 1) 1) 1) 1) 1) 1) 1) 1) 1) 1) 1) 1) 1) 1) 1) 1) 1) 1) 1) 1) = (20 : Int32) from by decide])
