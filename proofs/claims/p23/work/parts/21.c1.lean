/-! contracts: JDK and leaves -/
abbrev CF (d : Nat) : Call := callD (codeT false) mI 1000000 d
theorem drop_at {xs : List Int32} {k : Nat} (h : k < xs.length) : xs.drop k = (xs.getD k 0) :: xs.drop (k + 1) := by
  rw [List.drop_eq_getElem_cons h, List.getD_eq_getElem?_getD, List.getElem?_eq_getElem h]
  rfl
theorem fill_set {xs : List Int32} {k : Nat} {v : Int32} (h : k < xs.length) : (List.replicate k v ++ xs.drop k).set k v = List.replicate (k + 1) v ++ xs.drop (k + 1) := by
  rw [List.set_append_right _ _ (by simp), drop_at h]
  simp [List.replicate_succ']
theorem nlt {k : Nat} (h : k < 2 ^ 31) : ¬ nI k < 0 := nI_pos h
theorem set_get {h : List AC} {b : Nat} {c c' : AC} (hb : h[b]? = some c) : (h.set b c')[b]? = some c' := List.getElem?_set_self (lt_at hb)
set_option maxRecDepth 100000 in
theorem fill_loop {call : Call} {h : List AC} {b : Nat} {xs : List Int32} {v : Int32} (hb : h[b]? = some (.inr (0, .inl xs))) (hl : xs.length < 2 ^ 31) : ∀ (m k : Nat), k + m = xs.length → run call (k_J7_fill_53178 false) (10 * m + 5) 5 [some (.ref b), some (.int v), some (.int (nI k)), some (.int (nI xs.length))] [] (h.set b (.inr (0, .inl (List.replicate k v ++ xs.drop k)))) = some (none, h.set b (.inr (0, .inl (List.replicate xs.length v)))) := by
  intro m
  induction m with
  | zero =>
    intro k hk
    have hk : k = xs.length := by omega
    subst hk
    refine g_pure rfl rfl ?_
    refine g_pure rfl rfl ?_
    refine g_if2t rfl (decide_eq_true (nI_le (Nat.le_refl _) hl)) ?_
    refine g_retV rfl ?_
    rw [List.drop_length, List.append_nil]
  | succ m ih =>
    intro k hk
    have hlt : k < xs.length := by omega
    rw [show 10 * (m + 1) + 5 = (10 * m + 5) + 1 + 9 by omega]
    refine g_pure rfl rfl ?_
    refine g_pure rfl rfl ?_
    refine g_if2f rfl (decide_eq_false (nI_ge hlt hl)) ?_
    refine g_pure rfl rfl ?_
    refine g_pure rfl rfl ?_
    refine g_pure rfl rfl ?_
    refine g_iast rfl (set_get hb) (nlt (by omega)) (by rw [nI_clamp (by omega)]; simp; omega) ?_
    rw [nI_clamp (by omega), List.set_set, fill_set hlt]
    refine g_pure rfl rfl ?_
    refine g_pure rfl rfl ?_
    have e1 : nI k + 1 = nI (k + 1) := nI_1 k
    show run call (k_J7_fill_53178 false) (10 * m + 5 + 1) 5 [some (.ref b), some (.int v), some (.int (nI k + 1)), some (.int (nI xs.length))] [] _ = _
    rw [e1]
    exact run_le (by omega) (ih (k + 1) (by omega))
/-- Arrays.fill -/
theorem c_fill (d : Nat) {h : List AC} {b : Nat} {xs : List Int32} (v : Int32) (hb : h[b]? = some (.inr (0, .inl xs))) (hl : xs.length ≤ 10000) : CF (d + 1) 165 [.ref b, .int v] h = some (none, h.set b (.inr (0, .inl (List.replicate xs.length v)))) := by
  refine callD_of (k_J7_fill_53178 false) rfl (Nat.le_of_ble_eq_true rfl) ?_
  have hself : h.set b (.inr (0, .inl (List.replicate 0 v ++ xs.drop 0))) = h := by
    apply List.ext_getElem?
    intro i
    rw [List.getElem?_set]
    split
    · next e => subst e; rw [if_pos (lt_at hb), hb]; rfl
    · rfl
  have g := fill_loop (call := CF d) (v := v) hb (by omega) xs.length 0 (Nat.zero_add _)
  rw [hself] at g
  refine g_pure rfl rfl ?_
  refine g_pure rfl rfl ?_
  refine g_pure rfl rfl ?_
  refine g_len rfl hb ?_
  refine g_pure rfl rfl ?_
  exact run_le (by omega) g
/-- a cargo: the object and its four rows -/
def IsCargo (h : List AC) (b : Nat) (he ow la we : List Int32) : Prop :=
  h[b]? = some (.inl (0, [.ref (b + 1), .ref (b + 2), .ref (b + 3), .ref (b + 4)])) ∧ h[b + 1]? = some (.inr (0, .inl he)) ∧ h[b + 2]? = some (.inr (0, .inl ow)) ∧ h[b + 3]? = some (.inr (0, .inl la)) ∧ h[b + 4]? = some (.inr (0, .inl we)) ∧ he.length = 5 ∧ ow.length = 5 ∧ la.length = 5 ∧ we.length = 5
/-- what is loaded of a drop, from a compartment on -/
def ldF (he ow : List Int32) (dr : Int32) : Nat → Int32 → Int32
  | 0, s => s
  | m + 1, s => ldF he ow dr m (if ow.getD (5 - (m + 1)) 0 = dr then s + he.getD (5 - (m + 1)) 0 else s)
theorem at5 {xs : List Int32} {k : Nat} (hl : xs.length = 5) (hk : k < 5) : xs[(nI k).toNatClampNeg]? = some (xs.getD k 0) := by
  rw [nI_clamp (by omega), List.getD_eq_getElem?_getD, List.getElem?_eq_getElem (by omega)]
  rfl
set_option maxRecDepth 100000 in
theorem loaded_loop {call : Call} {h : List AC} {b : Nat} {he ow la we : List Int32} {dr : Int32} (hc : IsCargo h b he ow la we) : ∀ (m : Nat) (s : Int32), m ≤ 5 → run call (k_X0_loaded false) (20 * m + 6) 4 [some (.ref b), some (.int dr), some (.int s), some (.int (nI (5 - m)))] [] h = some (some (.int (ldF he ow dr m s)), h) := by
  obtain ⟨q0, q1, q2, q3, q4, l1, l2, l3, l4⟩ := hc
  intro m
  induction m with
  | zero =>
    intro s _
    refine g_pure rfl rfl ?_
    refine g_pure rfl rfl ?_
    refine g_if2t rfl (by decide) ?_
    refine g_pure rfl rfl ?_
    exact g_retI rfl rfl
  | succ m ih =>
    intro s hm
    rw [show 20 * (m + 1) + 6 = (20 * m + 6) + 20 by omega]
    have hk : 5 - (m + 1) < 5 := by omega
    refine g_pure rfl rfl ?_
    refine g_pure rfl rfl ?_
    refine g_if2f rfl (decide_eq_false (nI_ge (b := 5) hk (by decide))) ?_
    refine g_pure rfl rfl ?_
    refine g_get rfl q0 rfl ?_
    refine g_pure rfl rfl ?_
    refine g_iald rfl q2 (nlt (by omega)) (at5 l2 hk) ?_
    refine g_pure rfl rfl ?_
    have e1 : nI (5 - (m + 1)) + 1 = nI (5 - m) := by rw [nI_1]; congr 1; omega
    refine g_if2 rfl (fun hc => ?_) (fun hc => ?_)
    · have hne := of_decide_eq_true hc
      have hg : ldF he ow dr (m + 1) s = ldF he ow dr m s := by
        show ldF he ow dr m _ = _
        rw [if_neg hne]
      rw [hg]
      refine g_pure rfl rfl ?_
      refine g_pure rfl rfl ?_
      show run _ _ _ 4 [some (.ref b), some (.int dr), some (.int s), some (.int (nI (5 - (m + 1)) + 1))] [] _ = _
      rw [e1]
      exact run_le (by omega) (ih s (by omega))
    · have hne := of_decide_eq_false hc
      have heq : ow.getD (5 - (m + 1)) 0 = dr := Decidable.not_not.mp hne
      have hg : ldF he ow dr (m + 1) s = ldF he ow dr m (s + he.getD (5 - (m + 1)) 0) := by
        show ldF he ow dr m _ = _
        rw [if_pos heq]
      rw [hg]
      refine g_pure rfl rfl ?_
      refine g_pure rfl rfl ?_
      refine g_get rfl q0 rfl ?_
      refine g_pure rfl rfl ?_
      refine g_iald rfl q1 (nlt (by omega)) (at5 l1 hk) ?_
      refine g_pure rfl rfl ?_
      refine g_pure rfl rfl ?_
      refine g_pure rfl rfl ?_
      refine g_pure rfl rfl ?_
      show run _ _ _ 4 [some (.ref b), some (.int dr), some (.int (s + he.getD (5 - (m + 1)) 0)), some (.int (nI (5 - (m + 1)) + 1))] [] _ = _
      rw [e1]
      exact run_le (by omega) (ih _ (by omega))
/-- Cargo.loaded -/
theorem c_loaded (d : Nat) {h : List AC} {b : Nat} {he ow la we : List Int32} (dr : Int32) (hc : IsCargo h b he ow la we) : CF (d + 1) 6 [.ref b, .int dr] h = some (some (.int (ldF he ow dr 5 0)), h) := by
  refine callD_of (k_X0_loaded false) rfl (Nat.le_of_ble_eq_true rfl) ?_
  refine g_pure rfl rfl ?_
  refine g_pure rfl rfl ?_
  refine g_pure rfl rfl ?_
  refine g_pure rfl rfl ?_
  exact run_le (by decide) (loaded_loop hc 5 0 (Nat.le_refl _))
