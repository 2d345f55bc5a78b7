/-! X8_undo -/
def s_X8_undo_L26 : Nat → Int32 → HS → Option (Int32 × HS)
  | 0, _, _ => none
  | K + 1, v1, S =>
    if (157 : Int32) ≤ v1 then
      some ((gf S 137 14), S)
    else
      Option.bind (ag (ga S 141) (((157 : Int32) * (gf S 137 14)) + v1)) fun a3 =>
      Option.bind (wa S 139 v1 a3) fun S4 =>
      s_X8_undo_L26 K (v1 + (1 : Int32)) S4
def s_X8_undo (S : HS) : Option (Int32 × HS) :=
  Option.bind (pf S 137 0 (0 : Int32)) fun S1 =>
  if (gf S1 137 14) ≠ (0 : Int32) then
    Option.bind (pf S1 137 14 ((gf S1 137 14) - (1 : Int32))) fun S2 =>
    s_X8_undo_L26 200 (0 : Int32) S2
  else
    some ((-1 : Int32), S1)
set_option maxRecDepth 100000 in
theorem rl_X8_undo_L26 {e : Nat} (he : 0 ≤ e) {O : HS} {n : Nat} : ∀ (K : Nat) (v1 : Int32) (S : HS), Lm (oIW true O) (s_X8_undo_L26 K v1 S) (run (CF e) (k_X8_undo false) (n + (18 * K + 0)) 26 [some (.ref 137), some (.int v1)] [] (en true O S)) := by
  intro K
  induction K with
  | zero =>
    intros
    exact lm_none
  | succ K ih =>
    intro v1 S
    rw [show n + (18 * (K + 1) + 0) = n + (18 * K + 0) + 18 by omega]
    rw [s_X8_undo_L26]
    refine r_pure rfl rfl ?_
    refine r_pure rfl rfl ?_
    refine r_if2 rfl rfl ?_ ?_
    · refine r_pure rfl rfl ?_
      refine r_get rfl (en_get ⟨rfl, by decide⟩ rfl) (fo_get (S := S) rfl) ?_
      exact r_retI rfl rfl
    · refine r_pure rfl rfl ?_
      refine r_get rfl (en_get ⟨rfl, by decide⟩ rfl) (fo_get (S := S) rfl) ?_
      refine r_pure rfl rfl ?_
      refine r_pure rfl rfl ?_
      refine r_get rfl (en_get ⟨rfl, by decide⟩ rfl) (fo_get (S := S) rfl) ?_
      refine r_pure rfl rfl ?_
      refine r_pure rfl rfl ?_
      refine r_get rfl (en_get ⟨rfl, by decide⟩ rfl) (fo_get (S := S) rfl) ?_
      refine r_pure rfl rfl ?_
      refine r_pure rfl rfl ?_
      refine r_pure rfl rfl ?_
      refine r_iald rfl (en_get ⟨rfl, by decide⟩ rfl) (fun a3 => ?_)
      refine r_iast rfl ⟨rfl, by decide⟩ (Or.inl rfl) rfl (fun S4 => ?_)
      refine r_pure (lv' := [some (.ref 137), some (.int (v1 + (1 : Int32)))]) rfl rfl ?_
      refine r_pure rfl rfl ?_
      exact lm_le (by omega) (ih (v1 + (1 : Int32)) S4)
set_option maxRecDepth 100000 in
theorem rf_X8_undo {d : Nat} (hd : 1 ≤ d) {O : HS} (S : HS) : Lm (oIW true O) (s_X8_undo S) (CF d 164 [.ref 137] (en true O S)) := by
  unfold s_X8_undo
  obtain ⟨e, rfl⟩ : ∃ e, d = e + 1 := ⟨d - 1, by omega⟩
  refine rm_of (lv := [some (.ref 137), none]) (k_X8_undo false) (by omega) rfl rfl (Nat.le_of_ble_eq_true rfl) ?_
  refine lm_le (n := 3614) (by omega) ?_
  show Lm _ _ (run (CF e) _ _ _ _ _ _)
  refine r_pure rfl rfl ?_
  refine r_pure rfl rfl ?_
  refine r_putI rfl ⟨rfl, by decide⟩ rfl rfl rfl (fun S1 => ?_)
  refine r_pure rfl rfl ?_
  refine r_get rfl (en_get ⟨rfl, by decide⟩ rfl) (fo_get (S := S1) rfl) ?_
  refine r_if1 rfl rfl ?_ ?_
  · refine r_pure rfl rfl ?_
    refine r_pure rfl rfl ?_
    refine r_get rfl (en_get ⟨rfl, by decide⟩ rfl) (fo_get (S := S1) rfl) ?_
    refine r_pure rfl rfl ?_
    refine r_pure rfl rfl ?_
    refine r_putI rfl ⟨rfl, by decide⟩ rfl rfl rfl (fun S2 => ?_)
    refine r_pure rfl rfl ?_
    refine r_pure (lv' := [some (.ref 137), some (.int (0 : Int32))]) rfl rfl ?_
    exact lm_le (by omega) (rl_X8_undo_L26 (n := 0) (by omega) 200 (0 : Int32) S2)
  · refine r_pure rfl rfl ?_
    exact r_retI rfl rfl
