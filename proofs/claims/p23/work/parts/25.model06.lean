/-! X8_load -/
def s_X8_load_L36 : Nat → Int32 → HS → Option (Int32 × HS)
  | 0, _, _ => none
  | K + 1, v1, S =>
    Option.bind (ag (ga S 139) (9 : Int32)) fun a4 =>
    if a4 ≤ v1 then
      some ((gf S 137 26), S)
    else
      Option.bind (ag (ga S 149) v1) fun a5 =>
      if a5 = (-1 : Int32) then
        s_X8_load_L36 K (v1 + (1 : Int32)) S
      else
        Option.bind (ag (ga S 149) v1) fun a6 =>
        Option.bind (ag (ga S 150) v1) fun a7 =>
        Option.bind (s_X8_puts v1 a6 a7 S) fun q8 =>
        s_X8_load_L36 K (v1 + (1 : Int32)) q8
def s_X8_load (S : HS) : Option (Int32 × HS) :=
  Option.bind (pf S 137 0 (0 : Int32)) fun S1 =>
  Option.bind (s_X8_laysPlan (0 : Int32) S1) fun q2 =>
  if (gf q2 137 26) ≠ (-1 : Int32) then
    if (gf q2 137 26) ≠ (0 : Int32) then
      Option.bind (s_X8_snap q2) fun q3 =>
      s_X8_load_L36 40 (0 : Int32) q3
    else
      some ((-1 : Int32), q2)
  else
    some ((-2 : Int32), q2)
set_option maxRecDepth 100000 in
theorem rl_X8_load_L36 {e : Nat} (he : 25 ≤ e) {O : HS} {n : Nat} : ∀ (K : Nat) (v1 : Int32) (S : HS), Lm (oIW true O) (s_X8_load_L36 K v1 S) (run (CF e) (k_X8_load false) (n + (25 * K + 0)) 36 [some (.ref 137), some (.int v1)] [] (en true O S)) := by
  intro K
  induction K with
  | zero =>
    intros
    exact lm_none
  | succ K ih =>
    intro v1 S
    rw [show n + (25 * (K + 1) + 0) = n + (25 * K + 0) + 25 by omega]
    rw [s_X8_load_L36]
    refine r_pure rfl rfl ?_
    refine r_pure rfl rfl ?_
    refine r_get rfl (en_get (b := true) (k := 137) (L := 12) ⟨rfl, by decide⟩ rfl) (fo_get (S := S) rfl) ?_
    refine r_pure rfl rfl ?_
    refine r_iald rfl (en_get (b := true) (k := 139) (L := 0) ⟨rfl, by decide⟩ rfl) (fun a4 => ?_)
    refine r_if2 rfl rfl ?_ ?_
    · refine r_pure rfl rfl ?_
      refine r_get rfl (en_get (b := true) (k := 137) (L := 12) ⟨rfl, by decide⟩ rfl) (fo_get (S := S) rfl) ?_
      exact r_retI rfl rfl
    · refine r_pure rfl rfl ?_
      refine r_get rfl (en_get (b := true) (k := 137) (L := 12) ⟨rfl, by decide⟩ rfl) (fo_get (S := S) rfl) ?_
      refine r_pure rfl rfl ?_
      refine r_iald rfl (en_get (b := true) (k := 149) (L := 0) ⟨rfl, by decide⟩ rfl) (fun a5 => ?_)
      refine r_pure rfl rfl ?_
      refine r_if2 rfl rfl ?_ ?_
      · refine r_pure (lv' := [some (.ref 137), some (.int (v1 + (1 : Int32)))]) rfl rfl ?_
        refine r_pure rfl rfl ?_
        exact lm_le (by omega) (ih (v1 + (1 : Int32)) S)
      · refine r_pure rfl rfl ?_
        refine r_pure rfl rfl ?_
        refine r_pure rfl rfl ?_
        refine r_get rfl (en_get (b := true) (k := 137) (L := 12) ⟨rfl, by decide⟩ rfl) (fo_get (S := S) rfl) ?_
        refine r_pure rfl rfl ?_
        refine r_iald rfl (en_get (b := true) (k := 149) (L := 0) ⟨rfl, by decide⟩ rfl) (fun a6 => ?_)
        refine r_pure rfl rfl ?_
        refine r_get rfl (en_get (b := true) (k := 137) (L := 12) ⟨rfl, by decide⟩ rfl) (fo_get (S := S) rfl) ?_
        refine r_pure rfl rfl ?_
        refine r_iald rfl (en_get (b := true) (k := 150) (L := 0) ⟨rfl, by decide⟩ rfl) (fun a7 => ?_)
        refine r_callV_VW rfl rfl (en_get (b := true) (k := 137) (L := 12) ⟨rfl, by decide⟩ rfl) (Nat.le_of_ble_eq_true rfl) (rf_X8_puts (by omega) v1 a6 a7 S) (fun q8 => ?_)
        refine r_pure (lv' := [some (.ref 137), some (.int (v1 + (1 : Int32)))]) rfl rfl ?_
        refine r_pure rfl rfl ?_
        exact lm_le (by omega) (ih (v1 + (1 : Int32)) q8)
set_option maxRecDepth 100000 in
theorem rf_X8_load {d : Nat} (hd : 26 ≤ d) {O : HS} (S : HS) : Lm (oIW true O) (s_X8_load S) (CF d 159 [.ref 137] (en true O S)) := by
  unfold s_X8_load
  obtain ⟨e, rfl⟩ : ∃ e, d = e + 1 := ⟨d - 1, by omega⟩
  refine rm_of (lv := [some (.ref 137), none]) (k_X8_load false) (by omega) rfl rfl (Nat.le_of_ble_eq_true rfl) ?_
  refine lm_le (n := 1017) (by omega) ?_
  show Lm _ _ (run (CF e) _ _ _ _ _ _)
  refine r_pure rfl rfl ?_
  refine r_pure rfl rfl ?_
  refine r_putI rfl ⟨rfl, by decide⟩ rfl rfl rfl (fun S1 => ?_)
  refine r_pure rfl rfl ?_
  refine r_pure rfl rfl ?_
  refine r_callV_VW rfl rfl (en_get (b := true) (k := 137) (L := 12) ⟨rfl, by decide⟩ rfl) (Nat.le_of_ble_eq_true rfl) (rf_X8_laysPlan (by omega) (0 : Int32) S1) (fun q2 => ?_)
  refine r_pure rfl rfl ?_
  refine r_get rfl (en_get (b := true) (k := 137) (L := 12) ⟨rfl, by decide⟩ rfl) (fo_get (S := q2) rfl) ?_
  refine r_pure rfl rfl ?_
  refine r_if2 rfl rfl ?_ ?_
  · refine r_pure rfl rfl ?_
    refine r_get rfl (en_get (b := true) (k := 137) (L := 12) ⟨rfl, by decide⟩ rfl) (fo_get (S := q2) rfl) ?_
    refine r_if1 rfl rfl ?_ ?_
    · refine r_pure rfl rfl ?_
      refine r_callV_VW rfl rfl (en_get (b := true) (k := 137) (L := 12) ⟨rfl, by decide⟩ rfl) (Nat.le_of_ble_eq_true rfl) (rf_X8_snap (by omega) q2) (fun q3 => ?_)
      refine r_pure rfl rfl ?_
      refine r_pure (lv' := [some (.ref 137), some (.int (0 : Int32))]) rfl rfl ?_
      exact lm_le (by omega) (rl_X8_load_L36 (n := 0) (by omega) 40 (0 : Int32) q3)
    · refine r_pure rfl rfl ?_
      exact r_retI rfl rfl
  · refine r_pure rfl rfl ?_
    exact r_retI rfl rfl
/-! X8_goes -/
def s_X8_goes (v1 : Int32) (S : HS) : Option HS :=
  Option.bind (wa S 139 (((27 : Int32) + ((6 : Int32) * v1)) + (3 : Int32)) (0 : Int32)) fun S1 =>
  Option.bind (wa S1 139 (((27 : Int32) + ((6 : Int32) * v1)) + (4 : Int32)) (0 : Int32)) fun S2 =>
  some S2
set_option maxRecDepth 100000 in
theorem rf_X8_goes {d : Nat} (hd : 1 ≤ d) {O : HS} (v1 : Int32) (S : HS) : Lm (oV true O) (s_X8_goes v1 S) (CF d 160 [.ref 137, .int v1] (en true O S)) := by
  unfold s_X8_goes
  obtain ⟨e, rfl⟩ : ∃ e, d = e + 1 := ⟨d - 1, by omega⟩
  refine rm_of (lv := [some (.ref 137), some (.int v1)]) (k_X8_goes false) (by omega) rfl rfl (Nat.le_of_ble_eq_true rfl) ?_
  refine lm_le (n := 23) (by omega) ?_
  show Lm _ _ (run (CF e) _ _ _ _ _ _)
  refine r_pure rfl rfl ?_
  refine r_get rfl (en_get (b := true) (k := 137) (L := 12) ⟨rfl, by decide⟩ rfl) (fo_get (S := S) rfl) ?_
  refine r_pure rfl rfl ?_
  refine r_pure rfl rfl ?_
  refine r_pure rfl rfl ?_
  refine r_pure rfl rfl ?_
  refine r_pure rfl rfl ?_
  refine r_pure rfl rfl ?_
  refine r_pure rfl rfl ?_
  refine r_pure rfl rfl ?_
  refine r_iastI rfl ⟨rfl, by decide⟩ rfl (fun S1 => ?_)
  refine r_pure rfl rfl ?_
  refine r_get rfl (en_get (b := true) (k := 137) (L := 12) ⟨rfl, by decide⟩ rfl) (fo_get (S := S1) rfl) ?_
  refine r_pure rfl rfl ?_
  refine r_pure rfl rfl ?_
  refine r_pure rfl rfl ?_
  refine r_pure rfl rfl ?_
  refine r_pure rfl rfl ?_
  refine r_pure rfl rfl ?_
  refine r_pure rfl rfl ?_
  refine r_pure rfl rfl ?_
  refine r_iastI rfl ⟨rfl, by decide⟩ rfl (fun S2 => ?_)
  exact r_retV rfl rfl
/-! X8_unload -/
def s_X8_unload_L70 (v1 : Int32) (v2 : Int32) (v3 : Int32) : Nat → Int32 → HS → Option (Int32 × HS)
  | 0, _, _ => none
  | K + 1, v4, S =>
    Option.bind (ag (ga S 139) (9 : Int32)) fun a10 =>
    if a10 ≤ v4 then
      Option.bind (wa S 139 (((57 : Int32) + ((5 : Int32) * v1)) + (2 : Int32)) (2 : Int32)) fun S11 =>
      Option.bind (wa S11 139 (((57 : Int32) + ((5 : Int32) * v1)) + (3 : Int32)) v2) fun S12 =>
      Option.bind (wa S12 139 (((57 : Int32) + ((5 : Int32) * v1)) + (4 : Int32)) v3) fun S13 =>
      some (v3, S13)
    else
      Option.bind (s_X8_holds v4 (4 : Int32) S) fun q14 =>
      if q14 ≠ (v1 + (1 : Int32)) then
        s_X8_unload_L70 v1 v2 v3 K (v4 + (1 : Int32)) S
      else
        Option.bind (s_X8_goes v4 S) fun q15 =>
        s_X8_unload_L70 v1 v2 v3 K (v4 + (1 : Int32)) q15
def s_X8_unload (v1 : Int32) (v2 : Int32) (S : HS) : Option (Int32 × HS) :=
  Option.bind (pf S 137 0 (0 : Int32)) fun S1 =>
  Option.bind (s_X8_isDrop v1 S1) fun q2 =>
  if q2 = (0 : Int32) then
    some ((-1 : Int32), S1)
  else
    Option.bind (s_X8_its v1 (2 : Int32) S1) fun q3 =>
    if q3 ≠ (1 : Int32) then
      some ((-1 : Int32), S1)
    else
      Option.bind (s_X8_loadedOf v1 S1) fun q4 =>
      Option.bind (s_X8_isIn v2 (0 : Int32) q4) fun q5 =>
      if q5 ≠ (0 : Int32) then
        Option.bind (s_X8_laysNow S1) fun q6 =>
        Option.bind (s_X8_stands ((1 : Int32) <<< (v1 &&& (31 : Int32))) q6) fun q7 =>
        if q7 = (0 : Int32) then
          Option.bind (s_X8_snap q6) fun q8 =>
          Option.bind (s_X8_loadedOf v1 q8) fun q9 =>
          s_X8_unload_L70 v1 v2 (q9 - v2) 40 (0 : Int32) q8
        else
          some ((-2 : Int32), q6)
      else
        some ((-1 : Int32), S1)
set_option maxRecDepth 100000 in
theorem rl_X8_unload_L70 {e : Nat} (he : 4 ≤ e) {O : HS} (v1 : Int32) (v2 : Int32) (v3 : Int32) {n : Nat} : ∀ (K : Nat) (v4 : Int32) (S : HS), Lm (oIW true O) (s_X8_unload_L70 v1 v2 v3 K v4 S) (run (CF e) (k_X8_unload false) (n + (41 * K + 0)) 70 [some (.ref 137), some (.int v1), some (.int v2), some (.int v3), some (.int v4)] [] (en true O S)) := by
  intro K
  induction K with
  | zero =>
    intros
    exact lm_none
  | succ K ih =>
    intro v4 S
    rw [show n + (41 * (K + 1) + 0) = n + (41 * K + 0) + 41 by omega]
    rw [s_X8_unload_L70]
    refine r_pure rfl rfl ?_
    refine r_pure rfl rfl ?_
    refine r_get rfl (en_get (b := true) (k := 137) (L := 12) ⟨rfl, by decide⟩ rfl) (fo_get (S := S) rfl) ?_
    refine r_pure rfl rfl ?_
    refine r_iald rfl (en_get (b := true) (k := 139) (L := 0) ⟨rfl, by decide⟩ rfl) (fun a10 => ?_)
    refine r_if2 rfl rfl ?_ ?_
    · refine r_pure rfl rfl ?_
      refine r_get rfl (en_get (b := true) (k := 137) (L := 12) ⟨rfl, by decide⟩ rfl) (fo_get (S := S) rfl) ?_
      refine r_pure rfl rfl ?_
      refine r_pure rfl rfl ?_
      refine r_pure rfl rfl ?_
      refine r_pure rfl rfl ?_
      refine r_pure rfl rfl ?_
      refine r_pure rfl rfl ?_
      refine r_pure rfl rfl ?_
      refine r_pure rfl rfl ?_
      refine r_iastI rfl ⟨rfl, by decide⟩ rfl (fun S11 => ?_)
      refine r_pure rfl rfl ?_
      refine r_get rfl (en_get (b := true) (k := 137) (L := 12) ⟨rfl, by decide⟩ rfl) (fo_get (S := S11) rfl) ?_
      refine r_pure rfl rfl ?_
      refine r_pure rfl rfl ?_
      refine r_pure rfl rfl ?_
      refine r_pure rfl rfl ?_
      refine r_pure rfl rfl ?_
      refine r_pure rfl rfl ?_
      refine r_pure rfl rfl ?_
      refine r_pure rfl rfl ?_
      refine r_iastI rfl ⟨rfl, by decide⟩ rfl (fun S12 => ?_)
      refine r_pure rfl rfl ?_
      refine r_get rfl (en_get (b := true) (k := 137) (L := 12) ⟨rfl, by decide⟩ rfl) (fo_get (S := S12) rfl) ?_
      refine r_pure rfl rfl ?_
      refine r_pure rfl rfl ?_
      refine r_pure rfl rfl ?_
      refine r_pure rfl rfl ?_
      refine r_pure rfl rfl ?_
      refine r_pure rfl rfl ?_
      refine r_pure rfl rfl ?_
      refine r_pure rfl rfl ?_
      refine r_iastI rfl ⟨rfl, by decide⟩ rfl (fun S13 => ?_)
      refine r_pure rfl rfl ?_
      exact r_retI rfl rfl
    · refine r_pure rfl rfl ?_
      refine r_pure rfl rfl ?_
      refine r_pure rfl rfl ?_
      refine r_callV_I rfl rfl (en_get (b := true) (k := 137) (L := 12) ⟨rfl, by decide⟩ rfl) (Nat.le_of_ble_eq_true rfl) (rf_X8_holds (by omega) v4 (4 : Int32) S) (fun q14 => ?_)
      refine r_pure rfl rfl ?_
      refine r_pure rfl rfl ?_
      refine r_pure rfl rfl ?_
      refine r_if2 rfl rfl ?_ ?_
      · refine r_pure (lv' := [some (.ref 137), some (.int v1), some (.int v2), some (.int v3), some (.int (v4 + (1 : Int32)))]) rfl rfl ?_
        refine r_pure rfl rfl ?_
        exact lm_le (by omega) (ih (v4 + (1 : Int32)) S)
      · refine r_pure rfl rfl ?_
        refine r_pure rfl rfl ?_
        refine r_callV_VW rfl rfl (en_get (b := true) (k := 137) (L := 12) ⟨rfl, by decide⟩ rfl) (Nat.le_of_ble_eq_true rfl) (rf_X8_goes (by omega) v4 S) (fun q15 => ?_)
        refine r_pure (lv' := [some (.ref 137), some (.int v1), some (.int v2), some (.int v3), some (.int (v4 + (1 : Int32)))]) rfl rfl ?_
        refine r_pure rfl rfl ?_
        exact lm_le (by omega) (ih (v4 + (1 : Int32)) q15)
set_option maxRecDepth 100000 in
theorem rf_X8_unload {d : Nat} (hd : 5 ≤ d) {O : HS} (v1 : Int32) (v2 : Int32) (S : HS) : Lm (oIW true O) (s_X8_unload v1 v2 S) (CF d 161 [.ref 137, .int v1, .int v2] (en true O S)) := by
  unfold s_X8_unload
  obtain ⟨e, rfl⟩ : ∃ e, d = e + 1 := ⟨d - 1, by omega⟩
  refine rm_of (lv := [some (.ref 137), some (.int v1), some (.int v2), none, none]) (k_X8_unload false) (by omega) rfl rfl (Nat.le_of_ble_eq_true rfl) ?_
  refine lm_le (n := 1678) (by omega) ?_
  show Lm _ _ (run (CF e) _ _ _ _ _ _)
  refine r_pure rfl rfl ?_
  refine r_pure rfl rfl ?_
  refine r_putI rfl ⟨rfl, by decide⟩ rfl rfl rfl (fun S1 => ?_)
  refine r_pure rfl rfl ?_
  refine r_pure rfl rfl ?_
  refine r_callV_I rfl rfl (en_get (b := true) (k := 137) (L := 12) ⟨rfl, by decide⟩ rfl) (Nat.le_of_ble_eq_true rfl) (rf_X8_isDrop (by omega) v1 S1) (fun q2 => ?_)
  refine r_if1 rfl rfl ?_ ?_
  · refine r_pure rfl rfl ?_
    exact r_retI rfl rfl
  · refine r_pure rfl rfl ?_
    refine r_pure rfl rfl ?_
    refine r_pure rfl rfl ?_
    refine r_callV_I rfl rfl (en_get (b := true) (k := 137) (L := 12) ⟨rfl, by decide⟩ rfl) (Nat.le_of_ble_eq_true rfl) (rf_X8_its (by omega) v1 (2 : Int32) S1) (fun q3 => ?_)
    refine r_pure rfl rfl ?_
    refine r_if2 rfl rfl ?_ ?_
    · refine r_pure rfl rfl ?_
      exact r_retI rfl rfl
    · refine r_pure rfl rfl ?_
      refine r_pure rfl rfl ?_
      refine r_pure rfl rfl ?_
      refine r_pure rfl rfl ?_
      refine r_callV_I rfl rfl (en_get (b := true) (k := 137) (L := 12) ⟨rfl, by decide⟩ rfl) (Nat.le_of_ble_eq_true rfl) (rf_X8_loadedOf (by omega) v1 S1) (fun q4 => ?_)
      refine r_callS_I rfl (Nat.le_of_ble_eq_true rfl) (Nat.le_of_ble_eq_true rfl) (rf_X8_isIn (by omega) v2 (0 : Int32) q4) (fun q5 => ?_)
      refine r_if1 rfl rfl ?_ ?_
      · refine r_pure rfl rfl ?_
        refine r_callV_VW rfl rfl (en_get (b := true) (k := 137) (L := 12) ⟨rfl, by decide⟩ rfl) (Nat.le_of_ble_eq_true rfl) (rf_X8_laysNow (by omega) S1) (fun q6 => ?_)
        refine r_pure rfl rfl ?_
        refine r_pure rfl rfl ?_
        refine r_pure rfl rfl ?_
        refine r_pure rfl rfl ?_
        refine r_callV_I rfl rfl (en_get (b := true) (k := 137) (L := 12) ⟨rfl, by decide⟩ rfl) (Nat.le_of_ble_eq_true rfl) (rf_X8_stands (by omega) ((1 : Int32) <<< (v1 &&& (31 : Int32))) q6) (fun q7 => ?_)
        refine r_if1 rfl rfl ?_ ?_
        · refine r_pure rfl rfl ?_
          refine r_callV_VW rfl rfl (en_get (b := true) (k := 137) (L := 12) ⟨rfl, by decide⟩ rfl) (Nat.le_of_ble_eq_true rfl) (rf_X8_snap (by omega) q6) (fun q8 => ?_)
          refine r_pure rfl rfl ?_
          refine r_pure rfl rfl ?_
          refine r_callV_I rfl rfl (en_get (b := true) (k := 137) (L := 12) ⟨rfl, by decide⟩ rfl) (Nat.le_of_ble_eq_true rfl) (rf_X8_loadedOf (by omega) v1 q8) (fun q9 => ?_)
          refine r_pure rfl rfl ?_
          refine r_pure rfl rfl ?_
          refine r_pure (lv' := [some (.ref 137), some (.int v1), some (.int v2), some (.int (q9 - v2)), none]) rfl rfl ?_
          refine r_pure rfl rfl ?_
          refine r_pure (lv' := [some (.ref 137), some (.int v1), some (.int v2), some (.int (q9 - v2)), some (.int (0 : Int32))]) rfl rfl ?_
          exact lm_le (by omega) (rl_X8_unload_L70 (n := 0) (by omega) v1 v2 (q9 - v2) 40 (0 : Int32) q8)
        · refine r_pure rfl rfl ?_
          exact r_retI rfl rfl
      · refine r_pure rfl rfl ?_
        exact r_retI rfl rfl
/-! X8_empty -/
def s_X8_empty_J55 (v1 : Int32) (v2 : Int32) (S : HS) : Option (Int32 × HS) :=
  Option.bind (s_X8_snap S) fun q6 =>
  Option.bind (s_X8_holds v1 (3 : Int32) q6) fun q7 =>
  Option.bind (s_X8_goes v1 q6) fun q8 =>
  Option.bind (wa q8 139 (((57 : Int32) + ((5 : Int32) * v2)) + (2 : Int32)) (0 : Int32)) fun S9 =>
  some (q7, S9)
def s_X8_empty (v1 : Int32) (S : HS) : Option (Int32 × HS) :=
  Option.bind (pf S 137 0 (0 : Int32)) fun S1 =>
  Option.bind (s_X8_isHold v1 S1) fun q2 =>
  if q2 = (0 : Int32) then
    some ((-1 : Int32), S1)
  else
    Option.bind (s_X8_holds v1 (4 : Int32) S1) fun q3 =>
    if q3 ≠ (0 : Int32) then
      Option.bind (s_X8_holds v1 (4 : Int32) S1) fun q4 =>
      Option.bind (s_X8_its (q4 - (1 : Int32)) (2 : Int32) S1) fun q5 =>
      if q5 ≠ (1 : Int32) then
        s_X8_empty_J55 v1 (q4 - (1 : Int32)) S1
      else
        Option.bind (s_X8_having (0 : Int32) S1) fun q10 =>
        if q10 ≠ (4 : Int32) then
          s_X8_empty_J55 v1 (q4 - (1 : Int32)) S1
        else
          some ((-2 : Int32), S1)
    else
      some ((-1 : Int32), S1)
set_option maxRecDepth 100000 in
theorem rj_X8_empty_J55 {e : Nat} (he : 2 ≤ e) {O : HS} (v1 : Int32) (v2 : Int32) {n : Nat} (S : HS) (j3 : Option Value) : Lm (oIW true O) (s_X8_empty_J55 v1 v2 S) (run (CF e) (k_X8_empty false) (n + 23) 55 [some (.ref 137), some (.int v1), some (.int v2), j3] [] (en true O S)) := by
  unfold s_X8_empty_J55
  refine r_pure rfl rfl ?_
  refine r_callV_VW rfl rfl (en_get (b := true) (k := 137) (L := 12) ⟨rfl, by decide⟩ rfl) (Nat.le_of_ble_eq_true rfl) (rf_X8_snap (by omega) S) (fun q6 => ?_)
  refine r_pure rfl rfl ?_
  refine r_pure rfl rfl ?_
  refine r_pure rfl rfl ?_
  refine r_callV_I rfl rfl (en_get (b := true) (k := 137) (L := 12) ⟨rfl, by decide⟩ rfl) (Nat.le_of_ble_eq_true rfl) (rf_X8_holds (by omega) v1 (3 : Int32) q6) (fun q7 => ?_)
  refine r_pure (lv' := [some (.ref 137), some (.int v1), some (.int v2), some (.int q7)]) rfl rfl ?_
  refine r_pure rfl rfl ?_
  refine r_pure rfl rfl ?_
  refine r_callV_VW rfl rfl (en_get (b := true) (k := 137) (L := 12) ⟨rfl, by decide⟩ rfl) (Nat.le_of_ble_eq_true rfl) (rf_X8_goes (by omega) v1 q6) (fun q8 => ?_)
  refine r_pure rfl rfl ?_
  refine r_get rfl (en_get (b := true) (k := 137) (L := 12) ⟨rfl, by decide⟩ rfl) (fo_get (S := q8) rfl) ?_
  refine r_pure rfl rfl ?_
  refine r_pure rfl rfl ?_
  refine r_pure rfl rfl ?_
  refine r_pure rfl rfl ?_
  refine r_pure rfl rfl ?_
  refine r_pure rfl rfl ?_
  refine r_pure rfl rfl ?_
  refine r_pure rfl rfl ?_
  refine r_iastI rfl ⟨rfl, by decide⟩ rfl (fun S9 => ?_)
  refine r_pure rfl rfl ?_
  exact r_retI rfl rfl
set_option maxRecDepth 100000 in
theorem rf_X8_empty {d : Nat} (hd : 3 ≤ d) {O : HS} (v1 : Int32) (S : HS) : Lm (oIW true O) (s_X8_empty v1 S) (CF d 162 [.ref 137, .int v1] (en true O S)) := by
  unfold s_X8_empty
  obtain ⟨e, rfl⟩ : ∃ e, d = e + 1 := ⟨d - 1, by omega⟩
  refine rm_of (lv := [some (.ref 137), some (.int v1), none, none]) (k_X8_empty false) (by omega) rfl rfl (Nat.le_of_ble_eq_true rfl) ?_
  refine lm_le (n := 53) (by omega) ?_
  show Lm _ _ (run (CF e) _ _ _ _ _ _)
  refine r_pure rfl rfl ?_
  refine r_pure rfl rfl ?_
  refine r_putI rfl ⟨rfl, by decide⟩ rfl rfl rfl (fun S1 => ?_)
  refine r_pure rfl rfl ?_
  refine r_pure rfl rfl ?_
  refine r_callV_I rfl rfl (en_get (b := true) (k := 137) (L := 12) ⟨rfl, by decide⟩ rfl) (Nat.le_of_ble_eq_true rfl) (rf_X8_isHold (by omega) v1 S1) (fun q2 => ?_)
  refine r_if1 rfl rfl ?_ ?_
  · refine r_pure rfl rfl ?_
    exact r_retI rfl rfl
  · refine r_pure rfl rfl ?_
    refine r_pure rfl rfl ?_
    refine r_pure rfl rfl ?_
    refine r_callV_I rfl rfl (en_get (b := true) (k := 137) (L := 12) ⟨rfl, by decide⟩ rfl) (Nat.le_of_ble_eq_true rfl) (rf_X8_holds (by omega) v1 (4 : Int32) S1) (fun q3 => ?_)
    refine r_if1 rfl rfl ?_ ?_
    · refine r_pure rfl rfl ?_
      refine r_pure rfl rfl ?_
      refine r_pure rfl rfl ?_
      refine r_callV_I rfl rfl (en_get (b := true) (k := 137) (L := 12) ⟨rfl, by decide⟩ rfl) (Nat.le_of_ble_eq_true rfl) (rf_X8_holds (by omega) v1 (4 : Int32) S1) (fun q4 => ?_)
      refine r_pure rfl rfl ?_
      refine r_pure rfl rfl ?_
      refine r_pure (lv' := [some (.ref 137), some (.int v1), some (.int (q4 - (1 : Int32))), none]) rfl rfl ?_
      refine r_pure rfl rfl ?_
      refine r_pure rfl rfl ?_
      refine r_pure rfl rfl ?_
      refine r_callV_I rfl rfl (en_get (b := true) (k := 137) (L := 12) ⟨rfl, by decide⟩ rfl) (Nat.le_of_ble_eq_true rfl) (rf_X8_its (by omega) (q4 - (1 : Int32)) (2 : Int32) S1) (fun q5 => ?_)
      refine r_pure rfl rfl ?_
      refine r_if2 rfl rfl ?_ ?_
      · exact lm_le (by omega) (rj_X8_empty_J55 (n := 0) (by omega) v1 (q4 - (1 : Int32)) S1 _)
      · refine r_pure rfl rfl ?_
        refine r_pure rfl rfl ?_
        refine r_callV_I rfl rfl (en_get (b := true) (k := 137) (L := 12) ⟨rfl, by decide⟩ rfl) (Nat.le_of_ble_eq_true rfl) (rf_X8_having (by omega) (0 : Int32) S1) (fun q10 => ?_)
        refine r_pure rfl rfl ?_
        refine r_if2 rfl rfl ?_ ?_
        · exact lm_le (by omega) (rj_X8_empty_J55 (n := 0) (by omega) v1 (q4 - (1 : Int32)) S1 _)
        · refine r_pure rfl rfl ?_
          exact r_retI rfl rfl
    · refine r_pure rfl rfl ?_
      exact r_retI rfl rfl
/-! X8_wash -/
def s_X8_wash (v1 : Int32) (S : HS) : Option (Int32 × HS) :=
  Option.bind (pf S 137 0 (0 : Int32)) fun S1 =>
  Option.bind (s_X8_isHold v1 S1) fun q2 =>
  if q2 = (0 : Int32) then
    some ((0 : Int32), S1)
  else
    Option.bind (s_X8_holds v1 (4 : Int32) S1) fun q3 =>
    if (0 : Int32) < q3 then
      some ((0 : Int32), S1)
    else
      Option.bind (s_X8_holds v1 (5 : Int32) S1) fun q4 =>
      if q4 ≠ (0 : Int32) then
        Option.bind (s_X8_snap S1) fun q5 =>
        Option.bind (wa q5 139 (((27 : Int32) + ((6 : Int32) * v1)) + (5 : Int32)) (0 : Int32)) fun S6 =>
        Option.bind (ag (ga S6 139) (14 : Int32)) fun a7 =>
        Option.bind (wa S6 139 (14 : Int32) (a7 + (1 : Int32))) fun S8 =>
        some ((1 : Int32), S8)
      else
        some ((0 : Int32), S1)
set_option maxRecDepth 100000 in
theorem rf_X8_wash {d : Nat} (hd : 3 ≤ d) {O : HS} (v1 : Int32) (S : HS) : Lm (oIW true O) (s_X8_wash v1 S) (CF d 163 [.ref 137, .int v1] (en true O S)) := by
  unfold s_X8_wash
  obtain ⟨e, rfl⟩ : ∃ e, d = e + 1 := ⟨d - 1, by omega⟩
  refine rm_of (lv := [some (.ref 137), some (.int v1)]) (k_X8_wash false) (by omega) rfl rfl (Nat.le_of_ble_eq_true rfl) ?_
  refine lm_le (n := 40) (by omega) ?_
  show Lm _ _ (run (CF e) _ _ _ _ _ _)
  refine r_pure rfl rfl ?_
  refine r_pure rfl rfl ?_
  refine r_putI rfl ⟨rfl, by decide⟩ rfl rfl rfl (fun S1 => ?_)
  refine r_pure rfl rfl ?_
  refine r_pure rfl rfl ?_
  refine r_callV_I rfl rfl (en_get (b := true) (k := 137) (L := 12) ⟨rfl, by decide⟩ rfl) (Nat.le_of_ble_eq_true rfl) (rf_X8_isHold (by omega) v1 S1) (fun q2 => ?_)
  refine r_if1 rfl rfl ?_ ?_
  · refine r_pure rfl rfl ?_
    exact r_retZ rfl (Or.inl rfl) rfl
  · refine r_pure rfl rfl ?_
    refine r_pure rfl rfl ?_
    refine r_pure rfl rfl ?_
    refine r_callV_I rfl rfl (en_get (b := true) (k := 137) (L := 12) ⟨rfl, by decide⟩ rfl) (Nat.le_of_ble_eq_true rfl) (rf_X8_holds (by omega) v1 (4 : Int32) S1) (fun q3 => ?_)
    refine r_if1 rfl rfl ?_ ?_
    · refine r_pure rfl rfl ?_
      exact r_retZ rfl (Or.inl rfl) rfl
    · refine r_pure rfl rfl ?_
      refine r_pure rfl rfl ?_
      refine r_pure rfl rfl ?_
      refine r_callV_I rfl rfl (en_get (b := true) (k := 137) (L := 12) ⟨rfl, by decide⟩ rfl) (Nat.le_of_ble_eq_true rfl) (rf_X8_holds (by omega) v1 (5 : Int32) S1) (fun q4 => ?_)
      refine r_if1 rfl rfl ?_ ?_
      · refine r_pure rfl rfl ?_
        refine r_callV_VW rfl rfl (en_get (b := true) (k := 137) (L := 12) ⟨rfl, by decide⟩ rfl) (Nat.le_of_ble_eq_true rfl) (rf_X8_snap (by omega) S1) (fun q5 => ?_)
        refine r_pure rfl rfl ?_
        refine r_get rfl (en_get (b := true) (k := 137) (L := 12) ⟨rfl, by decide⟩ rfl) (fo_get (S := q5) rfl) ?_
        refine r_pure rfl rfl ?_
        refine r_pure rfl rfl ?_
        refine r_pure rfl rfl ?_
        refine r_pure rfl rfl ?_
        refine r_pure rfl rfl ?_
        refine r_pure rfl rfl ?_
        refine r_pure rfl rfl ?_
        refine r_pure rfl rfl ?_
        refine r_iastI rfl ⟨rfl, by decide⟩ rfl (fun S6 => ?_)
        refine r_pure rfl rfl ?_
        refine r_get rfl (en_get (b := true) (k := 137) (L := 12) ⟨rfl, by decide⟩ rfl) (fo_get (S := S6) rfl) ?_
        refine r_pure rfl rfl ?_
        refine r_pure rfl rfl ?_
        refine r_iald rfl (en_get (b := true) (k := 139) (L := 0) ⟨rfl, by decide⟩ rfl) (fun a7 => ?_)
        refine r_pure rfl rfl ?_
        refine r_pure rfl rfl ?_
        refine r_iastI rfl ⟨rfl, by decide⟩ rfl (fun S8 => ?_)
        refine r_pure rfl rfl ?_
        exact r_retZ rfl (Or.inr rfl) rfl
      · refine r_pure rfl rfl ?_
        exact r_retZ rfl (Or.inl rfl) rfl
/-! X8_undo -/
def s_X8_undo_L26 : Nat → Int32 → HS → Option (Int32 × HS)
  | 0, _, _ => none
  | K + 1, v1, S =>
    if (157 : Int32) ≤ v1 then
      some ((gf S 137 14), S)
    else
      Option.bind (ag (ga S 141) (((157 : Int32) * (gf S 137 14)) + v1)) fun a3 =>
      Option.bind (wa S 139 v1 a3) fun S4 =>
      s_X8_undo_L26 K (v1 + (1 : Int32)) S4
def s_X8_undo (S : HS) : Option (Int32 × HS) :=
  Option.bind (pf S 137 0 (0 : Int32)) fun S1 =>
  if (gf S1 137 14) ≠ (0 : Int32) then
    Option.bind (pf S1 137 14 ((gf S1 137 14) - (1 : Int32))) fun S2 =>
    s_X8_undo_L26 200 (0 : Int32) S2
  else
    some ((-1 : Int32), S1)
set_option maxRecDepth 100000 in
theorem rl_X8_undo_L26 {e : Nat} (he : 0 ≤ e) {O : HS} {n : Nat} : ∀ (K : Nat) (v1 : Int32) (S : HS), Lm (oIW true O) (s_X8_undo_L26 K v1 S) (run (CF e) (k_X8_undo false) (n + (18 * K + 0)) 26 [some (.ref 137), some (.int v1)] [] (en true O S)) := by
  intro K
  induction K with
  | zero =>
    intros
    exact lm_none
  | succ K ih =>
    intro v1 S
    rw [show n + (18 * (K + 1) + 0) = n + (18 * K + 0) + 18 by omega]
    rw [s_X8_undo_L26]
    refine r_pure rfl rfl ?_
    refine r_pure rfl rfl ?_
    refine r_if2 rfl rfl ?_ ?_
    · refine r_pure rfl rfl ?_
      refine r_get rfl (en_get (b := true) (k := 137) (L := 12) ⟨rfl, by decide⟩ rfl) (fo_get (S := S) rfl) ?_
      exact r_retI rfl rfl
    · refine r_pure rfl rfl ?_
      refine r_get rfl (en_get (b := true) (k := 137) (L := 12) ⟨rfl, by decide⟩ rfl) (fo_get (S := S) rfl) ?_
      refine r_pure rfl rfl ?_
      refine r_pure rfl rfl ?_
      refine r_get rfl (en_get (b := true) (k := 137) (L := 12) ⟨rfl, by decide⟩ rfl) (fo_get (S := S) rfl) ?_
      refine r_pure rfl rfl ?_
      refine r_pure rfl rfl ?_
      refine r_get rfl (en_get (b := true) (k := 137) (L := 12) ⟨rfl, by decide⟩ rfl) (fo_get (S := S) rfl) ?_
      refine r_pure rfl rfl ?_
      refine r_pure rfl rfl ?_
      refine r_pure rfl rfl ?_
      refine r_iald rfl (en_get (b := true) (k := 141) (L := 0) ⟨rfl, by decide⟩ rfl) (fun a3 => ?_)
      refine r_iastI rfl ⟨rfl, by decide⟩ rfl (fun S4 => ?_)
      refine r_pure (lv' := [some (.ref 137), some (.int (v1 + (1 : Int32)))]) rfl rfl ?_
      refine r_pure rfl rfl ?_
      exact lm_le (by omega) (ih (v1 + (1 : Int32)) S4)
set_option maxRecDepth 100000 in
theorem rf_X8_undo {d : Nat} (hd : 1 ≤ d) {O : HS} (S : HS) : Lm (oIW true O) (s_X8_undo S) (CF d 164 [.ref 137] (en true O S)) := by
  unfold s_X8_undo
  obtain ⟨e, rfl⟩ : ∃ e, d = e + 1 := ⟨d - 1, by omega⟩
  refine rm_of (lv := [some (.ref 137), none]) (k_X8_undo false) (by omega) rfl rfl (Nat.le_of_ble_eq_true rfl) ?_
  refine lm_le (n := 3614) (by omega) ?_
  show Lm _ _ (run (CF e) _ _ _ _ _ _)
  refine r_pure rfl rfl ?_
  refine r_pure rfl rfl ?_
  refine r_putI rfl ⟨rfl, by decide⟩ rfl rfl rfl (fun S1 => ?_)
  refine r_pure rfl rfl ?_
  refine r_get rfl (en_get (b := true) (k := 137) (L := 12) ⟨rfl, by decide⟩ rfl) (fo_get (S := S1) rfl) ?_
  refine r_if1 rfl rfl ?_ ?_
  · refine r_pure rfl rfl ?_
    refine r_pure rfl rfl ?_
    refine r_get rfl (en_get (b := true) (k := 137) (L := 12) ⟨rfl, by decide⟩ rfl) (fo_get (S := S1) rfl) ?_
    refine r_pure rfl rfl ?_
    refine r_pure rfl rfl ?_
    refine r_putI rfl ⟨rfl, by decide⟩ rfl rfl rfl (fun S2 => ?_)
    refine r_pure rfl rfl ?_
    refine r_pure (lv' := [some (.ref 137), some (.int (0 : Int32))]) rfl rfl ?_
    exact lm_le (by omega) (rl_X8_undo_L26 (n := 0) (by omega) 200 (0 : Int32) S2)
  · refine r_pure rfl rfl ?_
    exact r_retI rfl rfl
