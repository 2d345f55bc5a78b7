/-! X8_plan -/
def s_X8_plan_J52 (v1 : Int32) (v2 : Int32) (S : HS) : Option (Int32 × HS) :=
  Option.bind (s_X8_laysPlan (0 : Int32) S) fun q3 =>
  if (gf q3 137 26) ≠ (-1 : Int32) then
    if v1 ≠ (0 : Int32) then
      if v1 ≠ (1 : Int32) then
        if (20 : Int32) ≤ v1 then
          Option.bind (ag (ga q3 150) v2) fun a4 =>
          some (a4, q3)
        else
          Option.bind (ag (ga q3 149) v2) fun a5 =>
          some (a5, q3)
      else
        some ((gf q3 137 27), q3)
    else
      some ((gf q3 137 26), q3)
  else
    some ((-2 : Int32), q3)
def s_X8_plan_J22 (v1 : Int32) (x0 : Int32) (S : HS) : Option (Int32 × HS) :=
  Option.bind (s_X8_isIn v1 (0 : Int32) (1 : Int32)) fun q2 =>
  if q2 ≠ (0 : Int32) then
    s_X8_plan_J52 v1 x0 S
  else
    Option.bind (s_X8_isIn x0 (0 : Int32) (9 : Int32)) fun q6 =>
    if q6 = (0 : Int32) then
      some ((-1 : Int32), S)
    else
      Option.bind (s_X8_isHold x0 S) fun q7 =>
      if q7 ≠ (0 : Int32) then
        s_X8_plan_J52 v1 x0 S
      else
        some ((-1 : Int32), S)
def s_X8_plan (v1 : Int32) (S : HS) : Option (Int32 × HS) :=
  Option.bind (pf S 137 0 (0 : Int32)) fun S1 =>
  if v1 < (20 : Int32) then
    s_X8_plan_J22 v1 (v1 - (10 : Int32)) S1
  else
    s_X8_plan_J22 v1 (v1 - (20 : Int32)) S1
set_option maxRecDepth 100000 in
theorem rj_X8_plan_J52 {e : Nat} (he : 25 ≤ e) {O : HS} (v1 : Int32) (v2 : Int32) {n : Nat} (S : HS) : Lm (oIW true O) (s_X8_plan_J52 v1 v2 S) (run (CF e) (k_X8_plan false) (n + 21) 52 [some (.ref 137), some (.int v1), some (.int v2)] [] (en true O S)) := by
  unfold s_X8_plan_J52
  refine r_pure rfl rfl ?_
  refine r_pure rfl rfl ?_
  refine r_callV_VW rfl rfl (en_get (b := true) (k := 137) (L := 12) ⟨rfl, by decide⟩ rfl) (Nat.le_of_ble_eq_true rfl) (rf_X8_laysPlan (by omega) (0 : Int32) S) (fun q3 => ?_)
  refine r_pure rfl rfl ?_
  refine r_get rfl (en_get (b := true) (k := 137) (L := 12) ⟨rfl, by decide⟩ rfl) (fo_get (S := q3) rfl) ?_
  refine r_pure rfl rfl ?_
  refine r_if2 rfl rfl ?_ ?_
  · refine r_pure rfl rfl ?_
    refine r_if1 rfl rfl ?_ ?_
    · refine r_pure rfl rfl ?_
      refine r_pure rfl rfl ?_
      refine r_if2 rfl rfl ?_ ?_
      · refine r_pure rfl rfl ?_
        refine r_pure rfl rfl ?_
        refine r_if2 rfl rfl ?_ ?_
        · refine r_pure rfl rfl ?_
          refine r_get rfl (en_get (b := true) (k := 137) (L := 12) ⟨rfl, by decide⟩ rfl) (fo_get (S := q3) rfl) ?_
          refine r_pure rfl rfl ?_
          refine r_iald rfl (en_get (b := true) (k := 150) (L := 0) ⟨rfl, by decide⟩ rfl) (fun a4 => ?_)
          exact r_retI rfl rfl
        · refine r_pure rfl rfl ?_
          refine r_get rfl (en_get (b := true) (k := 137) (L := 12) ⟨rfl, by decide⟩ rfl) (fo_get (S := q3) rfl) ?_
          refine r_pure rfl rfl ?_
          refine r_iald rfl (en_get (b := true) (k := 149) (L := 0) ⟨rfl, by decide⟩ rfl) (fun a5 => ?_)
          refine r_pure rfl rfl ?_
          exact r_retI rfl rfl
      · refine r_pure rfl rfl ?_
        refine r_get rfl (en_get (b := true) (k := 137) (L := 12) ⟨rfl, by decide⟩ rfl) (fo_get (S := q3) rfl) ?_
        refine r_pure rfl rfl ?_
        exact r_retI rfl rfl
    · refine r_pure rfl rfl ?_
      refine r_get rfl (en_get (b := true) (k := 137) (L := 12) ⟨rfl, by decide⟩ rfl) (fo_get (S := q3) rfl) ?_
      refine r_pure rfl rfl ?_
      exact r_retI rfl rfl
  · refine r_pure rfl rfl ?_
    exact r_retI rfl rfl
set_option maxRecDepth 100000 in
theorem rj_X8_plan_J22 {e : Nat} (he : 25 ≤ e) {O : HS} (v1 : Int32) (x0 : Int32) {n : Nat} (S : HS) (j2 : Option Value) : Lm (oIW true O) (s_X8_plan_J22 v1 x0 S) (run (CF e) (k_X8_plan false) (n + 36) 22 [some (.ref 137), some (.int v1), j2] [.int x0] (en true O S)) := by
  unfold s_X8_plan_J22
  refine r_pure (lv' := [some (.ref 137), some (.int v1), some (.int x0)]) rfl rfl ?_
  refine r_pure rfl rfl ?_
  refine r_pure rfl rfl ?_
  refine r_pure rfl rfl ?_
  refine r_callS_I rfl (Nat.le_of_ble_eq_true rfl) (Nat.le_of_ble_eq_true rfl) (rf_X8_isIn (by omega) v1 (0 : Int32) (1 : Int32)) (fun q2 => ?_)
  refine r_if1 rfl rfl ?_ ?_
  · exact lm_le (by omega) (rj_X8_plan_J52 (n := 0) (by omega) v1 x0 S)
  · refine r_pure rfl rfl ?_
    refine r_pure rfl rfl ?_
    refine r_pure rfl rfl ?_
    refine r_callS_I rfl (Nat.le_of_ble_eq_true rfl) (Nat.le_of_ble_eq_true rfl) (rf_X8_isIn (by omega) x0 (0 : Int32) (9 : Int32)) (fun q6 => ?_)
    refine r_if1 rfl rfl ?_ ?_
    · refine r_pure rfl rfl ?_
      exact r_retI rfl rfl
    · refine r_pure rfl rfl ?_
      refine r_pure rfl rfl ?_
      refine r_callV_I rfl rfl (en_get (b := true) (k := 137) (L := 12) ⟨rfl, by decide⟩ rfl) (Nat.le_of_ble_eq_true rfl) (rf_X8_isHold (by omega) x0 S) (fun q7 => ?_)
      refine r_if1 rfl rfl ?_ ?_
      · exact lm_le (by omega) (rj_X8_plan_J52 (n := 0) (by omega) v1 x0 S)
      · refine r_pure rfl rfl ?_
        exact r_retI rfl rfl
set_option maxRecDepth 100000 in
theorem rf_X8_plan {d : Nat} (hd : 26 ≤ d) {O : HS} (v1 : Int32) (S : HS) : Lm (oIW true O) (s_X8_plan v1 S) (CF d 152 [.ref 137, .int v1] (en true O S)) := by
  unfold s_X8_plan
  obtain ⟨e, rfl⟩ : ∃ e, d = e + 1 := ⟨d - 1, by omega⟩
  refine rm_of (lv := [some (.ref 137), some (.int v1), none]) (k_X8_plan false) (by omega) rfl rfl (Nat.le_of_ble_eq_true rfl) ?_
  refine lm_le (n := 46) (by omega) ?_
  show Lm _ _ (run (CF e) _ _ _ _ _ _)
  refine r_pure rfl rfl ?_
  refine r_pure rfl rfl ?_
  refine r_putI rfl ⟨rfl, by decide⟩ rfl rfl rfl (fun S1 => ?_)
  refine r_pure rfl rfl ?_
  refine r_pure rfl rfl ?_
  refine r_if2 rfl rfl ?_ ?_
  · refine r_pure rfl rfl ?_
    refine r_pure rfl rfl ?_
    refine r_pure rfl rfl ?_
    exact lm_le (by omega) (rj_X8_plan_J22 (n := 0) (by omega) v1 (v1 - (10 : Int32)) S1 _)
  · refine r_pure rfl rfl ?_
    refine r_pure rfl rfl ?_
    refine r_pure rfl rfl ?_
    refine r_pure rfl rfl ?_
    exact lm_le (by omega) (rj_X8_plan_J22 (n := 0) (by omega) v1 (v1 - (20 : Int32)) S1 _)
/-! X8_having -/
def s_X8_having_L4 (v1 : Int32) (S : HS) : Nat → Int32 → Int32 → Option Int32
  | 0, _, _ => none
  | K + 1, v2, v3 =>
    Option.bind (ag (ga S 139) (13 : Int32)) fun a1 =>
    if a1 ≤ v3 then
      some v2
    else
      Option.bind (s_X8_its v3 (2 : Int32) S) fun q2 =>
      if q2 ≠ v1 then
        s_X8_having_L4 v1 S K v2 (v3 + (1 : Int32))
      else
        s_X8_having_L4 v1 S K (v2 + (1 : Int32)) (v3 + (1 : Int32))
def s_X8_having (v1 : Int32) (S : HS) : Option Int32 :=
  s_X8_having_L4 v1 S 40 (0 : Int32) (0 : Int32)
set_option maxRecDepth 100000 in
theorem rl_X8_having_L4 {e : Nat} (he : 1 ≤ e) {O : HS} (v1 : Int32) (S : HS) {n : Nat} : ∀ (K : Nat) (v2 : Int32) (v3 : Int32), Lm (oI (en true O S)) (s_X8_having_L4 v1 S K v2 v3) (run (CF e) (k_X8_having false) (n + (15 * K + 0)) 4 [some (.ref 137), some (.int v1), some (.int v2), some (.int v3)] [] (en true O S)) := by
  intro K
  induction K with
  | zero =>
    intros
    exact lm_none
  | succ K ih =>
    intro v2 v3
    rw [show n + (15 * (K + 1) + 0) = n + (15 * K + 0) + 15 by omega]
    rw [s_X8_having_L4]
    refine r_pure rfl rfl ?_
    refine r_pure rfl rfl ?_
    refine r_get rfl (en_get (b := true) (k := 137) (L := 12) ⟨rfl, by decide⟩ rfl) (fo_get (S := S) rfl) ?_
    refine r_pure rfl rfl ?_
    refine r_iald rfl (en_get (b := true) (k := 139) (L := 0) ⟨rfl, by decide⟩ rfl) (fun a1 => ?_)
    refine r_if2 rfl rfl ?_ ?_
    · refine r_pure rfl rfl ?_
      exact r_retI rfl rfl
    · refine r_pure rfl rfl ?_
      refine r_pure rfl rfl ?_
      refine r_pure rfl rfl ?_
      refine r_callV_I rfl rfl (en_get (b := true) (k := 137) (L := 12) ⟨rfl, by decide⟩ rfl) (Nat.le_of_ble_eq_true rfl) (rf_X8_its (by omega) v3 (2 : Int32) S) (fun q2 => ?_)
      refine r_pure rfl rfl ?_
      refine r_if2 rfl rfl ?_ ?_
      · refine r_pure (lv' := [some (.ref 137), some (.int v1), some (.int v2), some (.int (v3 + (1 : Int32)))]) rfl rfl ?_
        refine r_pure rfl rfl ?_
        exact lm_le (by omega) (ih v2 (v3 + (1 : Int32)))
      · refine r_pure (lv' := [some (.ref 137), some (.int v1), some (.int (v2 + (1 : Int32))), some (.int v3)]) rfl rfl ?_
        refine r_pure (lv' := [some (.ref 137), some (.int v1), some (.int (v2 + (1 : Int32))), some (.int (v3 + (1 : Int32)))]) rfl rfl ?_
        refine r_pure rfl rfl ?_
        exact lm_le (by omega) (ih (v2 + (1 : Int32)) (v3 + (1 : Int32)))
set_option maxRecDepth 100000 in
theorem rf_X8_having {d : Nat} (hd : 2 ≤ d) {O : HS} (v1 : Int32) (S : HS) : Lm (oI (en true O S)) (s_X8_having v1 S) (CF d 130 [.ref 137, .int v1] (en true O S)) := by
  unfold s_X8_having
  obtain ⟨e, rfl⟩ : ∃ e, d = e + 1 := ⟨d - 1, by omega⟩
  refine rm_of (lv := [some (.ref 137), some (.int v1), none, none]) (k_X8_having false) (by omega) rfl rfl (Nat.le_of_ble_eq_true rfl) ?_
  refine lm_le (n := 604) (by omega) ?_
  show Lm _ _ (run (CF e) _ _ _ _ _ _)
  refine r_pure rfl rfl ?_
  refine r_pure (lv' := [some (.ref 137), some (.int v1), some (.int (0 : Int32)), none]) rfl rfl ?_
  refine r_pure rfl rfl ?_
  refine r_pure (lv' := [some (.ref 137), some (.int v1), some (.int (0 : Int32)), some (.int (0 : Int32))]) rfl rfl ?_
  exact lm_le (by omega) (rl_X8_having_L4 (n := 0) (by omega) v1 S 40 (0 : Int32) (0 : Int32))
/-! X8_washes -/
def s_X8_washes_J105 (rc46 : Int32 → Int32 → HS → Option (Int32 × HS)) (v1 : Int32) (v2 : Int32) (v3 : Int32) (v4 : Int32) (S : HS) : Option (Int32 × HS) :=
  Option.bind (s_X8_laysPlan v3 S) fun q3 =>
  Option.bind (s_X8_having (0 : Int32) q3) fun q4 =>
  if (gf q3 137 26) ≠ q4 then
    rc46 v2 (v3 + (1 : Int32)) q3
  else
    rc46 v4 (v3 + (1 : Int32)) q3
def s_X8_washes_L58 (rc46 : Int32 → Int32 → HS → Option (Int32 × HS)) (v1 : Int32) (v2 : Int32) (v3 : Int32) : Nat → Int32 → Int32 → HS → Option (Int32 × HS)
  | 0, _, _, _ => none
  | K + 1, v4, v5, S =>
    if (5 : Int32) ≤ v5 then
      if (v3 &&& (v1 ^^^ (-1 : Int32))) ≠ (0 : Int32) then
        rc46 v2 (v3 + (1 : Int32)) S
      else
        if v2 = (-2 : Int32) then
          s_X8_washes_J105 rc46 v1 v2 v3 v4 S
        else
          if v4 < v2 then
            s_X8_washes_J105 rc46 v1 v2 v3 v4 S
          else
            rc46 v2 (v3 + (1 : Int32)) S
    else
      Option.bind (s_X8_has v3 v5) fun q5 =>
      if q5 = (0 : Int32) then
        s_X8_washes_L58 rc46 v1 v2 v3 K v4 (v5 + (1 : Int32)) S
      else
        s_X8_washes_L58 rc46 v1 v2 v3 K (v4 + (1 : Int32)) (v5 + (1 : Int32)) S
def s_X8_washes_L46 (v1 : Int32) : Nat → Int32 → Int32 → HS → Option (Int32 × HS)
  | 0, _, _, _ => none
  | K + 1, v2, v3, S =>
    if (32 : Int32) ≤ v3 then
      some (v2, S)
    else
      s_X8_washes_L58 (s_X8_washes_L46 v1 K) v1 v2 v3 40 (0 : Int32) (0 : Int32) S
def s_X8_washes_L9 : Nat → Int32 → Int32 → HS → Option (Int32 × HS)
  | 0, _, _, _ => none
  | K + 1, v1, v2, S =>
    Option.bind (ag (ga S 139) (9 : Int32)) fun a2 =>
    if a2 ≤ v2 then
      s_X8_washes_L46 v1 40 (-2 : Int32) (0 : Int32) S
    else
      Option.bind (s_X8_holds v2 (4 : Int32) S) fun q6 =>
      if q6 ≠ (0 : Int32) then
        s_X8_washes_L9 K v1 (v2 + (1 : Int32)) S
      else
        s_X8_washes_L9 K (v1 ||| ((1 : Int32) <<< (v2 &&& (31 : Int32)))) (v2 + (1 : Int32)) S
def s_X8_washes (S : HS) : Option (Int32 × HS) :=
  Option.bind (pf S 137 0 (0 : Int32)) fun S1 =>
  s_X8_washes_L9 40 (0 : Int32) (0 : Int32) S1
set_option maxRecDepth 100000 in
theorem rj_X8_washes_J105 {e : Nat} (he : 25 ≤ e) {O : HS} (rc46 : Int32 → Int32 → HS → Option (Int32 × HS)) (v1 : Int32) (v2 : Int32) (v3 : Int32) (v4 : Int32) {n : Nat} (hrc46 : ∀ (v2 : Int32) (v3 : Int32) (S : HS) (j4 : Option Value) (j5 : Option Value), Lm (oIW true O) (rc46 v2 v3 S) (run (CF e) (k_X8_washes false) n 46 [some (.ref 137), some (.int v1), some (.int v2), some (.int v3), j4, j5] [] (en true O S))) (S : HS) (j5 : Option Value) : Lm (oIW true O) (s_X8_washes_J105 rc46 v1 v2 v3 v4 S) (run (CF e) (k_X8_washes false) (n + 13) 105 [some (.ref 137), some (.int v1), some (.int v2), some (.int v3), some (.int v4), j5] [] (en true O S)) := by
  unfold s_X8_washes_J105
  refine r_pure rfl rfl ?_
  refine r_pure rfl rfl ?_
  refine r_callV_VW rfl rfl (en_get (b := true) (k := 137) (L := 12) ⟨rfl, by decide⟩ rfl) (Nat.le_of_ble_eq_true rfl) (rf_X8_laysPlan (by omega) v3 S) (fun q3 => ?_)
  refine r_pure rfl rfl ?_
  refine r_get rfl (en_get (b := true) (k := 137) (L := 12) ⟨rfl, by decide⟩ rfl) (fo_get (S := q3) rfl) ?_
  refine r_pure rfl rfl ?_
  refine r_pure rfl rfl ?_
  refine r_callV_I rfl rfl (en_get (b := true) (k := 137) (L := 12) ⟨rfl, by decide⟩ rfl) (Nat.le_of_ble_eq_true rfl) (rf_X8_having (by omega) (0 : Int32) q3) (fun q4 => ?_)
  refine r_if2 rfl rfl ?_ ?_
  · refine r_pure (lv' := [some (.ref 137), some (.int v1), some (.int v2), some (.int (v3 + (1 : Int32))), some (.int v4), _]) rfl rfl ?_
    refine r_pure rfl rfl ?_
    exact lm_le (by omega) (hrc46 v2 (v3 + (1 : Int32)) q3 _ _)
  · refine r_pure rfl rfl ?_
    refine r_pure (lv' := [some (.ref 137), some (.int v1), some (.int v4), some (.int v3), some (.int v4), _]) rfl rfl ?_
    refine r_pure (lv' := [some (.ref 137), some (.int v1), some (.int v4), some (.int (v3 + (1 : Int32))), some (.int v4), _]) rfl rfl ?_
    refine r_pure rfl rfl ?_
    exact lm_le (by omega) (hrc46 v4 (v3 + (1 : Int32)) q3 _ _)
set_option maxRecDepth 100000 in
theorem rl_X8_washes_L58 {e : Nat} (he : 25 ≤ e) {O : HS} (rc46 : Int32 → Int32 → HS → Option (Int32 × HS)) (v1 : Int32) (v2 : Int32) (v3 : Int32) {n : Nat} (hrc46 : ∀ (v2 : Int32) (v3 : Int32) (S : HS) (j4 : Option Value) (j5 : Option Value), Lm (oIW true O) (rc46 v2 v3 S) (run (CF e) (k_X8_washes false) n 46 [some (.ref 137), some (.int v1), some (.int v2), some (.int v3), j4, j5] [] (en true O S))) : ∀ (K : Nat) (v4 : Int32) (v5 : Int32) (S : HS), Lm (oIW true O) (s_X8_washes_L58 rc46 v1 v2 v3 K v4 v5 S) (run (CF e) (k_X8_washes false) (n + (18 * K + 13)) 58 [some (.ref 137), some (.int v1), some (.int v2), some (.int v3), some (.int v4), some (.int v5)] [] (en true O S)) := by
  intro K
  induction K with
  | zero =>
    intros
    exact lm_none
  | succ K ih =>
    intro v4 v5 S
    rw [show n + (18 * (K + 1) + 13) = n + (18 * K + 13) + 18 by omega]
    have hrc46x := fun (v2 : Int32) (v3 : Int32) (S : HS) (j4 : Option Value) (j5 : Option Value) => lm_le (m := n + (18 * K + 13)) (by omega) (hrc46 v2 v3 S j4 j5)
    rw [s_X8_washes_L58]
    refine r_pure rfl rfl ?_
    refine r_pure rfl rfl ?_
    refine r_if2 rfl rfl ?_ ?_
    · refine r_pure rfl rfl ?_
      refine r_pure rfl rfl ?_
      refine r_pure rfl rfl ?_
      refine r_pure rfl rfl ?_
      refine r_pure rfl rfl ?_
      refine r_if1 rfl rfl ?_ ?_
      · refine r_pure (lv' := [some (.ref 137), some (.int v1), some (.int v2), some (.int (v3 + (1 : Int32))), some (.int v4), some (.int v5)]) rfl rfl ?_
        refine r_pure rfl rfl ?_
        exact lm_le (by omega) (hrc46 v2 (v3 + (1 : Int32)) S _ _)
      · refine r_pure rfl rfl ?_
        refine r_pure rfl rfl ?_
        refine r_if2 rfl rfl ?_ ?_
        · exact lm_le (by omega) (rj_X8_washes_J105 (by omega) rc46 v1 v2 v3 v4 hrc46 S _)
        · refine r_pure rfl rfl ?_
          refine r_pure rfl rfl ?_
          refine r_if2 rfl rfl ?_ ?_
          · exact lm_le (by omega) (rj_X8_washes_J105 (by omega) rc46 v1 v2 v3 v4 hrc46 S _)
          · refine r_pure rfl rfl ?_
            refine r_pure (lv' := [some (.ref 137), some (.int v1), some (.int v2), some (.int (v3 + (1 : Int32))), some (.int v4), some (.int v5)]) rfl rfl ?_
            refine r_pure rfl rfl ?_
            exact lm_le (by omega) (hrc46 v2 (v3 + (1 : Int32)) S _ _)
    · refine r_pure rfl rfl ?_
      refine r_pure rfl rfl ?_
      refine r_callS_I rfl (Nat.le_of_ble_eq_true rfl) (Nat.le_of_ble_eq_true rfl) (rf_X8_has (by omega) v3 v5) (fun q5 => ?_)
      refine r_if1 rfl rfl ?_ ?_
      · refine r_pure (lv' := [some (.ref 137), some (.int v1), some (.int v2), some (.int v3), some (.int v4), some (.int (v5 + (1 : Int32)))]) rfl rfl ?_
        refine r_pure rfl rfl ?_
        exact lm_le (by omega) (ih v4 (v5 + (1 : Int32)) S)
      · refine r_pure (lv' := [some (.ref 137), some (.int v1), some (.int v2), some (.int v3), some (.int (v4 + (1 : Int32))), some (.int v5)]) rfl rfl ?_
        refine r_pure (lv' := [some (.ref 137), some (.int v1), some (.int v2), some (.int v3), some (.int (v4 + (1 : Int32))), some (.int (v5 + (1 : Int32)))]) rfl rfl ?_
        refine r_pure rfl rfl ?_
        exact lm_le (by omega) (ih (v4 + (1 : Int32)) (v5 + (1 : Int32)) S)
set_option maxRecDepth 100000 in
theorem rl_X8_washes_L46 {e : Nat} (he : 25 ≤ e) {O : HS} (v1 : Int32) {n : Nat} : ∀ (K : Nat) (v2 : Int32) (v3 : Int32) (S : HS) (j4 : Option Value) (j5 : Option Value), Lm (oIW true O) (s_X8_washes_L46 v1 K v2 v3 S) (run (CF e) (k_X8_washes false) (n + (740 * K + 0)) 46 [some (.ref 137), some (.int v1), some (.int v2), some (.int v3), j4, j5] [] (en true O S)) := by
  intro K
  induction K with
  | zero =>
    intros
    exact lm_none
  | succ K ih =>
    intro v2 v3 S j4 j5
    rw [show n + (740 * (K + 1) + 0) = n + (740 * K + 0) + 740 by omega]
    rw [s_X8_washes_L46]
    refine r_pure rfl rfl ?_
    refine r_pure rfl rfl ?_
    refine r_if2 rfl rfl ?_ ?_
    · refine r_pure rfl rfl ?_
      exact r_retI rfl rfl
    · refine r_pure rfl rfl ?_
      refine r_pure (lv' := [some (.ref 137), some (.int v1), some (.int v2), some (.int v3), some (.int (0 : Int32)), _]) rfl rfl ?_
      refine r_pure rfl rfl ?_
      refine r_pure (lv' := [some (.ref 137), some (.int v1), some (.int v2), some (.int v3), some (.int (0 : Int32)), some (.int (0 : Int32))]) rfl rfl ?_
      exact lm_le (by omega) (rl_X8_washes_L58 (by omega) (s_X8_washes_L46 v1 K) v1 v2 v3 ih 40 (0 : Int32) (0 : Int32) S)
set_option maxRecDepth 100000 in
theorem rl_X8_washes_L9 {e : Nat} (he : 25 ≤ e) {O : HS} {n : Nat} : ∀ (K : Nat) (v1 : Int32) (v2 : Int32) (S : HS) (j3 : Option Value) (j4 : Option Value) (j5 : Option Value), Lm (oIW true O) (s_X8_washes_L9 K v1 v2 S) (run (CF e) (k_X8_washes false) (n + (19 * K + 29600)) 9 [some (.ref 137), some (.int v1), some (.int v2), j3, j4, j5] [] (en true O S)) := by
  intro K
  induction K with
  | zero =>
    intros
    exact lm_none
  | succ K ih =>
    intro v1 v2 S j3 j4 j5
    rw [show n + (19 * (K + 1) + 29600) = n + (19 * K + 29600) + 19 by omega]
    rw [s_X8_washes_L9]
    refine r_pure rfl rfl ?_
    refine r_pure rfl rfl ?_
    refine r_get rfl (en_get (b := true) (k := 137) (L := 12) ⟨rfl, by decide⟩ rfl) (fo_get (S := S) rfl) ?_
    refine r_pure rfl rfl ?_
    refine r_iald rfl (en_get (b := true) (k := 139) (L := 0) ⟨rfl, by decide⟩ rfl) (fun a2 => ?_)
    refine r_if2 rfl rfl ?_ ?_
    · refine r_pure rfl rfl ?_
      refine r_pure (lv' := [some (.ref 137), some (.int v1), some (.int (-2 : Int32)), _, _, _]) rfl rfl ?_
      refine r_pure rfl rfl ?_
      refine r_pure (lv' := [some (.ref 137), some (.int v1), some (.int (-2 : Int32)), some (.int (0 : Int32)), _, _]) rfl rfl ?_
      exact lm_le (by omega) (rl_X8_washes_L46 (n := 0) (by omega) v1 40 (-2 : Int32) (0 : Int32) S _ _)
    · refine r_pure rfl rfl ?_
      refine r_pure rfl rfl ?_
      refine r_pure rfl rfl ?_
      refine r_callV_I rfl rfl (en_get (b := true) (k := 137) (L := 12) ⟨rfl, by decide⟩ rfl) (Nat.le_of_ble_eq_true rfl) (rf_X8_holds (by omega) v2 (4 : Int32) S) (fun q6 => ?_)
      refine r_if1 rfl rfl ?_ ?_
      · refine r_pure (lv' := [some (.ref 137), some (.int v1), some (.int (v2 + (1 : Int32))), _, _, _]) rfl rfl ?_
        refine r_pure rfl rfl ?_
        exact lm_le (by omega) (ih v1 (v2 + (1 : Int32)) S _ _ _)
      · refine r_pure rfl rfl ?_
        refine r_pure rfl rfl ?_
        refine r_pure rfl rfl ?_
        refine r_pure rfl rfl ?_
        refine r_pure rfl rfl ?_
        refine r_pure (lv' := [some (.ref 137), some (.int (v1 ||| ((1 : Int32) <<< (v2 &&& (31 : Int32))))), some (.int v2), _, _, _]) rfl rfl ?_
        refine r_pure (lv' := [some (.ref 137), some (.int (v1 ||| ((1 : Int32) <<< (v2 &&& (31 : Int32))))), some (.int (v2 + (1 : Int32))), _, _, _]) rfl rfl ?_
        refine r_pure rfl rfl ?_
        exact lm_le (by omega) (ih (v1 ||| ((1 : Int32) <<< (v2 &&& (31 : Int32)))) (v2 + (1 : Int32)) S _ _ _)
set_option maxRecDepth 100000 in
theorem rf_X8_washes {d : Nat} (hd : 26 ≤ d) {O : HS} (S : HS) : Lm (oIW true O) (s_X8_washes S) (CF d 153 [.ref 137] (en true O S)) := by
  unfold s_X8_washes
  obtain ⟨e, rfl⟩ : ∃ e, d = e + 1 := ⟨d - 1, by omega⟩
  refine rm_of (lv := [some (.ref 137), none, none, none, none, none]) (k_X8_washes false) (by omega) rfl rfl (Nat.le_of_ble_eq_true rfl) ?_
  refine lm_le (n := 30367) (by omega) ?_
  show Lm _ _ (run (CF e) _ _ _ _ _ _)
  refine r_pure rfl rfl ?_
  refine r_pure rfl rfl ?_
  refine r_putI rfl ⟨rfl, by decide⟩ rfl rfl rfl (fun S1 => ?_)
  refine r_pure rfl rfl ?_
  refine r_pure (lv' := [some (.ref 137), some (.int (0 : Int32)), none, none, none, none]) rfl rfl ?_
  refine r_pure rfl rfl ?_
  refine r_pure (lv' := [some (.ref 137), some (.int (0 : Int32)), some (.int (0 : Int32)), none, none, none]) rfl rfl ?_
  exact lm_le (by omega) (rl_X8_washes_L9 (n := 0) (by omega) 40 (0 : Int32) (0 : Int32) S1 _ _ _)
/-! X8_snap -/
def s_X8_snap_L52 : Nat → Int32 → HS → Option HS
  | 0, _, _ => none
  | K + 1, v1, S =>
    if (157 : Int32) ≤ v1 then
      Option.bind (pf S 137 14 ((gf S 137 14) + (1 : Int32))) fun S1 =>
      some S1
    else
      Option.bind (ag (ga S 139) v1) fun a2 =>
      Option.bind (wa S 141 (((157 : Int32) * (gf S 137 14)) + v1) a2) fun S3 =>
      s_X8_snap_L52 K (v1 + (1 : Int32)) S3
def s_X8_snap_L11 : Nat → Int32 → HS → Option HS
  | 0, _, _ => none
  | K + 1, v1, S =>
    if (1413 : Int32) ≤ v1 then
      Option.bind (pf S 137 14 ((gf S 137 14) - (1 : Int32))) fun S4 =>
      s_X8_snap_L52 1600 (0 : Int32) S4
    else
      Option.bind (ag (ga S 141) (v1 + (157 : Int32))) fun a5 =>
      Option.bind (wa S 141 v1 a5) fun S6 =>
      s_X8_snap_L11 K (v1 + (1 : Int32)) S6
def s_X8_snap (S : HS) : Option HS :=
  if (gf S 137 14) ≠ (10 : Int32) then
    s_X8_snap_L52 1600 (0 : Int32) S
  else
    s_X8_snap_L11 1600 (0 : Int32) S
set_option maxRecDepth 100000 in
theorem rl_X8_snap_L52 {e : Nat} (he : 0 ≤ e) {O : HS} {n : Nat} : ∀ (K : Nat) (v1 : Int32) (S : HS), Lm (oV true O) (s_X8_snap_L52 K v1 S) (run (CF e) (k_X8_snap false) (n + (18 * K + 0)) 52 [some (.ref 137), some (.int v1)] [] (en true O S)) := by
  intro K
  induction K with
  | zero =>
    intros
    exact lm_none
  | succ K ih =>
    intro v1 S
    rw [show n + (18 * (K + 1) + 0) = n + (18 * K + 0) + 18 by omega]
    rw [s_X8_snap_L52]
    refine r_pure rfl rfl ?_
    refine r_pure rfl rfl ?_
    refine r_if2 rfl rfl ?_ ?_
    · refine r_pure rfl rfl ?_
      refine r_pure rfl rfl ?_
      refine r_get rfl (en_get (b := true) (k := 137) (L := 12) ⟨rfl, by decide⟩ rfl) (fo_get (S := S) rfl) ?_
      refine r_pure rfl rfl ?_
      refine r_pure rfl rfl ?_
      refine r_putI rfl ⟨rfl, by decide⟩ rfl rfl rfl (fun S1 => ?_)
      exact r_retV rfl rfl
    · refine r_pure rfl rfl ?_
      refine r_get rfl (en_get (b := true) (k := 137) (L := 12) ⟨rfl, by decide⟩ rfl) (fo_get (S := S) rfl) ?_
      refine r_pure rfl rfl ?_
      refine r_pure rfl rfl ?_
      refine r_get rfl (en_get (b := true) (k := 137) (L := 12) ⟨rfl, by decide⟩ rfl) (fo_get (S := S) rfl) ?_
      refine r_pure rfl rfl ?_
      refine r_pure rfl rfl ?_
      refine r_pure rfl rfl ?_
      refine r_pure rfl rfl ?_
      refine r_get rfl (en_get (b := true) (k := 137) (L := 12) ⟨rfl, by decide⟩ rfl) (fo_get (S := S) rfl) ?_
      refine r_pure rfl rfl ?_
      refine r_iald rfl (en_get (b := true) (k := 139) (L := 0) ⟨rfl, by decide⟩ rfl) (fun a2 => ?_)
      refine r_iastI rfl ⟨rfl, by decide⟩ rfl (fun S3 => ?_)
      refine r_pure (lv' := [some (.ref 137), some (.int (v1 + (1 : Int32)))]) rfl rfl ?_
      refine r_pure rfl rfl ?_
      exact lm_le (by omega) (ih (v1 + (1 : Int32)) S3)
set_option maxRecDepth 100000 in
theorem rl_X8_snap_L11 {e : Nat} (he : 0 ≤ e) {O : HS} {n : Nat} : ∀ (K : Nat) (v1 : Int32) (S : HS), Lm (oV true O) (s_X8_snap_L11 K v1 S) (run (CF e) (k_X8_snap false) (n + (15 * K + 28800)) 11 [some (.ref 137), some (.int v1)] [] (en true O S)) := by
  intro K
  induction K with
  | zero =>
    intros
    exact lm_none
  | succ K ih =>
    intro v1 S
    rw [show n + (15 * (K + 1) + 28800) = n + (15 * K + 28800) + 15 by omega]
    rw [s_X8_snap_L11]
    refine r_pure rfl rfl ?_
    refine r_pure rfl rfl ?_
    refine r_if2 rfl rfl ?_ ?_
    · refine r_pure rfl rfl ?_
      refine r_pure rfl rfl ?_
      refine r_get rfl (en_get (b := true) (k := 137) (L := 12) ⟨rfl, by decide⟩ rfl) (fo_get (S := S) rfl) ?_
      refine r_pure rfl rfl ?_
      refine r_pure rfl rfl ?_
      refine r_putI rfl ⟨rfl, by decide⟩ rfl rfl rfl (fun S4 => ?_)
      refine r_pure rfl rfl ?_
      refine r_pure (lv' := [some (.ref 137), some (.int (0 : Int32))]) rfl rfl ?_
      exact lm_le (by omega) (rl_X8_snap_L52 (n := 0) (by omega) 1600 (0 : Int32) S4)
    · refine r_pure rfl rfl ?_
      refine r_get rfl (en_get (b := true) (k := 137) (L := 12) ⟨rfl, by decide⟩ rfl) (fo_get (S := S) rfl) ?_
      refine r_pure rfl rfl ?_
      refine r_pure rfl rfl ?_
      refine r_get rfl (en_get (b := true) (k := 137) (L := 12) ⟨rfl, by decide⟩ rfl) (fo_get (S := S) rfl) ?_
      refine r_pure rfl rfl ?_
      refine r_pure rfl rfl ?_
      refine r_pure rfl rfl ?_
      refine r_iald rfl (en_get (b := true) (k := 141) (L := 0) ⟨rfl, by decide⟩ rfl) (fun a5 => ?_)
      refine r_iastI rfl ⟨rfl, by decide⟩ rfl (fun S6 => ?_)
      refine r_pure (lv' := [some (.ref 137), some (.int (v1 + (1 : Int32)))]) rfl rfl ?_
      refine r_pure rfl rfl ?_
      exact lm_le (by omega) (ih (v1 + (1 : Int32)) S6)
set_option maxRecDepth 100000 in
theorem rf_X8_snap {d : Nat} (hd : 1 ≤ d) {O : HS} (S : HS) : Lm (oV true O) (s_X8_snap S) (CF d 154 [.ref 137] (en true O S)) := by
  unfold s_X8_snap
  obtain ⟨e, rfl⟩ : ∃ e, d = e + 1 := ⟨d - 1, by omega⟩
  refine rm_of (lv := [some (.ref 137), none]) (k_X8_snap false) (by omega) rfl rfl (Nat.le_of_ble_eq_true rfl) ?_
  refine lm_le (n := 52806) (by omega) ?_
  show Lm _ _ (run (CF e) _ _ _ _ _ _)
  refine r_pure rfl rfl ?_
  refine r_get rfl (en_get (b := true) (k := 137) (L := 12) ⟨rfl, by decide⟩ rfl) (fo_get (S := S) rfl) ?_
  refine r_pure rfl rfl ?_
  refine r_if2 rfl rfl ?_ ?_
  · refine r_pure rfl rfl ?_
    refine r_pure (lv' := [some (.ref 137), some (.int (0 : Int32))]) rfl rfl ?_
    exact lm_le (by omega) (rl_X8_snap_L52 (n := 0) (by omega) 1600 (0 : Int32) S)
  · refine r_pure rfl rfl ?_
    refine r_pure (lv' := [some (.ref 137), some (.int (0 : Int32))]) rfl rfl ?_
    exact lm_le (by omega) (rl_X8_snap_L11 (n := 0) (by omega) 1600 (0 : Int32) S)
/-! X8_asks -/
def s_X8_asks (v1 : Int32) (v2 : Int32) (S : HS) : Option (Int32 × HS) :=
  Option.bind (pf S 137 0 (0 : Int32)) fun S1 =>
  Option.bind (s_X8_isLiquid v1 S1) fun q2 =>
  if q2 = (0 : Int32) then
    some ((-1 : Int32), S1)
  else
    Option.bind (s_X8_isIn v2 (1 : Int32) (4995 : Int32)) fun q3 =>
    if q3 ≠ (0 : Int32) then
      Option.bind (s_X8_having (0 : Int32) S1) fun q4 =>
      if q4 ≠ (4 : Int32) then
        Option.bind (ag (ga S1 139) (13 : Int32)) fun a5 =>
        if a5 ≠ (20 : Int32) then
          Option.bind (s_X8_snap S1) fun q6 =>
          Option.bind (ag (ga q6 139) (13 : Int32)) fun a7 =>
          Option.bind (wa q6 139 (((57 : Int32) + ((5 : Int32) * a7)) + (0 : Int32)) v1) fun S8 =>
          Option.bind (wa S8 139 (((57 : Int32) + ((5 : Int32) * a7)) + (1 : Int32)) v2) fun S9 =>
          Option.bind (wa S9 139 (((57 : Int32) + ((5 : Int32) * a7)) + (2 : Int32)) (0 : Int32)) fun S10 =>
          Option.bind (wa S10 139 (((57 : Int32) + ((5 : Int32) * a7)) + (3 : Int32)) (0 : Int32)) fun S11 =>
          Option.bind (wa S11 139 (((57 : Int32) + ((5 : Int32) * a7)) + (4 : Int32)) (0 : Int32)) fun S12 =>
          Option.bind (ag (ga S12 139) (13 : Int32)) fun a13 =>
          Option.bind (wa S12 139 (13 : Int32) (a13 + (1 : Int32))) fun S14 =>
          some (a7, S14)
        else
          some ((-3 : Int32), S1)
      else
        some ((-2 : Int32), S1)
    else
      some ((-1 : Int32), S1)
set_option maxRecDepth 100000 in
theorem rf_X8_asks {d : Nat} (hd : 3 ≤ d) {O : HS} (v1 : Int32) (v2 : Int32) (S : HS) : Lm (oIW true O) (s_X8_asks v1 v2 S) (CF d 155 [.ref 137, .int v1, .int v2] (en true O S)) := by
  unfold s_X8_asks
  obtain ⟨e, rfl⟩ : ∃ e, d = e + 1 := ⟨d - 1, by omega⟩
  refine rm_of (lv := [some (.ref 137), some (.int v1), some (.int v2), none, none]) (k_X8_asks false) (by omega) rfl rfl (Nat.le_of_ble_eq_true rfl) ?_
  refine lm_le (n := 81) (by omega) ?_
  show Lm _ _ (run (CF e) _ _ _ _ _ _)
  refine r_pure rfl rfl ?_
  refine r_pure rfl rfl ?_
  refine r_putI rfl ⟨rfl, by decide⟩ rfl rfl rfl (fun S1 => ?_)
  refine r_pure rfl rfl ?_
  refine r_pure rfl rfl ?_
  refine r_callV_I rfl rfl (en_get (b := true) (k := 137) (L := 12) ⟨rfl, by decide⟩ rfl) (Nat.le_of_ble_eq_true rfl) (rf_X8_isLiquid (by omega) v1 S1) (fun q2 => ?_)
  refine r_if1 rfl rfl ?_ ?_
  · refine r_pure rfl rfl ?_
    exact r_retI rfl rfl
  · refine r_pure rfl rfl ?_
    refine r_pure rfl rfl ?_
    refine r_pure rfl rfl ?_
    refine r_callS_I rfl (Nat.le_of_ble_eq_true rfl) (Nat.le_of_ble_eq_true rfl) (rf_X8_isIn (by omega) v2 (1 : Int32) (4995 : Int32)) (fun q3 => ?_)
    refine r_if1 rfl rfl ?_ ?_
    · refine r_pure rfl rfl ?_
      refine r_pure rfl rfl ?_
      refine r_callV_I rfl rfl (en_get (b := true) (k := 137) (L := 12) ⟨rfl, by decide⟩ rfl) (Nat.le_of_ble_eq_true rfl) (rf_X8_having (by omega) (0 : Int32) S1) (fun q4 => ?_)
      refine r_pure rfl rfl ?_
      refine r_if2 rfl rfl ?_ ?_
      · refine r_pure rfl rfl ?_
        refine r_get rfl (en_get (b := true) (k := 137) (L := 12) ⟨rfl, by decide⟩ rfl) (fo_get (S := S1) rfl) ?_
        refine r_pure rfl rfl ?_
        refine r_iald rfl (en_get (b := true) (k := 139) (L := 0) ⟨rfl, by decide⟩ rfl) (fun a5 => ?_)
        refine r_pure rfl rfl ?_
        refine r_if2 rfl rfl ?_ ?_
        · refine r_pure rfl rfl ?_
          refine r_callV_VW rfl rfl (en_get (b := true) (k := 137) (L := 12) ⟨rfl, by decide⟩ rfl) (Nat.le_of_ble_eq_true rfl) (rf_X8_snap (by omega) S1) (fun q6 => ?_)
          refine r_pure rfl rfl ?_
          refine r_get rfl (en_get (b := true) (k := 137) (L := 12) ⟨rfl, by decide⟩ rfl) (fo_get (S := q6) rfl) ?_
          refine r_pure rfl rfl ?_
          refine r_iald rfl (en_get (b := true) (k := 139) (L := 0) ⟨rfl, by decide⟩ rfl) (fun a7 => ?_)
          refine r_pure (lv' := [some (.ref 137), some (.int v1), some (.int v2), some (.int a7), none]) rfl rfl ?_
          refine r_pure rfl rfl ?_
          refine r_pure rfl rfl ?_
          refine r_pure rfl rfl ?_
          refine r_pure rfl rfl ?_
          refine r_pure rfl rfl ?_
          refine r_pure (lv' := [some (.ref 137), some (.int v1), some (.int v2), some (.int a7), some (.int ((57 : Int32) + ((5 : Int32) * a7)))]) rfl rfl ?_
          refine r_pure rfl rfl ?_
          refine r_get rfl (en_get (b := true) (k := 137) (L := 12) ⟨rfl, by decide⟩ rfl) (fo_get (S := q6) rfl) ?_
          refine r_pure rfl rfl ?_
          refine r_pure rfl rfl ?_
          refine r_pure rfl rfl ?_
          refine r_pure rfl rfl ?_
          refine r_iastI rfl ⟨rfl, by decide⟩ rfl (fun S8 => ?_)
          refine r_pure rfl rfl ?_
          refine r_get rfl (en_get (b := true) (k := 137) (L := 12) ⟨rfl, by decide⟩ rfl) (fo_get (S := S8) rfl) ?_
          refine r_pure rfl rfl ?_
          refine r_pure rfl rfl ?_
          refine r_pure rfl rfl ?_
          refine r_pure rfl rfl ?_
          refine r_iastI rfl ⟨rfl, by decide⟩ rfl (fun S9 => ?_)
          refine r_pure rfl rfl ?_
          refine r_get rfl (en_get (b := true) (k := 137) (L := 12) ⟨rfl, by decide⟩ rfl) (fo_get (S := S9) rfl) ?_
          refine r_pure rfl rfl ?_
          refine r_pure rfl rfl ?_
          refine r_pure rfl rfl ?_
          refine r_pure rfl rfl ?_
          refine r_iastI rfl ⟨rfl, by decide⟩ rfl (fun S10 => ?_)
          refine r_pure rfl rfl ?_
          refine r_get rfl (en_get (b := true) (k := 137) (L := 12) ⟨rfl, by decide⟩ rfl) (fo_get (S := S10) rfl) ?_
          refine r_pure rfl rfl ?_
          refine r_pure rfl rfl ?_
          refine r_pure rfl rfl ?_
          refine r_pure rfl rfl ?_
          refine r_iastI rfl ⟨rfl, by decide⟩ rfl (fun S11 => ?_)
          refine r_pure rfl rfl ?_
          refine r_get rfl (en_get (b := true) (k := 137) (L := 12) ⟨rfl, by decide⟩ rfl) (fo_get (S := S11) rfl) ?_
          refine r_pure rfl rfl ?_
          refine r_pure rfl rfl ?_
          refine r_pure rfl rfl ?_
          refine r_pure rfl rfl ?_
          refine r_iastI rfl ⟨rfl, by decide⟩ rfl (fun S12 => ?_)
          refine r_pure rfl rfl ?_
          refine r_get rfl (en_get (b := true) (k := 137) (L := 12) ⟨rfl, by decide⟩ rfl) (fo_get (S := S12) rfl) ?_
          refine r_pure rfl rfl ?_
          refine r_pure rfl rfl ?_
          refine r_iald rfl (en_get (b := true) (k := 139) (L := 0) ⟨rfl, by decide⟩ rfl) (fun a13 => ?_)
          refine r_pure rfl rfl ?_
          refine r_pure rfl rfl ?_
          refine r_iastI rfl ⟨rfl, by decide⟩ rfl (fun S14 => ?_)
          refine r_pure rfl rfl ?_
          exact r_retI rfl rfl
        · refine r_pure rfl rfl ?_
          exact r_retI rfl rfl
      · refine r_pure rfl rfl ?_
        exact r_retI rfl rfl
    · refine r_pure rfl rfl ?_
      exact r_retI rfl rfl
/-! X8_cancel -/
def s_X8_cancel (v1 : Int32) (S : HS) : Option (Int32 × HS) :=
  Option.bind (pf S 137 0 (0 : Int32)) fun S1 =>
  Option.bind (s_X8_isDrop v1 S1) fun q2 =>
  if q2 = (0 : Int32) then
    some ((0 : Int32), S1)
  else
    Option.bind (s_X8_its v1 (2 : Int32) S1) fun q3 =>
    if q3 ≠ (0 : Int32) then
      some ((0 : Int32), S1)
    else
      Option.bind (s_X8_loadedOf v1 S1) fun q4 =>
      if q4 ≤ (0 : Int32) then
        Option.bind (s_X8_snap S1) fun q5 =>
        Option.bind (wa q5 139 (((57 : Int32) + ((5 : Int32) * v1)) + (2 : Int32)) (3 : Int32)) fun S6 =>
        some ((1 : Int32), S6)
      else
        some ((0 : Int32), S1)
set_option maxRecDepth 100000 in
theorem rf_X8_cancel {d : Nat} (hd : 3 ≤ d) {O : HS} (v1 : Int32) (S : HS) : Lm (oIW true O) (s_X8_cancel v1 S) (CF d 156 [.ref 137, .int v1] (en true O S)) := by
  unfold s_X8_cancel
  obtain ⟨e, rfl⟩ : ∃ e, d = e + 1 := ⟨d - 1, by omega⟩
  refine rm_of (lv := [some (.ref 137), some (.int v1)]) (k_X8_cancel false) (by omega) rfl rfl (Nat.le_of_ble_eq_true rfl) ?_
  refine lm_le (n := 31) (by omega) ?_
  show Lm _ _ (run (CF e) _ _ _ _ _ _)
  refine r_pure rfl rfl ?_
  refine r_pure rfl rfl ?_
  refine r_putI rfl ⟨rfl, by decide⟩ rfl rfl rfl (fun S1 => ?_)
  refine r_pure rfl rfl ?_
  refine r_pure rfl rfl ?_
  refine r_callV_I rfl rfl (en_get (b := true) (k := 137) (L := 12) ⟨rfl, by decide⟩ rfl) (Nat.le_of_ble_eq_true rfl) (rf_X8_isDrop (by omega) v1 S1) (fun q2 => ?_)
  refine r_if1 rfl rfl ?_ ?_
  · refine r_pure rfl rfl ?_
    exact r_retZ rfl (Or.inl rfl) rfl
  · refine r_pure rfl rfl ?_
    refine r_pure rfl rfl ?_
    refine r_pure rfl rfl ?_
    refine r_callV_I rfl rfl (en_get (b := true) (k := 137) (L := 12) ⟨rfl, by decide⟩ rfl) (Nat.le_of_ble_eq_true rfl) (rf_X8_its (by omega) v1 (2 : Int32) S1) (fun q3 => ?_)
    refine r_if1 rfl rfl ?_ ?_
    · refine r_pure rfl rfl ?_
      exact r_retZ rfl (Or.inl rfl) rfl
    · refine r_pure rfl rfl ?_
      refine r_pure rfl rfl ?_
      refine r_callV_I rfl rfl (en_get (b := true) (k := 137) (L := 12) ⟨rfl, by decide⟩ rfl) (Nat.le_of_ble_eq_true rfl) (rf_X8_loadedOf (by omega) v1 S1) (fun q4 => ?_)
      refine r_if1 rfl rfl ?_ ?_
      · refine r_pure rfl rfl ?_
        refine r_callV_VW rfl rfl (en_get (b := true) (k := 137) (L := 12) ⟨rfl, by decide⟩ rfl) (Nat.le_of_ble_eq_true rfl) (rf_X8_snap (by omega) S1) (fun q5 => ?_)
        refine r_pure rfl rfl ?_
        refine r_get rfl (en_get (b := true) (k := 137) (L := 12) ⟨rfl, by decide⟩ rfl) (fo_get (S := q5) rfl) ?_
        refine r_pure rfl rfl ?_
        refine r_pure rfl rfl ?_
        refine r_pure rfl rfl ?_
        refine r_pure rfl rfl ?_
        refine r_pure rfl rfl ?_
        refine r_pure rfl rfl ?_
        refine r_pure rfl rfl ?_
        refine r_pure rfl rfl ?_
        refine r_iastI rfl ⟨rfl, by decide⟩ rfl (fun S6 => ?_)
        refine r_pure rfl rfl ?_
        exact r_retZ rfl (Or.inr rfl) rfl
      · refine r_pure rfl rfl ?_
        exact r_retZ rfl (Or.inl rfl) rfl
/-! X8_puts -/
def s_X8_puts (v1 : Int32) (v2 : Int32) (v3 : Int32) (S : HS) : Option HS :=
  Option.bind (wa S 139 (((27 : Int32) + ((6 : Int32) * v1)) + (3 : Int32)) v3) fun S1 =>
  Option.bind (wa S1 139 (((27 : Int32) + ((6 : Int32) * v1)) + (4 : Int32)) (v2 + (1 : Int32))) fun S2 =>
  Option.bind (s_X8_its v2 (0 : Int32) S2) fun q3 =>
  Option.bind (wa S2 139 (((27 : Int32) + ((6 : Int32) * v1)) + (5 : Int32)) (q3 + (1 : Int32))) fun S4 =>
  Option.bind (s_X8_loadedOf v2 S4) fun q5 =>
  Option.bind (s_X8_its v2 (1 : Int32) S4) fun q6 =>
  if q5 ≠ q6 then
    some S4
  else
    Option.bind (wa S4 139 (((57 : Int32) + ((5 : Int32) * v2)) + (2 : Int32)) (1 : Int32)) fun S7 =>
    some S7
set_option maxRecDepth 100000 in
theorem rf_X8_puts {d : Nat} (hd : 3 ≤ d) {O : HS} (v1 : Int32) (v2 : Int32) (v3 : Int32) (S : HS) : Lm (oV true O) (s_X8_puts v1 v2 v3 S) (CF d 157 [.ref 137, .int v1, .int v2, .int v3] (en true O S)) := by
  unfold s_X8_puts
  obtain ⟨e, rfl⟩ : ∃ e, d = e + 1 := ⟨d - 1, by omega⟩
  refine rm_of (lv := [some (.ref 137), some (.int v1), some (.int v2), some (.int v3)]) (k_X8_puts false) (by omega) rfl rfl (Nat.le_of_ble_eq_true rfl) ?_
  refine lm_le (n := 60) (by omega) ?_
  show Lm _ _ (run (CF e) _ _ _ _ _ _)
  refine r_pure rfl rfl ?_
  refine r_get rfl (en_get (b := true) (k := 137) (L := 12) ⟨rfl, by decide⟩ rfl) (fo_get (S := S) rfl) ?_
  refine r_pure rfl rfl ?_
  refine r_pure rfl rfl ?_
  refine r_pure rfl rfl ?_
  refine r_pure rfl rfl ?_
  refine r_pure rfl rfl ?_
  refine r_pure rfl rfl ?_
  refine r_pure rfl rfl ?_
  refine r_pure rfl rfl ?_
  refine r_iastI rfl ⟨rfl, by decide⟩ rfl (fun S1 => ?_)
  refine r_pure rfl rfl ?_
  refine r_get rfl (en_get (b := true) (k := 137) (L := 12) ⟨rfl, by decide⟩ rfl) (fo_get (S := S1) rfl) ?_
  refine r_pure rfl rfl ?_
  refine r_pure rfl rfl ?_
  refine r_pure rfl rfl ?_
  refine r_pure rfl rfl ?_
  refine r_pure rfl rfl ?_
  refine r_pure rfl rfl ?_
  refine r_pure rfl rfl ?_
  refine r_pure rfl rfl ?_
  refine r_pure rfl rfl ?_
  refine r_pure rfl rfl ?_
  refine r_iastI rfl ⟨rfl, by decide⟩ rfl (fun S2 => ?_)
  refine r_pure rfl rfl ?_
  refine r_get rfl (en_get (b := true) (k := 137) (L := 12) ⟨rfl, by decide⟩ rfl) (fo_get (S := S2) rfl) ?_
  refine r_pure rfl rfl ?_
  refine r_pure rfl rfl ?_
  refine r_pure rfl rfl ?_
  refine r_pure rfl rfl ?_
  refine r_pure rfl rfl ?_
  refine r_pure rfl rfl ?_
  refine r_pure rfl rfl ?_
  refine r_pure rfl rfl ?_
  refine r_pure rfl rfl ?_
  refine r_pure rfl rfl ?_
  refine r_callV_I rfl rfl (en_get (b := true) (k := 137) (L := 12) ⟨rfl, by decide⟩ rfl) (Nat.le_of_ble_eq_true rfl) (rf_X8_its (by omega) v2 (0 : Int32) S2) (fun q3 => ?_)
  refine r_pure rfl rfl ?_
  refine r_pure rfl rfl ?_
  refine r_iastI rfl ⟨rfl, by decide⟩ rfl (fun S4 => ?_)
  refine r_pure rfl rfl ?_
  refine r_pure rfl rfl ?_
  refine r_callV_I rfl rfl (en_get (b := true) (k := 137) (L := 12) ⟨rfl, by decide⟩ rfl) (Nat.le_of_ble_eq_true rfl) (rf_X8_loadedOf (by omega) v2 S4) (fun q5 => ?_)
  refine r_pure rfl rfl ?_
  refine r_pure rfl rfl ?_
  refine r_pure rfl rfl ?_
  refine r_callV_I rfl rfl (en_get (b := true) (k := 137) (L := 12) ⟨rfl, by decide⟩ rfl) (Nat.le_of_ble_eq_true rfl) (rf_X8_its (by omega) v2 (1 : Int32) S4) (fun q6 => ?_)
  refine r_if2 rfl rfl ?_ ?_
  · exact r_retV rfl rfl
  · refine r_pure rfl rfl ?_
    refine r_get rfl (en_get (b := true) (k := 137) (L := 12) ⟨rfl, by decide⟩ rfl) (fo_get (S := S4) rfl) ?_
    refine r_pure rfl rfl ?_
    refine r_pure rfl rfl ?_
    refine r_pure rfl rfl ?_
    refine r_pure rfl rfl ?_
    refine r_pure rfl rfl ?_
    refine r_pure rfl rfl ?_
    refine r_pure rfl rfl ?_
    refine r_pure rfl rfl ?_
    refine r_iastI rfl ⟨rfl, by decide⟩ rfl (fun S7 => ?_)
    exact r_retV rfl rfl
/-! X8_put -/
def s_X8_put_J108 (v1 : Int32) (v2 : Int32) (x0 : Int32) (S : HS) : Option (Int32 × HS) :=
  Option.bind (s_X8_puts v1 v2 x0 S) fun q14 =>
  some (x0, q14)
def s_X8_put (v1 : Int32) (v2 : Int32) (S : HS) : Option (Int32 × HS) :=
  Option.bind (pf S 137 0 (0 : Int32)) fun S1 =>
  Option.bind (s_X8_isHold v1 S1) fun q2 =>
  if q2 = (0 : Int32) then
    some ((-1 : Int32), S1)
  else
    Option.bind (s_X8_isDrop v2 S1) fun q3 =>
    if q3 = (0 : Int32) then
      some ((-1 : Int32), S1)
    else
      Option.bind (s_X8_its v2 (2 : Int32) S1) fun q4 =>
      if q4 = (0 : Int32) then
        Option.bind (s_X8_holds v1 (4 : Int32) S1) fun q5 =>
        if q5 ≤ (0 : Int32) then
          Option.bind (s_X8_its v2 (0 : Int32) S1) fun q6 =>
          Option.bind (s_X8_mayCome v1 q6 (0 : Int32) S1) fun q7 =>
          if q7 ≠ (0 : Int32) then
            Option.bind (s_X8_top v1 S1) fun q8 =>
            if q8 ≠ (0 : Int32) then
              Option.bind (s_X8_snap S1) fun q9 =>
              Option.bind (s_X8_its v2 (1 : Int32) q9) fun q10 =>
              Option.bind (s_X8_loadedOf v2 q9) fun q11 =>
              Option.bind (s_X8_top v1 q9) fun q12 =>
              if q12 ≤ (q10 - q11) then
                Option.bind (s_X8_top v1 q9) fun q13 =>
                s_X8_put_J108 v1 v2 q13 q9
              else
                s_X8_put_J108 v1 v2 (q10 - q11) q9
            else
              some ((-4 : Int32), S1)
          else
            some ((-3 : Int32), S1)
        else
          some ((-2 : Int32), S1)
      else
        some ((-1 : Int32), S1)
set_option maxRecDepth 100000 in
theorem rj_X8_put_J108 {e : Nat} (he : 3 ≤ e) {O : HS} (v1 : Int32) (v2 : Int32) (x0 : Int32) {n : Nat} (S : HS) (j3 : Option Value) (j4 : Option Value) : Lm (oIW true O) (s_X8_put_J108 v1 v2 x0 S) (run (CF e) (k_X8_put false) (n + 8) 108 [some (.ref 137), some (.int v1), some (.int v2), j3, j4] [.int x0] (en true O S)) := by
  unfold s_X8_put_J108
  refine r_pure (lv' := [some (.ref 137), some (.int v1), some (.int v2), _, some (.int x0)]) rfl rfl ?_
  refine r_pure rfl rfl ?_
  refine r_pure rfl rfl ?_
  refine r_pure rfl rfl ?_
  refine r_pure rfl rfl ?_
  refine r_callV_VW rfl rfl (en_get (b := true) (k := 137) (L := 12) ⟨rfl, by decide⟩ rfl) (Nat.le_of_ble_eq_true rfl) (rf_X8_puts (by omega) v1 v2 x0 S) (fun q14 => ?_)
  refine r_pure rfl rfl ?_
  exact r_retI rfl rfl
set_option maxRecDepth 100000 in
theorem rf_X8_put {d : Nat} (hd : 4 ≤ d) {O : HS} (v1 : Int32) (v2 : Int32) (S : HS) : Lm (oIW true O) (s_X8_put v1 v2 S) (CF d 158 [.ref 137, .int v1, .int v2] (en true O S)) := by
  unfold s_X8_put
  obtain ⟨e, rfl⟩ : ∃ e, d = e + 1 := ⟨d - 1, by omega⟩
  refine rm_of (lv := [some (.ref 137), some (.int v1), some (.int v2), none, none]) (k_X8_put false) (by omega) rfl rfl (Nat.le_of_ble_eq_true rfl) ?_
  refine lm_le (n := 61) (by omega) ?_
  show Lm _ _ (run (CF e) _ _ _ _ _ _)
  refine r_pure rfl rfl ?_
  refine r_pure rfl rfl ?_
  refine r_putI rfl ⟨rfl, by decide⟩ rfl rfl rfl (fun S1 => ?_)
  refine r_pure rfl rfl ?_
  refine r_pure rfl rfl ?_
  refine r_callV_I rfl rfl (en_get (b := true) (k := 137) (L := 12) ⟨rfl, by decide⟩ rfl) (Nat.le_of_ble_eq_true rfl) (rf_X8_isHold (by omega) v1 S1) (fun q2 => ?_)
  refine r_if1 rfl rfl ?_ ?_
  · refine r_pure rfl rfl ?_
    exact r_retI rfl rfl
  · refine r_pure rfl rfl ?_
    refine r_pure rfl rfl ?_
    refine r_callV_I rfl rfl (en_get (b := true) (k := 137) (L := 12) ⟨rfl, by decide⟩ rfl) (Nat.le_of_ble_eq_true rfl) (rf_X8_isDrop (by omega) v2 S1) (fun q3 => ?_)
    refine r_if1 rfl rfl ?_ ?_
    · refine r_pure rfl rfl ?_
      exact r_retI rfl rfl
    · refine r_pure rfl rfl ?_
      refine r_pure rfl rfl ?_
      refine r_pure rfl rfl ?_
      refine r_callV_I rfl rfl (en_get (b := true) (k := 137) (L := 12) ⟨rfl, by decide⟩ rfl) (Nat.le_of_ble_eq_true rfl) (rf_X8_its (by omega) v2 (2 : Int32) S1) (fun q4 => ?_)
      refine r_if1 rfl rfl ?_ ?_
      · refine r_pure rfl rfl ?_
        refine r_pure rfl rfl ?_
        refine r_pure rfl rfl ?_
        refine r_callV_I rfl rfl (en_get (b := true) (k := 137) (L := 12) ⟨rfl, by decide⟩ rfl) (Nat.le_of_ble_eq_true rfl) (rf_X8_holds (by omega) v1 (4 : Int32) S1) (fun q5 => ?_)
        refine r_if1 rfl rfl ?_ ?_
        · refine r_pure rfl rfl ?_
          refine r_pure rfl rfl ?_
          refine r_pure rfl rfl ?_
          refine r_pure rfl rfl ?_
          refine r_pure rfl rfl ?_
          refine r_callV_I rfl rfl (en_get (b := true) (k := 137) (L := 12) ⟨rfl, by decide⟩ rfl) (Nat.le_of_ble_eq_true rfl) (rf_X8_its (by omega) v2 (0 : Int32) S1) (fun q6 => ?_)
          refine r_pure rfl rfl ?_
          refine r_callV_I rfl rfl (en_get (b := true) (k := 137) (L := 12) ⟨rfl, by decide⟩ rfl) (Nat.le_of_ble_eq_true rfl) (rf_X8_mayCome (by omega) v1 q6 (0 : Int32) S1) (fun q7 => ?_)
          refine r_if1 rfl rfl ?_ ?_
          · refine r_pure rfl rfl ?_
            refine r_pure rfl rfl ?_
            refine r_callV_I rfl rfl (en_get (b := true) (k := 137) (L := 12) ⟨rfl, by decide⟩ rfl) (Nat.le_of_ble_eq_true rfl) (rf_X8_top (by omega) v1 S1) (fun q8 => ?_)
            refine r_if1 rfl rfl ?_ ?_
            · refine r_pure rfl rfl ?_
              refine r_callV_VW rfl rfl (en_get (b := true) (k := 137) (L := 12) ⟨rfl, by decide⟩ rfl) (Nat.le_of_ble_eq_true rfl) (rf_X8_snap (by omega) S1) (fun q9 => ?_)
              refine r_pure rfl rfl ?_
              refine r_pure rfl rfl ?_
              refine r_pure rfl rfl ?_
              refine r_callV_I rfl rfl (en_get (b := true) (k := 137) (L := 12) ⟨rfl, by decide⟩ rfl) (Nat.le_of_ble_eq_true rfl) (rf_X8_its (by omega) v2 (1 : Int32) q9) (fun q10 => ?_)
              refine r_pure rfl rfl ?_
              refine r_pure rfl rfl ?_
              refine r_callV_I rfl rfl (en_get (b := true) (k := 137) (L := 12) ⟨rfl, by decide⟩ rfl) (Nat.le_of_ble_eq_true rfl) (rf_X8_loadedOf (by omega) v2 q9) (fun q11 => ?_)
              refine r_pure rfl rfl ?_
              refine r_pure (lv' := [some (.ref 137), some (.int v1), some (.int v2), some (.int (q10 - q11)), none]) rfl rfl ?_
              refine r_pure rfl rfl ?_
              refine r_pure rfl rfl ?_
              refine r_pure rfl rfl ?_
              refine r_callV_I rfl rfl (en_get (b := true) (k := 137) (L := 12) ⟨rfl, by decide⟩ rfl) (Nat.le_of_ble_eq_true rfl) (rf_X8_top (by omega) v1 q9) (fun q12 => ?_)
              refine r_if2 rfl rfl ?_ ?_
              · refine r_pure rfl rfl ?_
                refine r_pure rfl rfl ?_
                refine r_callV_I rfl rfl (en_get (b := true) (k := 137) (L := 12) ⟨rfl, by decide⟩ rfl) (Nat.le_of_ble_eq_true rfl) (rf_X8_top (by omega) v1 q9) (fun q13 => ?_)
                exact lm_le (by omega) (rj_X8_put_J108 (n := 0) (by omega) v1 v2 q13 q9 _ _)
              · refine r_pure rfl rfl ?_
                refine r_pure rfl rfl ?_
                exact lm_le (by omega) (rj_X8_put_J108 (n := 0) (by omega) v1 v2 (q10 - q11) q9 _ _)
            · refine r_pure rfl rfl ?_
              exact r_retI rfl rfl
          · refine r_pure rfl rfl ?_
            exact r_retI rfl rfl
        · refine r_pure rfl rfl ?_
          exact r_retI rfl rfl
      · refine r_pure rfl rfl ?_
        exact r_retI rfl rfl
