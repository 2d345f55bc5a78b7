/-! X8_without -/
def s_X8_without (v1 : Int32) (S : HS) : Option (Int32 × HS) :=
  Option.bind (pf S 137 0 (0 : Int32)) fun S1 =>
  Option.bind (s_X8_isDrop v1 S1) fun q2 =>
  if q2 = (0 : Int32) then
    some ((-1 : Int32), S1)
  else
    Option.bind (s_X8_its v1 (2 : Int32) S1) fun q3 =>
    if q3 = (1 : Int32) then
      Option.bind (s_X8_laysNow S1) fun q4 =>
      Option.bind (s_X8_stands ((1 : Int32) <<< (v1 &&& (31 : Int32))) q4) fun q5 =>
      some (q5, q4)
    else
      some ((-1 : Int32), S1)
set_option maxRecDepth 100000 in
theorem rf_X8_without {d : Nat} (hd : 5 ≤ d) {O : HS} (v1 : Int32) (S : HS) : Lm (oIW true O) (s_X8_without v1 S) (CF d 147 [.ref 137, .int v1] (en true O S)) := by
  unfold s_X8_without
  obtain ⟨e, rfl⟩ : ∃ e, d = e + 1 := ⟨d - 1, by omega⟩
  refine rm_of (lv := [some (.ref 137), some (.int v1)]) (k_X8_without false) (by omega) rfl rfl (Nat.le_of_ble_eq_true rfl) ?_
  refine lm_le (n := 21) (by omega) ?_
  show Lm _ _ (run (CF e) _ _ _ _ _ _)
  refine r_pure rfl rfl ?_
  refine r_pure rfl rfl ?_
  refine r_putI rfl ⟨rfl, by decide⟩ rfl rfl rfl (fun S1 => ?_)
  refine r_pure rfl rfl ?_
  refine r_pure rfl rfl ?_
  refine r_callV_I rfl rfl (en_get (b := true) (k := 137) (L := 12) ⟨rfl, by decide⟩ rfl) (Nat.le_of_ble_eq_true rfl) (rf_X8_isDrop (by omega) v1 S1) (fun q2 => ?_)
  refine r_if1 rfl rfl ?_ ?_
  · refine r_pure rfl rfl ?_
    exact r_retI rfl rfl
  · refine r_pure rfl rfl ?_
    refine r_pure rfl rfl ?_
    refine r_pure rfl rfl ?_
    refine r_callV_I rfl rfl (en_get (b := true) (k := 137) (L := 12) ⟨rfl, by decide⟩ rfl) (Nat.le_of_ble_eq_true rfl) (rf_X8_its (by omega) v1 (2 : Int32) S1) (fun q3 => ?_)
    refine r_pure rfl rfl ?_
    refine r_if2 rfl rfl ?_ ?_
    · refine r_pure rfl rfl ?_
      refine r_callV_VW rfl rfl (en_get (b := true) (k := 137) (L := 12) ⟨rfl, by decide⟩ rfl) (Nat.le_of_ble_eq_true rfl) (rf_X8_laysNow (by omega) S1) (fun q4 => ?_)
      refine r_pure rfl rfl ?_
      refine r_pure rfl rfl ?_
      refine r_pure rfl rfl ?_
      refine r_pure rfl rfl ?_
      refine r_callV_I rfl rfl (en_get (b := true) (k := 137) (L := 12) ⟨rfl, by decide⟩ rfl) (Nat.le_of_ble_eq_true rfl) (rf_X8_stands (by omega) ((1 : Int32) <<< (v1 &&& (31 : Int32))) q4) (fun q5 => ?_)
      exact r_retI rfl rfl
    · refine r_pure rfl rfl ?_
      exact r_retI rfl rfl
/-! X8_pours -/
def s_X8_pours_J122 (rc30 : Int32 → Int32 → HS → Option (Int32 × HS)) (rc74 : Int32 → Int32 → Int32 → HS → Option (Int32 × HS)) (v1 : Int32) (v2 : Int32) (v3 : Int32) (v4 : Int32) (v6 : Int32) (x0 : Int32) (S : HS) : Option (Int32 × HS) :=
  if x0 = (0 : Int32) then
    some ((-1 : Int32), S)
  else
    Option.bind (s_X8_its v3 (0 : Int32) S) fun q8 =>
    Option.bind (s_X8_mayCome v6 q8 v1 S) fun q9 =>
    if q9 ≠ (0 : Int32) then
      Option.bind (wa S 148 v6 x0) fun S10 =>
      rc74 (v4 - x0) (1 : Int32) (v6 + (1 : Int32)) S10
    else
      some ((-1 : Int32), S)
def s_X8_pours_L74 (rc30 : Int32 → Int32 → HS → Option (Int32 × HS)) (v1 : Int32) (v2 : Int32) (v3 : Int32) : Nat → Int32 → Int32 → Int32 → HS → Option (Int32 × HS)
  | 0, _, _, _, _ => none
  | K + 1, v4, v5, v6, S =>
    Option.bind (ag (ga S 139) (9 : Int32)) fun a4 =>
    if a4 ≤ v6 then
      if v5 = (0 : Int32) then
        if v5 = (0 : Int32) then
          rc30 v2 (v3 + (1 : Int32)) S
        else
          rc30 (v2 ||| ((1 : Int32) <<< (v3 &&& (31 : Int32)))) (v3 + (1 : Int32)) S
      else
        if v4 ≤ (0 : Int32) then
          if v5 = (0 : Int32) then
            rc30 v2 (v3 + (1 : Int32)) S
          else
            rc30 (v2 ||| ((1 : Int32) <<< (v3 &&& (31 : Int32)))) (v3 + (1 : Int32)) S
        else
          some ((-1 : Int32), S)
    else
      Option.bind (ag (ga S 147) v6) fun a5 =>
      if a5 = v3 then
        Option.bind (s_X8_top v6 S) fun q6 =>
        if q6 ≤ v4 then
          Option.bind (s_X8_top v6 S) fun q7 =>
          s_X8_pours_J122 rc30 (s_X8_pours_L74 rc30 v1 v2 v3 K) v1 v2 v3 v4 v6 q7 S
        else
          s_X8_pours_J122 rc30 (s_X8_pours_L74 rc30 v1 v2 v3 K) v1 v2 v3 v4 v6 v4 S
      else
        s_X8_pours_L74 rc30 v1 v2 v3 K v4 v5 (v6 + (1 : Int32)) S
def s_X8_pours_L30 (v1 : Int32) : Nat → Int32 → Int32 → HS → Option (Int32 × HS)
  | 0, _, _, _ => none
  | K + 1, v2, v3, S =>
    Option.bind (ag (ga S 139) (13 : Int32)) fun a2 =>
    if a2 ≤ v3 then
      some (v2, S)
    else
      Option.bind (s_X8_its v3 (2 : Int32) S) fun q3 =>
      if q3 ≠ (0 : Int32) then
        s_X8_pours_L74 (s_X8_pours_L30 v1 K) v1 v2 v3 40 (0 : Int32) (0 : Int32) (0 : Int32) S
      else
        Option.bind (s_X8_its v3 (1 : Int32) S) fun q11 =>
        Option.bind (s_X8_loadedOf v3 S) fun q12 =>
        s_X8_pours_L74 (s_X8_pours_L30 v1 K) v1 v2 v3 40 (q11 - q12) (0 : Int32) (0 : Int32) S
def s_X8_pours_L4 (v1 : Int32) (v2 : Int32) : Nat → Int32 → HS → Option (Int32 × HS)
  | 0, _, _ => none
  | K + 1, v3, S =>
    Option.bind (ag (ga S 139) (9 : Int32)) fun a1 =>
    if a1 ≤ v3 then
      s_X8_pours_L30 v1 40 v2 (0 : Int32) S
    else
      Option.bind (wa S 148 v3 (0 : Int32)) fun S13 =>
      s_X8_pours_L4 v1 v2 K (v3 + (1 : Int32)) S13
def s_X8_pours (v1 : Int32) (S : HS) : Option (Int32 × HS) :=
  s_X8_pours_L4 v1 (0 : Int32) 40 (0 : Int32) S
set_option maxRecDepth 100000 in
theorem rj_X8_pours_J122 {e : Nat} (he : 3 ≤ e) {O : HS} (rc30 : Int32 → Int32 → HS → Option (Int32 × HS)) (rc74 : Int32 → Int32 → Int32 → HS → Option (Int32 × HS)) (v1 : Int32) (v2 : Int32) (v3 : Int32) (v4 : Int32) (v6 : Int32) (x0 : Int32) {n : Nat} (hrc30 : ∀ (v2 : Int32) (v3 : Int32) (S : HS) (j4 : Option Value) (j5 : Option Value) (j6 : Option Value) (j7 : Option Value), Lm (oIW true O) (rc30 v2 v3 S) (run (CF e) (k_X8_pours false) n 30 [some (.ref 137), some (.int v1), some (.int v2), some (.int v3), j4, j5, j6, j7] [] (en true O S))) (hrc74 : ∀ (v4 : Int32) (v5 : Int32) (v6 : Int32) (S : HS) (j7 : Option Value), Lm (oIW true O) (rc74 v4 v5 v6 S) (run (CF e) (k_X8_pours false) n 74 [some (.ref 137), some (.int v1), some (.int v2), some (.int v3), some (.int v4), some (.int v5), some (.int v6), j7] [] (en true O S))) (S : HS) (j5 : Option Value) (j7 : Option Value) : Lm (oIW true O) (s_X8_pours_J122 rc30 rc74 v1 v2 v3 v4 v6 x0 S) (run (CF e) (k_X8_pours false) (n + 25) 122 [some (.ref 137), some (.int v1), some (.int v2), some (.int v3), some (.int v4), j5, some (.int v6), j7] [.int x0] (en true O S)) := by
  unfold s_X8_pours_J122
  refine r_pure (lv' := [some (.ref 137), some (.int v1), some (.int v2), some (.int v3), some (.int v4), _, some (.int v6), some (.int x0)]) rfl rfl ?_
  refine r_pure rfl rfl ?_
  refine r_if1 rfl rfl ?_ ?_
  · refine r_pure rfl rfl ?_
    exact r_retI rfl rfl
  · refine r_pure rfl rfl ?_
    refine r_pure rfl rfl ?_
    refine r_pure rfl rfl ?_
    refine r_pure rfl rfl ?_
    refine r_pure rfl rfl ?_
    refine r_callV_I rfl rfl (en_get (b := true) (k := 137) (L := 12) ⟨rfl, by decide⟩ rfl) (Nat.le_of_ble_eq_true rfl) (rf_X8_its (by omega) v3 (0 : Int32) S) (fun q8 => ?_)
    refine r_pure rfl rfl ?_
    refine r_callV_I rfl rfl (en_get (b := true) (k := 137) (L := 12) ⟨rfl, by decide⟩ rfl) (Nat.le_of_ble_eq_true rfl) (rf_X8_mayCome (by omega) v6 q8 v1 S) (fun q9 => ?_)
    refine r_if1 rfl rfl ?_ ?_
    · refine r_pure rfl rfl ?_
      refine r_get rfl (en_get (b := true) (k := 137) (L := 12) ⟨rfl, by decide⟩ rfl) (fo_get (S := S) rfl) ?_
      refine r_pure rfl rfl ?_
      refine r_pure rfl rfl ?_
      refine r_iastI rfl ⟨rfl, by decide⟩ rfl (fun S10 => ?_)
      refine r_pure rfl rfl ?_
      refine r_pure rfl rfl ?_
      refine r_pure rfl rfl ?_
      refine r_pure (lv' := [some (.ref 137), some (.int v1), some (.int v2), some (.int v3), some (.int (v4 - x0)), _, some (.int v6), some (.int x0)]) rfl rfl ?_
      refine r_pure rfl rfl ?_
      refine r_pure (lv' := [some (.ref 137), some (.int v1), some (.int v2), some (.int v3), some (.int (v4 - x0)), some (.int (1 : Int32)), some (.int v6), some (.int x0)]) rfl rfl ?_
      refine r_pure (lv' := [some (.ref 137), some (.int v1), some (.int v2), some (.int v3), some (.int (v4 - x0)), some (.int (1 : Int32)), some (.int (v6 + (1 : Int32))), some (.int x0)]) rfl rfl ?_
      refine r_pure rfl rfl ?_
      exact lm_le (by omega) (hrc74 (v4 - x0) (1 : Int32) (v6 + (1 : Int32)) S10 _)
    · refine r_pure rfl rfl ?_
      exact r_retI rfl rfl
set_option maxRecDepth 100000 in
theorem rl_X8_pours_L74 {e : Nat} (he : 3 ≤ e) {O : HS} (rc30 : Int32 → Int32 → HS → Option (Int32 × HS)) (v1 : Int32) (v2 : Int32) (v3 : Int32) {n : Nat} (hrc30 : ∀ (v2 : Int32) (v3 : Int32) (S : HS) (j4 : Option Value) (j5 : Option Value) (j6 : Option Value) (j7 : Option Value), Lm (oIW true O) (rc30 v2 v3 S) (run (CF e) (k_X8_pours false) n 30 [some (.ref 137), some (.int v1), some (.int v2), some (.int v3), j4, j5, j6, j7] [] (en true O S))) : ∀ (K : Nat) (v4 : Int32) (v5 : Int32) (v6 : Int32) (S : HS) (j7 : Option Value), Lm (oIW true O) (s_X8_pours_L74 rc30 v1 v2 v3 K v4 v5 v6 S) (run (CF e) (k_X8_pours false) (n + (45 * K + 0)) 74 [some (.ref 137), some (.int v1), some (.int v2), some (.int v3), some (.int v4), some (.int v5), some (.int v6), j7] [] (en true O S)) := by
  intro K
  induction K with
  | zero =>
    intros
    exact lm_none
  | succ K ih =>
    intro v4 v5 v6 S j7
    rw [show n + (45 * (K + 1) + 0) = n + (45 * K + 0) + 45 by omega]
    have hrc30x := fun (v2 : Int32) (v3 : Int32) (S : HS) (j4 : Option Value) (j5 : Option Value) (j6 : Option Value) (j7 : Option Value) => lm_le (m := n + (45 * K + 0)) (by omega) (hrc30 v2 v3 S j4 j5 j6 j7)
    rw [s_X8_pours_L74]
    refine r_pure rfl rfl ?_
    refine r_pure rfl rfl ?_
    refine r_get rfl (en_get (b := true) (k := 137) (L := 12) ⟨rfl, by decide⟩ rfl) (fo_get (S := S) rfl) ?_
    refine r_pure rfl rfl ?_
    refine r_iald rfl (en_get (b := true) (k := 139) (L := 0) ⟨rfl, by decide⟩ rfl) (fun a4 => ?_)
    refine r_if2 rfl rfl ?_ ?_
    · refine r_pure rfl rfl ?_
      refine r_if1 rfl rfl ?_ ?_
      · refine r_pure rfl rfl ?_
        refine r_if1 rfl rfl ?_ ?_
        · refine r_pure (lv' := [some (.ref 137), some (.int v1), some (.int v2), some (.int (v3 + (1 : Int32))), some (.int v4), some (.int v5), some (.int v6), _]) rfl rfl ?_
          refine r_pure rfl rfl ?_
          exact lm_le (by omega) (hrc30 v2 (v3 + (1 : Int32)) S _ _ _ _)
        · refine r_pure rfl rfl ?_
          refine r_pure rfl rfl ?_
          refine r_pure rfl rfl ?_
          refine r_pure rfl rfl ?_
          refine r_pure rfl rfl ?_
          refine r_pure (lv' := [some (.ref 137), some (.int v1), some (.int (v2 ||| ((1 : Int32) <<< (v3 &&& (31 : Int32))))), some (.int v3), some (.int v4), some (.int v5), some (.int v6), _]) rfl rfl ?_
          refine r_pure (lv' := [some (.ref 137), some (.int v1), some (.int (v2 ||| ((1 : Int32) <<< (v3 &&& (31 : Int32))))), some (.int (v3 + (1 : Int32))), some (.int v4), some (.int v5), some (.int v6), _]) rfl rfl ?_
          refine r_pure rfl rfl ?_
          exact lm_le (by omega) (hrc30 (v2 ||| ((1 : Int32) <<< (v3 &&& (31 : Int32)))) (v3 + (1 : Int32)) S _ _ _ _)
      · refine r_pure rfl rfl ?_
        refine r_if1 rfl rfl ?_ ?_
        · refine r_pure rfl rfl ?_
          refine r_if1 rfl rfl ?_ ?_
          · refine r_pure (lv' := [some (.ref 137), some (.int v1), some (.int v2), some (.int (v3 + (1 : Int32))), some (.int v4), some (.int v5), some (.int v6), _]) rfl rfl ?_
            refine r_pure rfl rfl ?_
            exact lm_le (by omega) (hrc30 v2 (v3 + (1 : Int32)) S _ _ _ _)
          · refine r_pure rfl rfl ?_
            refine r_pure rfl rfl ?_
            refine r_pure rfl rfl ?_
            refine r_pure rfl rfl ?_
            refine r_pure rfl rfl ?_
            refine r_pure (lv' := [some (.ref 137), some (.int v1), some (.int (v2 ||| ((1 : Int32) <<< (v3 &&& (31 : Int32))))), some (.int v3), some (.int v4), some (.int v5), some (.int v6), _]) rfl rfl ?_
            refine r_pure (lv' := [some (.ref 137), some (.int v1), some (.int (v2 ||| ((1 : Int32) <<< (v3 &&& (31 : Int32))))), some (.int (v3 + (1 : Int32))), some (.int v4), some (.int v5), some (.int v6), _]) rfl rfl ?_
            refine r_pure rfl rfl ?_
            exact lm_le (by omega) (hrc30 (v2 ||| ((1 : Int32) <<< (v3 &&& (31 : Int32)))) (v3 + (1 : Int32)) S _ _ _ _)
        · refine r_pure rfl rfl ?_
          exact r_retI rfl rfl
    · refine r_pure rfl rfl ?_
      refine r_get rfl (en_get (b := true) (k := 137) (L := 12) ⟨rfl, by decide⟩ rfl) (fo_get (S := S) rfl) ?_
      refine r_pure rfl rfl ?_
      refine r_iald rfl (en_get (b := true) (k := 147) (L := 0) ⟨rfl, by decide⟩ rfl) (fun a5 => ?_)
      refine r_pure rfl rfl ?_
      refine r_if2 rfl rfl ?_ ?_
      · refine r_pure rfl rfl ?_
        refine r_pure rfl rfl ?_
        refine r_pure rfl rfl ?_
        refine r_callV_I rfl rfl (en_get (b := true) (k := 137) (L := 12) ⟨rfl, by decide⟩ rfl) (Nat.le_of_ble_eq_true rfl) (rf_X8_top (by omega) v6 S) (fun q6 => ?_)
        refine r_if2 rfl rfl ?_ ?_
        · refine r_pure rfl rfl ?_
          refine r_pure rfl rfl ?_
          refine r_callV_I rfl rfl (en_get (b := true) (k := 137) (L := 12) ⟨rfl, by decide⟩ rfl) (Nat.le_of_ble_eq_true rfl) (rf_X8_top (by omega) v6 S) (fun q7 => ?_)
          exact lm_le (by omega) (rj_X8_pours_J122 (by omega) rc30 (s_X8_pours_L74 rc30 v1 v2 v3 K) v1 v2 v3 v4 v6 q7 hrc30x ih S _ _)
        · refine r_pure rfl rfl ?_
          refine r_pure rfl rfl ?_
          exact lm_le (by omega) (rj_X8_pours_J122 (by omega) rc30 (s_X8_pours_L74 rc30 v1 v2 v3 K) v1 v2 v3 v4 v6 v4 hrc30x ih S _ _)
      · refine r_pure rfl rfl ?_
        refine r_pure (lv' := [some (.ref 137), some (.int v1), some (.int v2), some (.int v3), some (.int v4), some (.int v5), some (.int (v6 + (1 : Int32))), _]) rfl rfl ?_
        refine r_pure rfl rfl ?_
        exact lm_le (by omega) (ih v4 v5 (v6 + (1 : Int32)) S _)
set_option maxRecDepth 100000 in
theorem rl_X8_pours_L30 {e : Nat} (he : 3 ≤ e) {O : HS} (v1 : Int32) {n : Nat} : ∀ (K : Nat) (v2 : Int32) (v3 : Int32) (S : HS) (j4 : Option Value) (j5 : Option Value) (j6 : Option Value) (j7 : Option Value), Lm (oIW true O) (s_X8_pours_L30 v1 K v2 v3 S) (run (CF e) (k_X8_pours false) (n + (1825 * K + 0)) 30 [some (.ref 137), some (.int v1), some (.int v2), some (.int v3), j4, j5, j6, j7] [] (en true O S)) := by
  intro K
  induction K with
  | zero =>
    intros
    exact lm_none
  | succ K ih =>
    intro v2 v3 S j4 j5 j6 j7
    rw [show n + (1825 * (K + 1) + 0) = n + (1825 * K + 0) + 1825 by omega]
    rw [s_X8_pours_L30]
    refine r_pure rfl rfl ?_
    refine r_pure rfl rfl ?_
    refine r_get rfl (en_get (b := true) (k := 137) (L := 12) ⟨rfl, by decide⟩ rfl) (fo_get (S := S) rfl) ?_
    refine r_pure rfl rfl ?_
    refine r_iald rfl (en_get (b := true) (k := 139) (L := 0) ⟨rfl, by decide⟩ rfl) (fun a2 => ?_)
    refine r_if2 rfl rfl ?_ ?_
    · refine r_pure rfl rfl ?_
      exact r_retI rfl rfl
    · refine r_pure rfl rfl ?_
      refine r_pure rfl rfl ?_
      refine r_pure rfl rfl ?_
      refine r_callV_I rfl rfl (en_get (b := true) (k := 137) (L := 12) ⟨rfl, by decide⟩ rfl) (Nat.le_of_ble_eq_true rfl) (rf_X8_its (by omega) v3 (2 : Int32) S) (fun q3 => ?_)
      refine r_if1 rfl rfl ?_ ?_
      · refine r_pure rfl rfl ?_
        refine r_pure (lv' := [some (.ref 137), some (.int v1), some (.int v2), some (.int v3), some (.int (0 : Int32)), _, _, _]) rfl rfl ?_
        refine r_pure rfl rfl ?_
        refine r_pure (lv' := [some (.ref 137), some (.int v1), some (.int v2), some (.int v3), some (.int (0 : Int32)), some (.int (0 : Int32)), _, _]) rfl rfl ?_
        refine r_pure rfl rfl ?_
        refine r_pure (lv' := [some (.ref 137), some (.int v1), some (.int v2), some (.int v3), some (.int (0 : Int32)), some (.int (0 : Int32)), some (.int (0 : Int32)), _]) rfl rfl ?_
        exact lm_le (by omega) (rl_X8_pours_L74 (by omega) (s_X8_pours_L30 v1 K) v1 v2 v3 ih 40 (0 : Int32) (0 : Int32) (0 : Int32) S _)
      · refine r_pure rfl rfl ?_
        refine r_pure rfl rfl ?_
        refine r_pure rfl rfl ?_
        refine r_callV_I rfl rfl (en_get (b := true) (k := 137) (L := 12) ⟨rfl, by decide⟩ rfl) (Nat.le_of_ble_eq_true rfl) (rf_X8_its (by omega) v3 (1 : Int32) S) (fun q11 => ?_)
        refine r_pure rfl rfl ?_
        refine r_pure rfl rfl ?_
        refine r_callV_I rfl rfl (en_get (b := true) (k := 137) (L := 12) ⟨rfl, by decide⟩ rfl) (Nat.le_of_ble_eq_true rfl) (rf_X8_loadedOf (by omega) v3 S) (fun q12 => ?_)
        refine r_pure rfl rfl ?_
        refine r_pure rfl rfl ?_
        refine r_pure (lv' := [some (.ref 137), some (.int v1), some (.int v2), some (.int v3), some (.int (q11 - q12)), _, _, _]) rfl rfl ?_
        refine r_pure rfl rfl ?_
        refine r_pure (lv' := [some (.ref 137), some (.int v1), some (.int v2), some (.int v3), some (.int (q11 - q12)), some (.int (0 : Int32)), _, _]) rfl rfl ?_
        refine r_pure rfl rfl ?_
        refine r_pure (lv' := [some (.ref 137), some (.int v1), some (.int v2), some (.int v3), some (.int (q11 - q12)), some (.int (0 : Int32)), some (.int (0 : Int32)), _]) rfl rfl ?_
        exact lm_le (by omega) (rl_X8_pours_L74 (by omega) (s_X8_pours_L30 v1 K) v1 v2 v3 ih 40 (q11 - q12) (0 : Int32) (0 : Int32) S _)
set_option maxRecDepth 100000 in
theorem rl_X8_pours_L4 {e : Nat} (he : 3 ≤ e) {O : HS} (v1 : Int32) (v2 : Int32) {n : Nat} : ∀ (K : Nat) (v3 : Int32) (S : HS) (j4 : Option Value) (j5 : Option Value) (j6 : Option Value) (j7 : Option Value), Lm (oIW true O) (s_X8_pours_L4 v1 v2 K v3 S) (run (CF e) (k_X8_pours false) (n + (13 * K + 73000)) 4 [some (.ref 137), some (.int v1), some (.int v2), some (.int v3), j4, j5, j6, j7] [] (en true O S)) := by
  intro K
  induction K with
  | zero =>
    intros
    exact lm_none
  | succ K ih =>
    intro v3 S j4 j5 j6 j7
    rw [show n + (13 * (K + 1) + 73000) = n + (13 * K + 73000) + 13 by omega]
    rw [s_X8_pours_L4]
    refine r_pure rfl rfl ?_
    refine r_pure rfl rfl ?_
    refine r_get rfl (en_get (b := true) (k := 137) (L := 12) ⟨rfl, by decide⟩ rfl) (fo_get (S := S) rfl) ?_
    refine r_pure rfl rfl ?_
    refine r_iald rfl (en_get (b := true) (k := 139) (L := 0) ⟨rfl, by decide⟩ rfl) (fun a1 => ?_)
    refine r_if2 rfl rfl ?_ ?_
    · refine r_pure rfl rfl ?_
      refine r_pure (lv' := [some (.ref 137), some (.int v1), some (.int v2), some (.int (0 : Int32)), _, _, _, _]) rfl rfl ?_
      exact lm_le (by omega) (rl_X8_pours_L30 (n := 0) (by omega) v1 40 v2 (0 : Int32) S _ _ _ _)
    · refine r_pure rfl rfl ?_
      refine r_get rfl (en_get (b := true) (k := 137) (L := 12) ⟨rfl, by decide⟩ rfl) (fo_get (S := S) rfl) ?_
      refine r_pure rfl rfl ?_
      refine r_pure rfl rfl ?_
      refine r_iastI rfl ⟨rfl, by decide⟩ rfl (fun S13 => ?_)
      refine r_pure (lv' := [some (.ref 137), some (.int v1), some (.int v2), some (.int (v3 + (1 : Int32))), _, _, _, _]) rfl rfl ?_
      refine r_pure rfl rfl ?_
      exact lm_le (by omega) (ih (v3 + (1 : Int32)) S13 _ _ _ _)
set_option maxRecDepth 100000 in
theorem rf_X8_pours {d : Nat} (hd : 4 ≤ d) {O : HS} (v1 : Int32) (S : HS) : Lm (oIW true O) (s_X8_pours v1 S) (CF d 148 [.ref 137, .int v1] (en true O S)) := by
  unfold s_X8_pours
  obtain ⟨e, rfl⟩ : ∃ e, d = e + 1 := ⟨d - 1, by omega⟩
  refine rm_of (lv := [some (.ref 137), some (.int v1), none, none, none, none, none, none]) (k_X8_pours false) (by omega) rfl rfl (Nat.le_of_ble_eq_true rfl) ?_
  refine lm_le (n := 73524) (by omega) ?_
  show Lm _ _ (run (CF e) _ _ _ _ _ _)
  refine r_pure rfl rfl ?_
  refine r_pure (lv' := [some (.ref 137), some (.int v1), some (.int (0 : Int32)), none, none, none, none, none]) rfl rfl ?_
  refine r_pure rfl rfl ?_
  refine r_pure (lv' := [some (.ref 137), some (.int v1), some (.int (0 : Int32)), some (.int (0 : Int32)), none, none, none, none]) rfl rfl ?_
  exact lm_le (by omega) (rl_X8_pours_L4 (n := 0) (by omega) v1 (0 : Int32) 40 (0 : Int32) S _ _ _ _)
/-! X8_looks -/
def s_X8_looks_L196 : Nat → Int32 → HS → Option HS
  | 0, _, _ => none
  | K + 1, v5, S =>
    if (5 : Int32) ≤ v5 then
      some S
    else
      Option.bind (ag (ga S 147) v5) fun a9 =>
      Option.bind (wa S 149 v5 a9) fun S10 =>
      Option.bind (ag (ga S10 148) v5) fun a11 =>
      Option.bind (wa S10 150 v5 a11) fun S12 =>
      s_X8_looks_L196 K (v5 + (1 : Int32)) S12
def s_X8_looks_J160 (v2 : Int32) (v3 : Int32) (v4 : Int32) (S : HS) : Option HS :=
  Option.bind (s_X8_stands (0 : Int32) S) fun q4 =>
  if q4 ≠ (0 : Int32) then
    some S
  else
    Option.bind (s_X8_aboardNow S) fun q5 =>
    Option.bind (s_X8_ordersOf (q5 ||| v2) S) fun q6 =>
    if q6.1 ≠ (0 : Int32) then
      Option.bind (pf q6.2 137 26 v3) fun S7 =>
      Option.bind (pf S7 137 27 v4) fun S8 =>
      s_X8_looks_L196 40 (0 : Int32) S8
    else
      some q6.2
def s_X8_looks_L52 (v2 : Int32) (v3 : Int32) : Nat → Int32 → Int32 → HS → Option HS
  | 0, _, _, _ => none
  | K + 1, v4, v5, S =>
    Option.bind (ag (ga S 139) (9 : Int32)) fun a3 =>
    if a3 ≤ v5 then
      if v3 < (gf S 137 26) then
        some S
      else
        if v3 ≠ (gf S 137 26) then
          s_X8_looks_J160 v2 v3 v4 S
        else
          if v4 < (gf S 137 27) then
            s_X8_looks_J160 v2 v3 v4 S
          else
            some S
    else
      Option.bind (ag (ga S 147) v5) fun a13 =>
      if a13 ≠ (-1 : Int32) then
        Option.bind (ag (ga S 148) v5) fun a14 =>
        Option.bind (wa S 142 v5 a14) fun S15 =>
        Option.bind (ag (ga S15 147) v5) fun a16 =>
        Option.bind (wa S15 144 v5 a16) fun S17 =>
        Option.bind (ag (ga S17 147) v5) fun a18 =>
        Option.bind (s_X8_its a18 (0 : Int32) S17) fun q19 =>
        Option.bind (wa S17 143 v5 q19) fun S20 =>
        s_X8_looks_L52 v2 v3 K (v4 + (1 : Int32)) (v5 + (1 : Int32)) S20
      else
        s_X8_looks_L52 v2 v3 K v4 (v5 + (1 : Int32)) S
def s_X8_looks_L17 (v2 : Int32) : Nat → Int32 → Int32 → HS → Option HS
  | 0, _, _, _ => none
  | K + 1, v3, v4, S =>
    if (20 : Int32) ≤ v4 then
      Option.bind (s_X8_laysNow S) fun q2 =>
      s_X8_looks_L52 v2 v3 40 (0 : Int32) (0 : Int32) q2
    else
      Option.bind (s_X8_has v2 v4) fun q21 =>
      if q21 = (0 : Int32) then
        s_X8_looks_L17 v2 K v3 (v4 + (1 : Int32)) S
      else
        s_X8_looks_L17 v2 K (v3 + (1 : Int32)) (v4 + (1 : Int32)) S
def s_X8_looks (v1 : Int32) (S : HS) : Option HS :=
  Option.bind (s_X8_pours v1 S) fun q1 =>
  if q1.1 ≠ (-1 : Int32) then
    s_X8_looks_L17 q1.1 40 (0 : Int32) (0 : Int32) q1.2
  else
    some q1.2
set_option maxRecDepth 100000 in
theorem rl_X8_looks_L196 {e : Nat} (he : 14 ≤ e) {O : HS} {n : Nat} : ∀ (K : Nat) (v5 : Int32) (S : HS) (j1 : Option Value) (j2 : Option Value) (j3 : Option Value) (j4 : Option Value), Lm (oV true O) (s_X8_looks_L196 K v5 S) (run (CF e) (k_X8_looks false) (n + (21 * K + 0)) 196 [some (.ref 137), j1, j2, j3, j4, some (.int v5)] [] (en true O S)) := by
  intro K
  induction K with
  | zero =>
    intros
    exact lm_none
  | succ K ih =>
    intro v5 S j1 j2 j3 j4
    rw [show n + (21 * (K + 1) + 0) = n + (21 * K + 0) + 21 by omega]
    rw [s_X8_looks_L196]
    refine r_pure rfl rfl ?_
    refine r_pure rfl rfl ?_
    refine r_if2 rfl rfl ?_ ?_
    · exact r_retV rfl rfl
    · refine r_pure rfl rfl ?_
      refine r_get rfl (en_get (b := true) (k := 137) (L := 12) ⟨rfl, by decide⟩ rfl) (fo_get (S := S) rfl) ?_
      refine r_pure rfl rfl ?_
      refine r_pure rfl rfl ?_
      refine r_get rfl (en_get (b := true) (k := 137) (L := 12) ⟨rfl, by decide⟩ rfl) (fo_get (S := S) rfl) ?_
      refine r_pure rfl rfl ?_
      refine r_iald rfl (en_get (b := true) (k := 147) (L := 0) ⟨rfl, by decide⟩ rfl) (fun a9 => ?_)
      refine r_iastI rfl ⟨rfl, by decide⟩ rfl (fun S10 => ?_)
      refine r_pure rfl rfl ?_
      refine r_get rfl (en_get (b := true) (k := 137) (L := 12) ⟨rfl, by decide⟩ rfl) (fo_get (S := S10) rfl) ?_
      refine r_pure rfl rfl ?_
      refine r_pure rfl rfl ?_
      refine r_get rfl (en_get (b := true) (k := 137) (L := 12) ⟨rfl, by decide⟩ rfl) (fo_get (S := S10) rfl) ?_
      refine r_pure rfl rfl ?_
      refine r_iald rfl (en_get (b := true) (k := 148) (L := 0) ⟨rfl, by decide⟩ rfl) (fun a11 => ?_)
      refine r_iastI rfl ⟨rfl, by decide⟩ rfl (fun S12 => ?_)
      refine r_pure (lv' := [some (.ref 137), _, _, _, _, some (.int (v5 + (1 : Int32)))]) rfl rfl ?_
      refine r_pure rfl rfl ?_
      exact lm_le (by omega) (ih (v5 + (1 : Int32)) S12 _ _ _ _)
set_option maxRecDepth 100000 in
theorem rj_X8_looks_J160 {e : Nat} (he : 14 ≤ e) {O : HS} (v2 : Int32) (v3 : Int32) (v4 : Int32) {n : Nat} (S : HS) (j1 : Option Value) (j5 : Option Value) : Lm (oV true O) (s_X8_looks_J160 v2 v3 v4 S) (run (CF e) (k_X8_looks false) (n + 859) 160 [some (.ref 137), j1, some (.int v2), some (.int v3), some (.int v4), j5] [] (en true O S)) := by
  unfold s_X8_looks_J160
  refine r_pure rfl rfl ?_
  refine r_pure rfl rfl ?_
  refine r_callV_I rfl rfl (en_get (b := true) (k := 137) (L := 12) ⟨rfl, by decide⟩ rfl) (Nat.le_of_ble_eq_true rfl) (rf_X8_stands (by omega) (0 : Int32) S) (fun q4 => ?_)
  refine r_if1 rfl rfl ?_ ?_
  · exact r_retV rfl rfl
  · refine r_pure rfl rfl ?_
    refine r_pure rfl rfl ?_
    refine r_callV_I rfl rfl (en_get (b := true) (k := 137) (L := 12) ⟨rfl, by decide⟩ rfl) (Nat.le_of_ble_eq_true rfl) (rf_X8_aboardNow (by omega) S) (fun q5 => ?_)
    refine r_pure rfl rfl ?_
    refine r_pure rfl rfl ?_
    refine r_callV_IW rfl rfl (en_get (b := true) (k := 137) (L := 12) ⟨rfl, by decide⟩ rfl) (Nat.le_of_ble_eq_true rfl) (rf_X8_ordersOf (by omega) (q5 ||| v2) S) (fun q6 => ?_)
    refine r_if1 rfl rfl ?_ ?_
    · refine r_pure rfl rfl ?_
      refine r_pure rfl rfl ?_
      refine r_putI rfl ⟨rfl, by decide⟩ rfl rfl rfl (fun S7 => ?_)
      refine r_pure rfl rfl ?_
      refine r_pure rfl rfl ?_
      refine r_putI rfl ⟨rfl, by decide⟩ rfl rfl rfl (fun S8 => ?_)
      refine r_pure rfl rfl ?_
      refine r_pure (lv' := [some (.ref 137), _, some (.int v2), some (.int v3), some (.int v4), some (.int (0 : Int32))]) rfl rfl ?_
      exact lm_le (by omega) (rl_X8_looks_L196 (n := 0) (by omega) 40 (0 : Int32) S8 _ _ _ _)
    · exact r_retV rfl rfl
set_option maxRecDepth 100000 in
theorem rl_X8_looks_L52 {e : Nat} (he : 14 ≤ e) {O : HS} (v2 : Int32) (v3 : Int32) {n : Nat} : ∀ (K : Nat) (v4 : Int32) (v5 : Int32) (S : HS) (j1 : Option Value), Lm (oV true O) (s_X8_looks_L52 v2 v3 K v4 v5 S) (run (CF e) (k_X8_looks false) (n + (42 * K + 859)) 52 [some (.ref 137), j1, some (.int v2), some (.int v3), some (.int v4), some (.int v5)] [] (en true O S)) := by
  intro K
  induction K with
  | zero =>
    intros
    exact lm_none
  | succ K ih =>
    intro v4 v5 S j1
    rw [show n + (42 * (K + 1) + 859) = n + (42 * K + 859) + 42 by omega]
    rw [s_X8_looks_L52]
    refine r_pure rfl rfl ?_
    refine r_pure rfl rfl ?_
    refine r_get rfl (en_get (b := true) (k := 137) (L := 12) ⟨rfl, by decide⟩ rfl) (fo_get (S := S) rfl) ?_
    refine r_pure rfl rfl ?_
    refine r_iald rfl (en_get (b := true) (k := 139) (L := 0) ⟨rfl, by decide⟩ rfl) (fun a3 => ?_)
    refine r_if2 rfl rfl ?_ ?_
    · refine r_pure rfl rfl ?_
      refine r_pure rfl rfl ?_
      refine r_get rfl (en_get (b := true) (k := 137) (L := 12) ⟨rfl, by decide⟩ rfl) (fo_get (S := S) rfl) ?_
      refine r_if2 rfl rfl ?_ ?_
      · exact r_retV rfl rfl
      · refine r_pure rfl rfl ?_
        refine r_pure rfl rfl ?_
        refine r_get rfl (en_get (b := true) (k := 137) (L := 12) ⟨rfl, by decide⟩ rfl) (fo_get (S := S) rfl) ?_
        refine r_if2 rfl rfl ?_ ?_
        · exact lm_le (by omega) (rj_X8_looks_J160 (n := 0) (by omega) v2 v3 v4 S _ _)
        · refine r_pure rfl rfl ?_
          refine r_pure rfl rfl ?_
          refine r_get rfl (en_get (b := true) (k := 137) (L := 12) ⟨rfl, by decide⟩ rfl) (fo_get (S := S) rfl) ?_
          refine r_if2 rfl rfl ?_ ?_
          · exact lm_le (by omega) (rj_X8_looks_J160 (n := 0) (by omega) v2 v3 v4 S _ _)
          · exact r_retV rfl rfl
    · refine r_pure rfl rfl ?_
      refine r_get rfl (en_get (b := true) (k := 137) (L := 12) ⟨rfl, by decide⟩ rfl) (fo_get (S := S) rfl) ?_
      refine r_pure rfl rfl ?_
      refine r_iald rfl (en_get (b := true) (k := 147) (L := 0) ⟨rfl, by decide⟩ rfl) (fun a13 => ?_)
      refine r_pure rfl rfl ?_
      refine r_if2 rfl rfl ?_ ?_
      · refine r_pure (lv' := [some (.ref 137), _, some (.int v2), some (.int v3), some (.int (v4 + (1 : Int32))), some (.int v5)]) rfl rfl ?_
        refine r_pure rfl rfl ?_
        refine r_get rfl (en_get (b := true) (k := 137) (L := 12) ⟨rfl, by decide⟩ rfl) (fo_get (S := S) rfl) ?_
        refine r_pure rfl rfl ?_
        refine r_pure rfl rfl ?_
        refine r_get rfl (en_get (b := true) (k := 137) (L := 12) ⟨rfl, by decide⟩ rfl) (fo_get (S := S) rfl) ?_
        refine r_pure rfl rfl ?_
        refine r_iald rfl (en_get (b := true) (k := 148) (L := 0) ⟨rfl, by decide⟩ rfl) (fun a14 => ?_)
        refine r_iastI rfl ⟨rfl, by decide⟩ rfl (fun S15 => ?_)
        refine r_pure rfl rfl ?_
        refine r_get rfl (en_get (b := true) (k := 137) (L := 12) ⟨rfl, by decide⟩ rfl) (fo_get (S := S15) rfl) ?_
        refine r_pure rfl rfl ?_
        refine r_pure rfl rfl ?_
        refine r_get rfl (en_get (b := true) (k := 137) (L := 12) ⟨rfl, by decide⟩ rfl) (fo_get (S := S15) rfl) ?_
        refine r_pure rfl rfl ?_
        refine r_iald rfl (en_get (b := true) (k := 147) (L := 0) ⟨rfl, by decide⟩ rfl) (fun a16 => ?_)
        refine r_iastI rfl ⟨rfl, by decide⟩ rfl (fun S17 => ?_)
        refine r_pure rfl rfl ?_
        refine r_get rfl (en_get (b := true) (k := 137) (L := 12) ⟨rfl, by decide⟩ rfl) (fo_get (S := S17) rfl) ?_
        refine r_pure rfl rfl ?_
        refine r_pure rfl rfl ?_
        refine r_pure rfl rfl ?_
        refine r_get rfl (en_get (b := true) (k := 137) (L := 12) ⟨rfl, by decide⟩ rfl) (fo_get (S := S17) rfl) ?_
        refine r_pure rfl rfl ?_
        refine r_iald rfl (en_get (b := true) (k := 147) (L := 0) ⟨rfl, by decide⟩ rfl) (fun a18 => ?_)
        refine r_pure rfl rfl ?_
        refine r_callV_I rfl rfl (en_get (b := true) (k := 137) (L := 12) ⟨rfl, by decide⟩ rfl) (Nat.le_of_ble_eq_true rfl) (rf_X8_its (by omega) a18 (0 : Int32) S17) (fun q19 => ?_)
        refine r_iastI rfl ⟨rfl, by decide⟩ rfl (fun S20 => ?_)
        refine r_pure (lv' := [some (.ref 137), _, some (.int v2), some (.int v3), some (.int (v4 + (1 : Int32))), some (.int (v5 + (1 : Int32)))]) rfl rfl ?_
        refine r_pure rfl rfl ?_
        exact lm_le (by omega) (ih (v4 + (1 : Int32)) (v5 + (1 : Int32)) S20 _)
      · refine r_pure rfl rfl ?_
        refine r_pure (lv' := [some (.ref 137), _, some (.int v2), some (.int v3), some (.int v4), some (.int (v5 + (1 : Int32)))]) rfl rfl ?_
        refine r_pure rfl rfl ?_
        exact lm_le (by omega) (ih v4 (v5 + (1 : Int32)) S _)
set_option maxRecDepth 100000 in
theorem rl_X8_looks_L17 {e : Nat} (he : 14 ≤ e) {O : HS} (v2 : Int32) {n : Nat} : ∀ (K : Nat) (v3 : Int32) (v4 : Int32) (S : HS) (j1 : Option Value) (j5 : Option Value), Lm (oV true O) (s_X8_looks_L17 v2 K v3 v4 S) (run (CF e) (k_X8_looks false) (n + (10 * K + 2539)) 17 [some (.ref 137), j1, some (.int v2), some (.int v3), some (.int v4), j5] [] (en true O S)) := by
  intro K
  induction K with
  | zero =>
    intros
    exact lm_none
  | succ K ih =>
    intro v3 v4 S j1 j5
    rw [show n + (10 * (K + 1) + 2539) = n + (10 * K + 2539) + 10 by omega]
    rw [s_X8_looks_L17]
    refine r_pure rfl rfl ?_
    refine r_pure rfl rfl ?_
    refine r_if2 rfl rfl ?_ ?_
    · refine r_pure rfl rfl ?_
      refine r_pure (lv' := [some (.ref 137), _, some (.int v2), some (.int v3), some (.int (0 : Int32)), _]) rfl rfl ?_
      refine r_pure rfl rfl ?_
      refine r_callV_VW rfl rfl (en_get (b := true) (k := 137) (L := 12) ⟨rfl, by decide⟩ rfl) (Nat.le_of_ble_eq_true rfl) (rf_X8_laysNow (by omega) S) (fun q2 => ?_)
      refine r_pure rfl rfl ?_
      refine r_pure (lv' := [some (.ref 137), _, some (.int v2), some (.int v3), some (.int (0 : Int32)), some (.int (0 : Int32))]) rfl rfl ?_
      exact lm_le (by omega) (rl_X8_looks_L52 (n := 0) (by omega) v2 v3 40 (0 : Int32) (0 : Int32) q2 _)
    · refine r_pure rfl rfl ?_
      refine r_pure rfl rfl ?_
      refine r_callS_I rfl (Nat.le_of_ble_eq_true rfl) (Nat.le_of_ble_eq_true rfl) (rf_X8_has (by omega) v2 v4) (fun q21 => ?_)
      refine r_if1 rfl rfl ?_ ?_
      · refine r_pure (lv' := [some (.ref 137), _, some (.int v2), some (.int v3), some (.int (v4 + (1 : Int32))), _]) rfl rfl ?_
        refine r_pure rfl rfl ?_
        exact lm_le (by omega) (ih v3 (v4 + (1 : Int32)) S _ _)
      · refine r_pure (lv' := [some (.ref 137), _, some (.int v2), some (.int (v3 + (1 : Int32))), some (.int v4), _]) rfl rfl ?_
        refine r_pure (lv' := [some (.ref 137), _, some (.int v2), some (.int (v3 + (1 : Int32))), some (.int (v4 + (1 : Int32))), _]) rfl rfl ?_
        refine r_pure rfl rfl ?_
        exact lm_le (by omega) (ih (v3 + (1 : Int32)) (v4 + (1 : Int32)) S _ _)
set_option maxRecDepth 100000 in
theorem rf_X8_looks {d : Nat} (hd : 15 ≤ d) {O : HS} (v1 : Int32) (S : HS) : Lm (oV true O) (s_X8_looks v1 S) (CF d 149 [.ref 137, .int v1] (en true O S)) := by
  unfold s_X8_looks
  obtain ⟨e, rfl⟩ : ∃ e, d = e + 1 := ⟨d - 1, by omega⟩
  refine rm_of (lv := [some (.ref 137), some (.int v1), none, none, none, none]) (k_X8_looks false) (by omega) rfl rfl (Nat.le_of_ble_eq_true rfl) ?_
  refine lm_le (n := 2950) (by omega) ?_
  show Lm _ _ (run (CF e) _ _ _ _ _ _)
  refine r_pure rfl rfl ?_
  refine r_pure rfl rfl ?_
  refine r_callV_IW rfl rfl (en_get (b := true) (k := 137) (L := 12) ⟨rfl, by decide⟩ rfl) (Nat.le_of_ble_eq_true rfl) (rf_X8_pours (by omega) v1 S) (fun q1 => ?_)
  refine r_pure (lv' := [some (.ref 137), some (.int v1), some (.int q1.1), none, none, none]) rfl rfl ?_
  refine r_pure rfl rfl ?_
  refine r_pure rfl rfl ?_
  refine r_if2 rfl rfl ?_ ?_
  · refine r_pure rfl rfl ?_
    refine r_pure (lv' := [some (.ref 137), some (.int v1), some (.int q1.1), some (.int (0 : Int32)), none, none]) rfl rfl ?_
    refine r_pure rfl rfl ?_
    refine r_pure (lv' := [some (.ref 137), some (.int v1), some (.int q1.1), some (.int (0 : Int32)), some (.int (0 : Int32)), none]) rfl rfl ?_
    exact lm_le (by omega) (rl_X8_looks_L17 (n := 0) (by omega) q1.1 40 (0 : Int32) (0 : Int32) q1.2 _ _)
  · exact r_retV rfl rfl
/-! X8_tries -/
def s_X8_tries_J72 (self : Int32 → Int32 → HS → Option HS) (v1 : Int32) (v2 : Int32) (S : HS) : Option HS :=
  Option.bind (wa S 147 v1 (-1 : Int32)) fun S3 =>
  Option.bind (self (v1 + (1 : Int32)) v2 S3) fun q4 =>
  some q4
def s_X8_tries_L19 (self : Int32 → Int32 → HS → Option HS) (v1 : Int32) (v2 : Int32) : Nat → Int32 → HS → Option HS
  | 0, _, _ => none
  | K + 1, v3, S =>
    Option.bind (ag (ga S 139) (13 : Int32)) fun a2 =>
    if a2 ≤ v3 then
      s_X8_tries_J72 self v1 v2 S
    else
      Option.bind (s_X8_holds v1 (4 : Int32) S) fun q5 =>
      if q5 ≠ (0 : Int32) then
        s_X8_tries_J72 self v1 v2 S
      else
        Option.bind (s_X8_its v3 (2 : Int32) S) fun q6 =>
        if q6 = (0 : Int32) then
          Option.bind (wa S 147 v1 v3) fun S7 =>
          Option.bind (self (v1 + (1 : Int32)) v2 S7) fun q8 =>
          s_X8_tries_L19 self v1 v2 K (v3 + (1 : Int32)) q8
        else
          s_X8_tries_L19 self v1 v2 K (v3 + (1 : Int32)) S
def s_X8_tries_B (self : Int32 → Int32 → HS → Option HS) (v1 : Int32) (v2 : Int32) (S : HS) : Option HS :=
  Option.bind (ag (ga S 139) (9 : Int32)) fun a1 =>
  if v1 ≠ a1 then
    s_X8_tries_L19 self v1 v2 40 (0 : Int32) S
  else
    Option.bind (s_X8_looks v2 S) fun q9 =>
    some q9
def s_X8_tries : Nat → Int32 → Int32 → HS → Option HS
  | 0, _, _, _ => none
  | r + 1, v1, v2, S => s_X8_tries_B (s_X8_tries r) v1 v2 S
set_option maxRecDepth 100000 in
theorem rj_X8_tries_J72 {e : Nat} (he : 15 ≤ e) {O : HS} (self : Int32 → Int32 → HS → Option HS) (hself : ∀ (v1 : Int32) (v2 : Int32) (S : HS), Lm (oV true O) (self v1 v2 S) (CF e 150 [.ref 137, .int v1, .int v2] (en true O S))) (v1 : Int32) (v2 : Int32) {n : Nat} (S : HS) (j3 : Option Value) : Lm (oV true O) (s_X8_tries_J72 self v1 v2 S) (run (CF e) (k_X8_tries false) (n + 12) 72 [some (.ref 137), some (.int v1), some (.int v2), j3] [] (en true O S)) := by
  unfold s_X8_tries_J72
  refine r_pure rfl rfl ?_
  refine r_get rfl (en_get (b := true) (k := 137) (L := 12) ⟨rfl, by decide⟩ rfl) (fo_get (S := S) rfl) ?_
  refine r_pure rfl rfl ?_
  refine r_pure rfl rfl ?_
  refine r_iastI rfl ⟨rfl, by decide⟩ rfl (fun S3 => ?_)
  refine r_pure rfl rfl ?_
  refine r_pure rfl rfl ?_
  refine r_pure rfl rfl ?_
  refine r_pure rfl rfl ?_
  refine r_pure rfl rfl ?_
  refine r_callV_VW rfl rfl (en_get (b := true) (k := 137) (L := 12) ⟨rfl, by decide⟩ rfl) (Nat.le_of_ble_eq_true rfl) (hself (v1 + (1 : Int32)) v2 S3) (fun q4 => ?_)
  exact r_retV rfl rfl
set_option maxRecDepth 100000 in
theorem rl_X8_tries_L19 {e : Nat} (he : 15 ≤ e) {O : HS} (self : Int32 → Int32 → HS → Option HS) (hself : ∀ (v1 : Int32) (v2 : Int32) (S : HS), Lm (oV true O) (self v1 v2 S) (CF e 150 [.ref 137, .int v1, .int v2] (en true O S))) (v1 : Int32) (v2 : Int32) {n : Nat} : ∀ (K : Nat) (v3 : Int32) (S : HS), Lm (oV true O) (s_X8_tries_L19 self v1 v2 K v3 S) (run (CF e) (k_X8_tries false) (n + (29 * K + 12)) 19 [some (.ref 137), some (.int v1), some (.int v2), some (.int v3)] [] (en true O S)) := by
  intro K
  induction K with
  | zero =>
    intros
    exact lm_none
  | succ K ih =>
    intro v3 S
    rw [show n + (29 * (K + 1) + 12) = n + (29 * K + 12) + 29 by omega]
    rw [s_X8_tries_L19]
    refine r_pure rfl rfl ?_
    refine r_pure rfl rfl ?_
    refine r_get rfl (en_get (b := true) (k := 137) (L := 12) ⟨rfl, by decide⟩ rfl) (fo_get (S := S) rfl) ?_
    refine r_pure rfl rfl ?_
    refine r_iald rfl (en_get (b := true) (k := 139) (L := 0) ⟨rfl, by decide⟩ rfl) (fun a2 => ?_)
    refine r_if2 rfl rfl ?_ ?_
    · exact lm_le (by omega) (rj_X8_tries_J72 (n := 0) (by omega) self hself v1 v2 S _)
    · refine r_pure rfl rfl ?_
      refine r_pure rfl rfl ?_
      refine r_pure rfl rfl ?_
      refine r_callV_I rfl rfl (en_get (b := true) (k := 137) (L := 12) ⟨rfl, by decide⟩ rfl) (Nat.le_of_ble_eq_true rfl) (rf_X8_holds (by omega) v1 (4 : Int32) S) (fun q5 => ?_)
      refine r_if1 rfl rfl ?_ ?_
      · exact lm_le (by omega) (rj_X8_tries_J72 (n := 0) (by omega) self hself v1 v2 S _)
      · refine r_pure rfl rfl ?_
        refine r_pure rfl rfl ?_
        refine r_pure rfl rfl ?_
        refine r_callV_I rfl rfl (en_get (b := true) (k := 137) (L := 12) ⟨rfl, by decide⟩ rfl) (Nat.le_of_ble_eq_true rfl) (rf_X8_its (by omega) v3 (2 : Int32) S) (fun q6 => ?_)
        refine r_if1 rfl rfl ?_ ?_
        · refine r_pure rfl rfl ?_
          refine r_get rfl (en_get (b := true) (k := 137) (L := 12) ⟨rfl, by decide⟩ rfl) (fo_get (S := S) rfl) ?_
          refine r_pure rfl rfl ?_
          refine r_pure rfl rfl ?_
          refine r_iastI rfl ⟨rfl, by decide⟩ rfl (fun S7 => ?_)
          refine r_pure rfl rfl ?_
          refine r_pure rfl rfl ?_
          refine r_pure rfl rfl ?_
          refine r_pure rfl rfl ?_
          refine r_pure rfl rfl ?_
          refine r_callV_VW rfl rfl (en_get (b := true) (k := 137) (L := 12) ⟨rfl, by decide⟩ rfl) (Nat.le_of_ble_eq_true rfl) (hself (v1 + (1 : Int32)) v2 S7) (fun q8 => ?_)
          refine r_pure (lv' := [some (.ref 137), some (.int v1), some (.int v2), some (.int (v3 + (1 : Int32)))]) rfl rfl ?_
          refine r_pure rfl rfl ?_
          exact lm_le (by omega) (ih (v3 + (1 : Int32)) q8)
        · refine r_pure rfl rfl ?_
          refine r_pure (lv' := [some (.ref 137), some (.int v1), some (.int v2), some (.int (v3 + (1 : Int32)))]) rfl rfl ?_
          refine r_pure rfl rfl ?_
          exact lm_le (by omega) (ih (v3 + (1 : Int32)) S)
set_option maxRecDepth 100000 in
theorem rb_X8_tries {e : Nat} (he : 15 ≤ e) {O : HS} (self : Int32 → Int32 → HS → Option HS) (hself : ∀ (v1 : Int32) (v2 : Int32) (S : HS), Lm (oV true O) (self v1 v2 S) (CF e 150 [.ref 137, .int v1, .int v2] (en true O S))) (v1 : Int32) (v2 : Int32) (S : HS) : Lm (oV true O) (s_X8_tries_B self v1 v2 S) (CF (e + 1) 150 [.ref 137, .int v1, .int v2] (en true O S)) := by
  unfold s_X8_tries_B
  refine rm_of (lv := [some (.ref 137), some (.int v1), some (.int v2), none]) (k_X8_tries false) (by omega) rfl rfl (Nat.le_of_ble_eq_true rfl) ?_
  refine lm_le (n := 1180) (by omega) ?_
  show Lm _ _ (run (CF e) _ _ _ _ _ _)
  refine r_pure rfl rfl ?_
  refine r_pure rfl rfl ?_
  refine r_get rfl (en_get (b := true) (k := 137) (L := 12) ⟨rfl, by decide⟩ rfl) (fo_get (S := S) rfl) ?_
  refine r_pure rfl rfl ?_
  refine r_iald rfl (en_get (b := true) (k := 139) (L := 0) ⟨rfl, by decide⟩ rfl) (fun a1 => ?_)
  refine r_if2 rfl rfl ?_ ?_
  · refine r_pure rfl rfl ?_
    refine r_pure (lv' := [some (.ref 137), some (.int v1), some (.int v2), some (.int (0 : Int32))]) rfl rfl ?_
    exact lm_le (by omega) (rl_X8_tries_L19 (n := 0) (by omega) self hself v1 v2 40 (0 : Int32) S)
  · refine r_pure rfl rfl ?_
    refine r_pure rfl rfl ?_
    refine r_callV_VW rfl rfl (en_get (b := true) (k := 137) (L := 12) ⟨rfl, by decide⟩ rfl) (Nat.le_of_ble_eq_true rfl) (rf_X8_looks (by omega) v2 S) (fun q9 => ?_)
    exact r_retV rfl rfl
set_option maxRecDepth 100000 in
theorem rf_X8_tries : ∀ (r : Nat) {d : Nat} (_ : 16 + r ≤ d) {O : HS} (v1 : Int32) (v2 : Int32) (S : HS), Lm (oV true O) (s_X8_tries r v1 v2 S) (CF d 150 [.ref 137, .int v1, .int v2] (en true O S)) := by
  intro r
  induction r with
  | zero =>
    intros
    exact lm_none
  | succ r ih =>
    intro d hd O v1 v2 S
    obtain ⟨e, rfl⟩ : ∃ e, d = e + 1 := ⟨d - 1, by omega⟩
    rw [s_X8_tries]
    exact rb_X8_tries (by omega) _ (fun v1 v2 S => ih (by omega) v1 v2 S) v1 v2 S
/-! X8_laysPlan -/
def s_X8_laysPlan_L12 (v1 : Int32) : Nat → Int32 → HS → Option HS
  | 0, _, _ => none
  | K + 1, v2, S =>
    if (5 : Int32) ≤ v2 then
      Option.bind (s_X8_tries 8 (0 : Int32) v1 S) fun q3 =>
      some q3
    else
      Option.bind (wa S 147 v2 (-1 : Int32)) fun S4 =>
      Option.bind (wa S4 149 v2 (-1 : Int32)) fun S5 =>
      Option.bind (wa S5 150 v2 (0 : Int32)) fun S6 =>
      s_X8_laysPlan_L12 v1 K (v2 + (1 : Int32)) S6
def s_X8_laysPlan (v1 : Int32) (S : HS) : Option HS :=
  Option.bind (pf S 137 26 (-1 : Int32)) fun S1 =>
  Option.bind (pf S1 137 27 (0 : Int32)) fun S2 =>
  s_X8_laysPlan_L12 v1 40 (0 : Int32) S2
set_option maxRecDepth 100000 in
theorem rl_X8_laysPlan_L12 {e : Nat} (he : 24 ≤ e) {O : HS} (v1 : Int32) {n : Nat} : ∀ (K : Nat) (v2 : Int32) (S : HS), Lm (oV true O) (s_X8_laysPlan_L12 v1 K v2 S) (run (CF e) (k_X8_laysPlan false) (n + (20 * K + 0)) 12 [some (.ref 137), some (.int v1), some (.int v2)] [] (en true O S)) := by
  intro K
  induction K with
  | zero =>
    intros
    exact lm_none
  | succ K ih =>
    intro v2 S
    rw [show n + (20 * (K + 1) + 0) = n + (20 * K + 0) + 20 by omega]
    rw [s_X8_laysPlan_L12]
    refine r_pure rfl rfl ?_
    refine r_pure rfl rfl ?_
    refine r_if2 rfl rfl ?_ ?_
    · refine r_pure rfl rfl ?_
      refine r_pure rfl rfl ?_
      refine r_pure rfl rfl ?_
      refine r_callV_VW rfl rfl (en_get (b := true) (k := 137) (L := 12) ⟨rfl, by decide⟩ rfl) (Nat.le_of_ble_eq_true rfl) (rf_X8_tries 8 (by omega) (0 : Int32) v1 S) (fun q3 => ?_)
      exact r_retV rfl rfl
    · refine r_pure rfl rfl ?_
      refine r_get rfl (en_get (b := true) (k := 137) (L := 12) ⟨rfl, by decide⟩ rfl) (fo_get (S := S) rfl) ?_
      refine r_pure rfl rfl ?_
      refine r_pure rfl rfl ?_
      refine r_iastI rfl ⟨rfl, by decide⟩ rfl (fun S4 => ?_)
      refine r_pure rfl rfl ?_
      refine r_get rfl (en_get (b := true) (k := 137) (L := 12) ⟨rfl, by decide⟩ rfl) (fo_get (S := S4) rfl) ?_
      refine r_pure rfl rfl ?_
      refine r_pure rfl rfl ?_
      refine r_iastI rfl ⟨rfl, by decide⟩ rfl (fun S5 => ?_)
      refine r_pure rfl rfl ?_
      refine r_get rfl (en_get (b := true) (k := 137) (L := 12) ⟨rfl, by decide⟩ rfl) (fo_get (S := S5) rfl) ?_
      refine r_pure rfl rfl ?_
      refine r_pure rfl rfl ?_
      refine r_iastI rfl ⟨rfl, by decide⟩ rfl (fun S6 => ?_)
      refine r_pure (lv' := [some (.ref 137), some (.int v1), some (.int (v2 + (1 : Int32)))]) rfl rfl ?_
      refine r_pure rfl rfl ?_
      exact lm_le (by omega) (ih (v2 + (1 : Int32)) S6)
set_option maxRecDepth 100000 in
theorem rf_X8_laysPlan {d : Nat} (hd : 25 ≤ d) {O : HS} (v1 : Int32) (S : HS) : Lm (oV true O) (s_X8_laysPlan v1 S) (CF d 151 [.ref 137, .int v1] (en true O S)) := by
  unfold s_X8_laysPlan
  obtain ⟨e, rfl⟩ : ∃ e, d = e + 1 := ⟨d - 1, by omega⟩
  refine rm_of (lv := [some (.ref 137), some (.int v1), none]) (k_X8_laysPlan false) (by omega) rfl rfl (Nat.le_of_ble_eq_true rfl) ?_
  refine lm_le (n := 808) (by omega) ?_
  show Lm _ _ (run (CF e) _ _ _ _ _ _)
  refine r_pure rfl rfl ?_
  refine r_pure rfl rfl ?_
  refine r_putI rfl ⟨rfl, by decide⟩ rfl rfl rfl (fun S1 => ?_)
  refine r_pure rfl rfl ?_
  refine r_pure rfl rfl ?_
  refine r_putI rfl ⟨rfl, by decide⟩ rfl rfl rfl (fun S2 => ?_)
  refine r_pure rfl rfl ?_
  refine r_pure (lv' := [some (.ref 137), some (.int v1), some (.int (0 : Int32))]) rfl rfl ?_
  exact lm_le (by omega) (rl_X8_laysPlan_L12 (n := 0) (by omega) v1 40 (0 : Int32) S2)
