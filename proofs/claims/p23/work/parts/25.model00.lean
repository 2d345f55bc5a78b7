/-! X8_lays -/
def s_X8_lays_L3 (v1 : Int32) : Nat → Int32 → HS → Option HS
  | 0, _, _ => none
  | K + 1, v2, S =>
    if v2 < (0 : Int32) then
      some S
    else
      Option.bind (wa S 138 (gf S 137 2) (((v1.toUInt32 >>> (v2.toUInt32 &&& Int32.toUInt32 31)).toInt32) &&& (255 : Int32))) fun S1 =>
      Option.bind (pf S1 137 2 ((gf S1 137 2) + (1 : Int32))) fun S2 =>
      s_X8_lays_L3 v1 K (v2 + (-8 : Int32)) S2
def s_X8_lays (v1 : Int32) (S : HS) : Option HS :=
  s_X8_lays_L3 v1 40 (24 : Int32) S
set_option maxRecDepth 100000 in
theorem rl_X8_lays_L3 {e : Nat} (he : 0 ≤ e) {O : HS} (v1 : Int32) {n : Nat} : ∀ (K : Nat) (v2 : Int32) (S : HS), Lm (oV true O) (s_X8_lays_L3 v1 K v2 S) (run (CF e) (k_X8_lays false) (n + (20 * K + 0)) 3 [some (.ref 137), some (.int v1), some (.int v2)] [] (en true O S)) := by
  intro K
  induction K with
  | zero =>
    intros
    exact lm_none
  | succ K ih =>
    intro v2 S
    rw [show n + (20 * (K + 1) + 0) = n + (20 * K + 0) + 20 by omega]
    rw [s_X8_lays_L3]
    refine r_pure rfl rfl ?_
    refine r_if1 rfl rfl ?_ ?_
    · exact r_retV rfl rfl
    · refine r_pure rfl rfl ?_
      refine r_get rfl (en_get (b := true) (k := 137) (L := 12) ⟨rfl, by decide⟩ rfl) (fo_get (S := S) rfl) ?_
      refine r_pure rfl rfl ?_
      refine r_get rfl (en_get (b := true) (k := 137) (L := 12) ⟨rfl, by decide⟩ rfl) (fo_get (S := S) rfl) ?_
      refine r_pure rfl rfl ?_
      refine r_pure rfl rfl ?_
      refine r_pure rfl rfl ?_
      refine r_pure rfl rfl ?_
      refine r_pure rfl rfl ?_
      refine r_iastI rfl ⟨rfl, by decide⟩ rfl (fun S1 => ?_)
      refine r_pure rfl rfl ?_
      refine r_pure rfl rfl ?_
      refine r_get rfl (en_get (b := true) (k := 137) (L := 12) ⟨rfl, by decide⟩ rfl) (fo_get (S := S1) rfl) ?_
      refine r_pure rfl rfl ?_
      refine r_pure rfl rfl ?_
      refine r_putI rfl ⟨rfl, by decide⟩ rfl rfl rfl (fun S2 => ?_)
      refine r_pure (lv' := [some (.ref 137), some (.int v1), some (.int (v2 + (-8 : Int32)))]) rfl rfl ?_
      refine r_pure rfl rfl ?_
      exact lm_le (by omega) (ih (v2 + (-8 : Int32)) S2)
set_option maxRecDepth 100000 in
theorem rf_X8_lays {d : Nat} (hd : 1 ≤ d) {O : HS} (v1 : Int32) (S : HS) : Lm (oV true O) (s_X8_lays v1 S) (CF d 96 [.ref 137, .int v1] (en true O S)) := by
  unfold s_X8_lays
  obtain ⟨e, rfl⟩ : ∃ e, d = e + 1 := ⟨d - 1, by omega⟩
  refine rm_of (lv := [some (.ref 137), some (.int v1), none]) (k_X8_lays false) (by omega) rfl rfl (Nat.le_of_ble_eq_true rfl) ?_
  refine lm_le (n := 802) (by omega) ?_
  show Lm _ _ (run (CF e) _ _ _ _ _ _)
  refine r_pure rfl rfl ?_
  refine r_pure (lv' := [some (.ref 137), some (.int v1), some (.int (24 : Int32))]) rfl rfl ?_
  exact lm_le (by omega) (rl_X8_lays_L3 (n := 0) (by omega) v1 40 (24 : Int32) S)
/-! X8_feed -/
def s_X8_feed (v1 : Int32) (v2 : Int32) (v3 : Int32) (v4 : Int32) (v5 : Int32) (S : HS) : Option (Int32 × HS) :=
  Option.bind (pf S 137 0 (0 : Int32)) fun S1 =>
  if ((gf S1 137 2) + (20 : Int32)) ≤ (740 : Int32) then
    Option.bind (s_X8_lays v1 S1) fun q2 =>
    Option.bind (s_X8_lays v2 q2) fun q3 =>
    Option.bind (s_X8_lays v3 q3) fun q4 =>
    Option.bind (s_X8_lays v4 q4) fun q5 =>
    Option.bind (s_X8_lays v5 q5) fun q6 =>
    some ((gf q6 137 2), q6)
  else
    some ((-1 : Int32), S1)
set_option maxRecDepth 100000 in
theorem rf_X8_feed {d : Nat} (hd : 2 ≤ d) {O : HS} (v1 : Int32) (v2 : Int32) (v3 : Int32) (v4 : Int32) (v5 : Int32) (S : HS) : Lm (oIW true O) (s_X8_feed v1 v2 v3 v4 v5 S) (CF d 97 [.ref 137, .int v1, .int v2, .int v3, .int v4, .int v5] (en true O S)) := by
  unfold s_X8_feed
  obtain ⟨e, rfl⟩ : ∃ e, d = e + 1 := ⟨d - 1, by omega⟩
  refine rm_of (lv := [some (.ref 137), some (.int v1), some (.int v2), some (.int v3), some (.int v4), some (.int v5)]) (k_X8_feed false) (by omega) rfl rfl (Nat.le_of_ble_eq_true rfl) ?_
  refine lm_le (n := 27) (by omega) ?_
  show Lm _ _ (run (CF e) _ _ _ _ _ _)
  refine r_pure rfl rfl ?_
  refine r_pure rfl rfl ?_
  refine r_putI rfl ⟨rfl, by decide⟩ rfl rfl rfl (fun S1 => ?_)
  refine r_pure rfl rfl ?_
  refine r_get rfl (en_get (b := true) (k := 137) (L := 12) ⟨rfl, by decide⟩ rfl) (fo_get (S := S1) rfl) ?_
  refine r_pure rfl rfl ?_
  refine r_pure rfl rfl ?_
  refine r_pure rfl rfl ?_
  refine r_if2 rfl rfl ?_ ?_
  · refine r_pure rfl rfl ?_
    refine r_pure rfl rfl ?_
    refine r_callV_VW rfl rfl (en_get (b := true) (k := 137) (L := 12) ⟨rfl, by decide⟩ rfl) (Nat.le_of_ble_eq_true rfl) (rf_X8_lays (by omega) v1 S1) (fun q2 => ?_)
    refine r_pure rfl rfl ?_
    refine r_pure rfl rfl ?_
    refine r_callV_VW rfl rfl (en_get (b := true) (k := 137) (L := 12) ⟨rfl, by decide⟩ rfl) (Nat.le_of_ble_eq_true rfl) (rf_X8_lays (by omega) v2 q2) (fun q3 => ?_)
    refine r_pure rfl rfl ?_
    refine r_pure rfl rfl ?_
    refine r_callV_VW rfl rfl (en_get (b := true) (k := 137) (L := 12) ⟨rfl, by decide⟩ rfl) (Nat.le_of_ble_eq_true rfl) (rf_X8_lays (by omega) v3 q3) (fun q4 => ?_)
    refine r_pure rfl rfl ?_
    refine r_pure rfl rfl ?_
    refine r_callV_VW rfl rfl (en_get (b := true) (k := 137) (L := 12) ⟨rfl, by decide⟩ rfl) (Nat.le_of_ble_eq_true rfl) (rf_X8_lays (by omega) v4 q4) (fun q5 => ?_)
    refine r_pure rfl rfl ?_
    refine r_pure rfl rfl ?_
    refine r_callV_VW rfl rfl (en_get (b := true) (k := 137) (L := 12) ⟨rfl, by decide⟩ rfl) (Nat.le_of_ble_eq_true rfl) (rf_X8_lays (by omega) v5 q5) (fun q6 => ?_)
    refine r_pure rfl rfl ?_
    refine r_get rfl (en_get (b := true) (k := 137) (L := 12) ⟨rfl, by decide⟩ rfl) (fo_get (S := q6) rfl) ?_
    exact r_retI rfl rfl
  · refine r_pure rfl rfl ?_
    exact r_retI rfl rfl
/-! X8_end -/
def s_X8_end (v1 : Int32) (S : HS) : Option (Int32 × HS) :=
  Option.bind (pf S 137 0 (0 : Int32)) fun S1 =>
  if v1 < (0 : Int32) then
    some ((0 : Int32), S1)
  else
    if v1 ≤ (gf S1 137 2) then
      Option.bind (pf S1 137 2 v1) fun S2 =>
      some ((1 : Int32), S2)
    else
      some ((0 : Int32), S1)
set_option maxRecDepth 100000 in
theorem rf_X8_end {d : Nat} (hd : 1 ≤ d) {O : HS} (v1 : Int32) (S : HS) : Lm (oIW true O) (s_X8_end v1 S) (CF d 98 [.ref 137, .int v1] (en true O S)) := by
  unfold s_X8_end
  obtain ⟨e, rfl⟩ : ∃ e, d = e + 1 := ⟨d - 1, by omega⟩
  refine rm_of (lv := [some (.ref 137), some (.int v1)]) (k_X8_end false) (by omega) rfl rfl (Nat.le_of_ble_eq_true rfl) ?_
  refine lm_le (n := 14) (by omega) ?_
  show Lm _ _ (run (CF e) _ _ _ _ _ _)
  refine r_pure rfl rfl ?_
  refine r_pure rfl rfl ?_
  refine r_putI rfl ⟨rfl, by decide⟩ rfl rfl rfl (fun S1 => ?_)
  refine r_pure rfl rfl ?_
  refine r_if1 rfl rfl ?_ ?_
  · refine r_pure rfl rfl ?_
    exact r_retZ rfl (Or.inl rfl) rfl
  · refine r_pure rfl rfl ?_
    refine r_pure rfl rfl ?_
    refine r_get rfl (en_get (b := true) (k := 137) (L := 12) ⟨rfl, by decide⟩ rfl) (fo_get (S := S1) rfl) ?_
    refine r_if2 rfl rfl ?_ ?_
    · refine r_pure rfl rfl ?_
      refine r_pure rfl rfl ?_
      refine r_putI rfl ⟨rfl, by decide⟩ rfl rfl rfl (fun S2 => ?_)
      refine r_pure rfl rfl ?_
      exact r_retZ rfl (Or.inr rfl) rfl
    · refine r_pure rfl rfl ?_
      exact r_retZ rfl (Or.inl rfl) rfl
/-! X8_isLetter -/
def s_X8_isLetter (v0 : Int32) : Option Int32 :=
  if v0 < (97 : Int32) then
    some (0 : Int32)
  else
    if (122 : Int32) < v0 then
      some (0 : Int32)
    else
      some (1 : Int32)
set_option maxRecDepth 100000 in
theorem rf_X8_isLetter {d : Nat} (hd : 1 ≤ d) {hh : List AC} (v0 : Int32) : Lm (oI hh) (s_X8_isLetter v0) (CF d 101 [.int v0] hh) := by
  unfold s_X8_isLetter
  obtain ⟨e, rfl⟩ : ∃ e, d = e + 1 := ⟨d - 1, by omega⟩
  refine rm_of (lv := [some (.int v0)]) (k_X8_isLetter false) (by omega) rfl rfl (Nat.le_of_ble_eq_true rfl) ?_
  refine lm_le (n := 9) (by omega) ?_
  show Lm _ _ (run (CF e) _ _ _ _ _ _)
  refine r_pure rfl rfl ?_
  refine r_pure rfl rfl ?_
  refine r_if2 rfl rfl ?_ ?_
  · refine r_pure rfl rfl ?_
    exact r_retZ rfl (Or.inl rfl) rfl
  · refine r_pure rfl rfl ?_
    refine r_pure rfl rfl ?_
    refine r_if2 rfl rfl ?_ ?_
    · refine r_pure rfl rfl ?_
      exact r_retZ rfl (Or.inl rfl) rfl
    · refine r_pure rfl rfl ?_
      refine r_pure rfl rfl ?_
      exact r_retZ rfl (Or.inr rfl) rfl
/-! X8_isDigit -/
def s_X8_isDigit (v0 : Int32) : Option Int32 :=
  if v0 < (48 : Int32) then
    some (0 : Int32)
  else
    if (57 : Int32) < v0 then
      some (0 : Int32)
    else
      some (1 : Int32)
set_option maxRecDepth 100000 in
theorem rf_X8_isDigit {d : Nat} (hd : 1 ≤ d) {hh : List AC} (v0 : Int32) : Lm (oI hh) (s_X8_isDigit v0) (CF d 100 [.int v0] hh) := by
  unfold s_X8_isDigit
  obtain ⟨e, rfl⟩ : ∃ e, d = e + 1 := ⟨d - 1, by omega⟩
  refine rm_of (lv := [some (.int v0)]) (k_X8_isDigit false) (by omega) rfl rfl (Nat.le_of_ble_eq_true rfl) ?_
  refine lm_le (n := 9) (by omega) ?_
  show Lm _ _ (run (CF e) _ _ _ _ _ _)
  refine r_pure rfl rfl ?_
  refine r_pure rfl rfl ?_
  refine r_if2 rfl rfl ?_ ?_
  · refine r_pure rfl rfl ?_
    exact r_retZ rfl (Or.inl rfl) rfl
  · refine r_pure rfl rfl ?_
    refine r_pure rfl rfl ?_
    refine r_if2 rfl rfl ?_ ?_
    · refine r_pure rfl rfl ?_
      exact r_retZ rfl (Or.inl rfl) rfl
    · refine r_pure rfl rfl ?_
      refine r_pure rfl rfl ?_
      exact r_retZ rfl (Or.inr rfl) rfl
/-! X8_tapeAt -/
def s_X8_tapeAt (v1 : Int32) (S : HS) : Option Int32 :=
  if (gf S 137 3) ≤ v1 then
    some (0 : Int32)
  else
    Option.bind (ag (ga S 138) v1) fun a1 =>
    some a1
set_option maxRecDepth 100000 in
theorem rf_X8_tapeAt {d : Nat} (hd : 1 ≤ d) {O : HS} (v1 : Int32) (S : HS) : Lm (oI (en true O S)) (s_X8_tapeAt v1 S) (CF d 99 [.ref 137, .int v1] (en true O S)) := by
  unfold s_X8_tapeAt
  obtain ⟨e, rfl⟩ : ∃ e, d = e + 1 := ⟨d - 1, by omega⟩
  refine rm_of (lv := [some (.ref 137), some (.int v1)]) (k_X8_tapeAt false) (by omega) rfl rfl (Nat.le_of_ble_eq_true rfl) ?_
  refine lm_le (n := 10) (by omega) ?_
  show Lm _ _ (run (CF e) _ _ _ _ _ _)
  refine r_pure rfl rfl ?_
  refine r_pure rfl rfl ?_
  refine r_get rfl (en_get (b := true) (k := 137) (L := 12) ⟨rfl, by decide⟩ rfl) (fo_get (S := S) rfl) ?_
  refine r_if2 rfl rfl ?_ ?_
  · refine r_pure rfl rfl ?_
    exact r_retI rfl rfl
  · refine r_pure rfl rfl ?_
    refine r_get rfl (en_get (b := true) (k := 137) (L := 12) ⟨rfl, by decide⟩ rfl) (fo_get (S := S) rfl) ?_
    refine r_pure rfl rfl ?_
    refine r_iald rfl (en_get (b := true) (k := 138) (L := 0) ⟨rfl, by decide⟩ rfl) (fun a1 => ?_)
    refine r_pure rfl rfl ?_
    exact r_retI rfl rfl
/-! X8_go -/
def s_X8_go_J269 (rc177 : Int32 → HS → Option HS) (v2 : Int32) (v3 : Int32) (v4 : Int32) (S : HS) : Option HS :=
  if (4 : Int32) ≤ ((gf S 137 4) - (gf S 137 5)) then
    Option.bind (pf S 137 4 ((gf S 137 4) + (1 : Int32))) fun S10 =>
    rc177 v3 S10
  else
    Option.bind (pf S 137 7 ((((10 : Int32) * (gf S 137 7)) + v4) - (48 : Int32))) fun S11 =>
    Option.bind (pf S11 137 4 ((gf S11 137 4) + (1 : Int32))) fun S12 =>
    rc177 v3 S12
def s_X8_go_J234 (rc177 : Int32 → HS → Option HS) (v2 : Int32) (v4 : Int32) (x0 : Int32) (S : HS) : Option HS :=
  if (12 : Int32) ≤ ((gf S 137 4) - (gf S 137 5)) then
    s_X8_go_J269 rc177 v2 x0 v4 S
  else
    Option.bind (pl S 137 ((((27 : Int64) * (gl S 137)) + v4.toInt64) - (96 : Int64))) fun S13 =>
    s_X8_go_J269 rc177 v2 x0 v4 S13
def s_X8_go_J233 (rc177 : Int32 → HS → Option HS) (v2 : Int32) (v4 : Int32) (S : HS) : Option HS :=
  s_X8_go_J234 rc177 v2 v4 (0 : Int32) S
def s_X8_go_J205 (rc177 : Int32 → HS → Option HS) (v2 : Int32) (v3 : Int32) (S : HS) : Option HS :=
  Option.bind (ag (ga S 138) (gf S 137 4)) fun a9 =>
  if v3 = (0 : Int32) then
    s_X8_go_J233 rc177 v2 a9 S
  else
    Option.bind (s_X8_isLetter a9) fun q14 =>
    if q14 ≠ v2 then
      s_X8_go_J233 rc177 v2 a9 S
    else
      s_X8_go_J234 rc177 v2 a9 (1 : Int32) S
def s_X8_go_L177 (v2 : Int32) : Nat → Int32 → HS → Option HS
  | 0, _, _ => none
  | K + 1, v3, S =>
    Option.bind (s_X8_tapeAt (gf S 137 4) S) fun q7 =>
    Option.bind (s_X8_isLetter q7) fun q8 =>
    if q8 ≠ (0 : Int32) then
      s_X8_go_J205 (s_X8_go_L177 v2 K) v2 v3 S
    else
      Option.bind (s_X8_tapeAt (gf S 137 4) S) fun q15 =>
      Option.bind (s_X8_isDigit q15) fun q16 =>
      if q16 = (0 : Int32) then
        if v3 = (0 : Int32) then
          Option.bind (pf S 137 6 (1 : Int32)) fun S17 =>
          some S17
        else
          if v2 ≠ (0 : Int32) then
            if v2 = (0 : Int32) then
              Option.bind (pf S 137 6 (3 : Int32)) fun S18 =>
              some S18
            else
              Option.bind (pf S 137 6 (2 : Int32)) fun S19 =>
              some S19
          else
            if ((gf S 137 4) - (gf S 137 5)) ≤ (4 : Int32) then
              if v2 = (0 : Int32) then
                Option.bind (pf S 137 6 (3 : Int32)) fun S20 =>
                some S20
              else
                Option.bind (pf S 137 6 (2 : Int32)) fun S21 =>
                some S21
            else
              Option.bind (pf S 137 6 (1 : Int32)) fun S22 =>
              some S22
      else
        s_X8_go_J205 (s_X8_go_L177 v2 K) v2 v3 S
def s_X8_go_J160 (v1 : Int32) (S : HS) : Option HS :=
  Option.bind (s_X8_isLetter v1) fun q4 =>
  Option.bind (pl S 137 (0 : Int64)) fun S5 =>
  Option.bind (pf S5 137 7 (0 : Int32)) fun S6 =>
  s_X8_go_L177 q4 760 (1 : Int32) S6
def s_X8_go_J93 (S : HS) : Option HS :=
  if (gf S 137 4) < (gf S 137 3) then
    Option.bind (ag (ga S 138) (gf S 137 4)) fun a2 =>
    Option.bind (s_X8_isLetter a2) fun q3 =>
    if q3 ≠ (0 : Int32) then
      s_X8_go_J160 a2 S
    else
      Option.bind (s_X8_isDigit a2) fun q23 =>
      if q23 ≠ (0 : Int32) then
        s_X8_go_J160 a2 S
      else
        if a2 ≠ (59 : Int32) then
          Option.bind (pf S 137 6 (1 : Int32)) fun S24 =>
          Option.bind (pf S24 137 4 ((gf S24 137 4) + (1 : Int32))) fun S25 =>
          some S25
        else
          Option.bind (pf S 137 6 (4 : Int32)) fun S26 =>
          Option.bind (pf S26 137 4 ((gf S26 137 4) + (1 : Int32))) fun S27 =>
          some S27
  else
    Option.bind (pf S 137 6 (0 : Int32)) fun S28 =>
    some S28
def s_X8_go_J52 (S : HS) : Option HS :=
  Option.bind (pf S 137 5 (gf S 137 4)) fun S1 =>
  if (gf S1 137 3) ≤ (700 : Int32) then
    s_X8_go_J93 S1
  else
    if (gf S1 137 5) < (700 : Int32) then
      s_X8_go_J93 S1
    else
      Option.bind (pf S1 137 5 (700 : Int32)) fun S29 =>
      Option.bind (pf S29 137 6 (1 : Int32)) fun S30 =>
      some S30
def s_X8_go_L0 : Nat → HS → Option HS
  | 0, _ => none
  | K + 1, S =>
    if (gf S 137 3) ≤ (gf S 137 4) then
      s_X8_go_J52 S
    else
      Option.bind (ag (ga S 138) (gf S 137 4)) fun a31 =>
      if a31 = (32 : Int32) then
        Option.bind (pf S 137 4 ((gf S 137 4) + (1 : Int32))) fun S32 =>
        s_X8_go_L0 K S32
      else
        Option.bind (ag (ga S 138) (gf S 137 4)) fun a33 =>
        if a33 ≠ (10 : Int32) then
          s_X8_go_J52 S
        else
          Option.bind (pf S 137 4 ((gf S 137 4) + (1 : Int32))) fun S34 =>
          s_X8_go_L0 K S34
def s_X8_go (S : HS) : Option HS :=
  s_X8_go_L0 760 S
set_option maxRecDepth 100000 in
theorem rj_X8_go_J269 {e : Nat} (he : 1 ≤ e) {O : HS} (rc177 : Int32 → HS → Option HS) (v2 : Int32) (v3 : Int32) (v4 : Int32) {n : Nat} (hrc177 : ∀ (v3 : Int32) (S : HS) (j1 : Option Value) (j4 : Option Value), Lm (oV true O) (rc177 v3 S) (run (CF e) (k_X8_go false) n 177 [some (.ref 137), j1, some (.int v2), some (.int v3), j4] [] (en true O S))) (S : HS) (j1 : Option Value) : Lm (oV true O) (s_X8_go_J269 rc177 v2 v3 v4 S) (run (CF e) (k_X8_go false) (n + 24) 269 [some (.ref 137), j1, some (.int v2), some (.int v3), some (.int v4)] [] (en true O S)) := by
  unfold s_X8_go_J269
  refine r_pure rfl rfl ?_
  refine r_get rfl (en_get (b := true) (k := 137) (L := 12) ⟨rfl, by decide⟩ rfl) (fo_get (S := S) rfl) ?_
  refine r_pure rfl rfl ?_
  refine r_get rfl (en_get (b := true) (k := 137) (L := 12) ⟨rfl, by decide⟩ rfl) (fo_get (S := S) rfl) ?_
  refine r_pure rfl rfl ?_
  refine r_pure rfl rfl ?_
  refine r_if2 rfl rfl ?_ ?_
  · refine r_pure rfl rfl ?_
    refine r_pure rfl rfl ?_
    refine r_get rfl (en_get (b := true) (k := 137) (L := 12) ⟨rfl, by decide⟩ rfl) (fo_get (S := S) rfl) ?_
    refine r_pure rfl rfl ?_
    refine r_pure rfl rfl ?_
    refine r_putI rfl ⟨rfl, by decide⟩ rfl rfl rfl (fun S10 => ?_)
    refine r_pure rfl rfl ?_
    exact lm_le (by omega) (hrc177 v3 S10 _ _)
  · refine r_pure rfl rfl ?_
    refine r_pure rfl rfl ?_
    refine r_pure rfl rfl ?_
    refine r_get rfl (en_get (b := true) (k := 137) (L := 12) ⟨rfl, by decide⟩ rfl) (fo_get (S := S) rfl) ?_
    refine r_pure rfl rfl ?_
    refine r_pure rfl rfl ?_
    refine r_pure rfl rfl ?_
    refine r_pure rfl rfl ?_
    refine r_pure rfl rfl ?_
    refine r_putI rfl ⟨rfl, by decide⟩ rfl rfl rfl (fun S11 => ?_)
    refine r_pure rfl rfl ?_
    refine r_pure rfl rfl ?_
    refine r_get rfl (en_get (b := true) (k := 137) (L := 12) ⟨rfl, by decide⟩ rfl) (fo_get (S := S11) rfl) ?_
    refine r_pure rfl rfl ?_
    refine r_pure rfl rfl ?_
    refine r_putI rfl ⟨rfl, by decide⟩ rfl rfl rfl (fun S12 => ?_)
    refine r_pure rfl rfl ?_
    exact lm_le (by omega) (hrc177 v3 S12 _ _)
set_option maxRecDepth 100000 in
theorem rj_X8_go_J234 {e : Nat} (he : 1 ≤ e) {O : HS} (rc177 : Int32 → HS → Option HS) (v2 : Int32) (v4 : Int32) (x0 : Int32) {n : Nat} (hrc177 : ∀ (v3 : Int32) (S : HS) (j1 : Option Value) (j4 : Option Value), Lm (oV true O) (rc177 v3 S) (run (CF e) (k_X8_go false) n 177 [some (.ref 137), j1, some (.int v2), some (.int v3), j4] [] (en true O S))) (S : HS) (j1 : Option Value) (j3 : Option Value) : Lm (oV true O) (s_X8_go_J234 rc177 v2 v4 x0 S) (run (CF e) (k_X8_go false) (n + 43) 234 [some (.ref 137), j1, some (.int v2), j3, some (.int v4)] [.int x0] (en true O S)) := by
  unfold s_X8_go_J234
  refine r_pure (lv' := [some (.ref 137), _, some (.int v2), some (.int x0), some (.int v4)]) rfl rfl ?_
  refine r_pure rfl rfl ?_
  refine r_get rfl (en_get (b := true) (k := 137) (L := 12) ⟨rfl, by decide⟩ rfl) (fo_get (S := S) rfl) ?_
  refine r_pure rfl rfl ?_
  refine r_get rfl (en_get (b := true) (k := 137) (L := 12) ⟨rfl, by decide⟩ rfl) (fo_get (S := S) rfl) ?_
  refine r_pure rfl rfl ?_
  refine r_pure rfl rfl ?_
  refine r_if2 rfl rfl ?_ ?_
  · exact lm_le (by omega) (rj_X8_go_J269 (by omega) rc177 v2 x0 v4 hrc177 S _)
  · refine r_pure rfl rfl ?_
    refine r_pure rfl rfl ?_
    refine r_pure rfl rfl ?_
    refine r_get rfl (en_get (b := true) (k := 137) (L := 12) ⟨rfl, by decide⟩ rfl) (fo_get (S := S) rfl) ?_
    refine r_pure rfl rfl ?_
    refine r_pure rfl rfl ?_
    refine r_pure rfl rfl ?_
    refine r_pure rfl rfl ?_
    refine r_pure rfl rfl ?_
    refine r_pure rfl rfl ?_
    refine r_putJ (j := 10) rfl ⟨rfl, by decide⟩ rfl rfl kdo_8 rfl (fun S13 => ?_)
    exact lm_le (by omega) (rj_X8_go_J269 (by omega) rc177 v2 x0 v4 hrc177 S13 _)
set_option maxRecDepth 100000 in
theorem rj_X8_go_J233 {e : Nat} (he : 1 ≤ e) {O : HS} (rc177 : Int32 → HS → Option HS) (v2 : Int32) (v4 : Int32) {n : Nat} (hrc177 : ∀ (v3 : Int32) (S : HS) (j1 : Option Value) (j4 : Option Value), Lm (oV true O) (rc177 v3 S) (run (CF e) (k_X8_go false) n 177 [some (.ref 137), j1, some (.int v2), some (.int v3), j4] [] (en true O S))) (S : HS) (j1 : Option Value) (j3 : Option Value) : Lm (oV true O) (s_X8_go_J233 rc177 v2 v4 S) (run (CF e) (k_X8_go false) (n + 44) 233 [some (.ref 137), j1, some (.int v2), j3, some (.int v4)] [] (en true O S)) := by
  unfold s_X8_go_J233
  refine r_pure rfl rfl ?_
  exact lm_le (by omega) (rj_X8_go_J234 (by omega) rc177 v2 v4 (0 : Int32) hrc177 S _ _)
set_option maxRecDepth 100000 in
theorem rj_X8_go_J205 {e : Nat} (he : 1 ≤ e) {O : HS} (rc177 : Int32 → HS → Option HS) (v2 : Int32) (v3 : Int32) {n : Nat} (hrc177 : ∀ (v3 : Int32) (S : HS) (j1 : Option Value) (j4 : Option Value), Lm (oV true O) (rc177 v3 S) (run (CF e) (k_X8_go false) n 177 [some (.ref 137), j1, some (.int v2), some (.int v3), j4] [] (en true O S))) (S : HS) (j1 : Option Value) (j4 : Option Value) : Lm (oV true O) (s_X8_go_J205 rc177 v2 v3 S) (run (CF e) (k_X8_go false) (n + 57) 205 [some (.ref 137), j1, some (.int v2), some (.int v3), j4] [] (en true O S)) := by
  unfold s_X8_go_J205
  refine r_pure rfl rfl ?_
  refine r_get rfl (en_get (b := true) (k := 137) (L := 12) ⟨rfl, by decide⟩ rfl) (fo_get (S := S) rfl) ?_
  refine r_pure rfl rfl ?_
  refine r_get rfl (en_get (b := true) (k := 137) (L := 12) ⟨rfl, by decide⟩ rfl) (fo_get (S := S) rfl) ?_
  refine r_iald rfl (en_get (b := true) (k := 138) (L := 0) ⟨rfl, by decide⟩ rfl) (fun a9 => ?_)
  refine r_pure (lv' := [some (.ref 137), _, some (.int v2), some (.int v3), some (.int a9)]) rfl rfl ?_
  refine r_pure rfl rfl ?_
  refine r_if1 rfl rfl ?_ ?_
  · exact lm_le (by omega) (rj_X8_go_J233 (by omega) rc177 v2 a9 hrc177 S _ _)
  · refine r_pure rfl rfl ?_
    refine r_callS_I rfl (Nat.le_of_ble_eq_true rfl) (Nat.le_of_ble_eq_true rfl) (rf_X8_isLetter (by omega) a9) (fun q14 => ?_)
    refine r_pure rfl rfl ?_
    refine r_if2 rfl rfl ?_ ?_
    · exact lm_le (by omega) (rj_X8_go_J233 (by omega) rc177 v2 a9 hrc177 S _ _)
    · refine r_pure rfl rfl ?_
      refine r_pure rfl rfl ?_
      exact lm_le (by omega) (rj_X8_go_J234 (by omega) rc177 v2 a9 (1 : Int32) hrc177 S _ _)
set_option maxRecDepth 100000 in
theorem rl_X8_go_L177 {e : Nat} (he : 1 ≤ e) {O : HS} (v2 : Int32) {n : Nat} : ∀ (K : Nat) (v3 : Int32) (S : HS) (j1 : Option Value) (j4 : Option Value), Lm (oV true O) (s_X8_go_L177 v2 K v3 S) (run (CF e) (k_X8_go false) (n + (69 * K + 0)) 177 [some (.ref 137), j1, some (.int v2), some (.int v3), j4] [] (en true O S)) := by
  intro K
  induction K with
  | zero =>
    intros
    exact lm_none
  | succ K ih =>
    intro v3 S j1 j4
    rw [show n + (69 * (K + 1) + 0) = n + (69 * K + 0) + 69 by omega]
    rw [s_X8_go_L177]
    refine r_pure rfl rfl ?_
    refine r_pure rfl rfl ?_
    refine r_get rfl (en_get (b := true) (k := 137) (L := 12) ⟨rfl, by decide⟩ rfl) (fo_get (S := S) rfl) ?_
    refine r_callV_I rfl rfl (en_get (b := true) (k := 137) (L := 12) ⟨rfl, by decide⟩ rfl) (Nat.le_of_ble_eq_true rfl) (rf_X8_tapeAt (by omega) (gf S 137 4) S) (fun q7 => ?_)
    refine r_callS_I rfl (Nat.le_of_ble_eq_true rfl) (Nat.le_of_ble_eq_true rfl) (rf_X8_isLetter (by omega) q7) (fun q8 => ?_)
    refine r_if1 rfl rfl ?_ ?_
    · exact lm_le (by omega) (rj_X8_go_J205 (by omega) (s_X8_go_L177 v2 K) v2 v3 ih S _ _)
    · refine r_pure rfl rfl ?_
      refine r_pure rfl rfl ?_
      refine r_get rfl (en_get (b := true) (k := 137) (L := 12) ⟨rfl, by decide⟩ rfl) (fo_get (S := S) rfl) ?_
      refine r_callV_I rfl rfl (en_get (b := true) (k := 137) (L := 12) ⟨rfl, by decide⟩ rfl) (Nat.le_of_ble_eq_true rfl) (rf_X8_tapeAt (by omega) (gf S 137 4) S) (fun q15 => ?_)
      refine r_callS_I rfl (Nat.le_of_ble_eq_true rfl) (Nat.le_of_ble_eq_true rfl) (rf_X8_isDigit (by omega) q15) (fun q16 => ?_)
      refine r_if1 rfl rfl ?_ ?_
      · refine r_pure rfl rfl ?_
        refine r_pure rfl rfl ?_
        refine r_if1 rfl rfl ?_ ?_
        · refine r_pure rfl rfl ?_
          refine r_pure rfl rfl ?_
          refine r_putI rfl ⟨rfl, by decide⟩ rfl rfl rfl (fun S17 => ?_)
          exact r_retV rfl rfl
        · refine r_pure rfl rfl ?_
          refine r_if1 rfl rfl ?_ ?_
          · refine r_pure rfl rfl ?_
            refine r_if1 rfl rfl ?_ ?_
            · refine r_pure rfl rfl ?_
              refine r_putI rfl ⟨rfl, by decide⟩ rfl rfl rfl (fun S18 => ?_)
              exact r_retV rfl rfl
            · refine r_pure rfl rfl ?_
              refine r_pure rfl rfl ?_
              refine r_putI rfl ⟨rfl, by decide⟩ rfl rfl rfl (fun S19 => ?_)
              exact r_retV rfl rfl
          · refine r_pure rfl rfl ?_
            refine r_get rfl (en_get (b := true) (k := 137) (L := 12) ⟨rfl, by decide⟩ rfl) (fo_get (S := S) rfl) ?_
            refine r_pure rfl rfl ?_
            refine r_get rfl (en_get (b := true) (k := 137) (L := 12) ⟨rfl, by decide⟩ rfl) (fo_get (S := S) rfl) ?_
            refine r_pure rfl rfl ?_
            refine r_pure rfl rfl ?_
            refine r_if2 rfl rfl ?_ ?_
            · refine r_pure rfl rfl ?_
              refine r_if1 rfl rfl ?_ ?_
              · refine r_pure rfl rfl ?_
                refine r_putI rfl ⟨rfl, by decide⟩ rfl rfl rfl (fun S20 => ?_)
                exact r_retV rfl rfl
              · refine r_pure rfl rfl ?_
                refine r_pure rfl rfl ?_
                refine r_putI rfl ⟨rfl, by decide⟩ rfl rfl rfl (fun S21 => ?_)
                exact r_retV rfl rfl
            · refine r_pure rfl rfl ?_
              refine r_pure rfl rfl ?_
              refine r_putI rfl ⟨rfl, by decide⟩ rfl rfl rfl (fun S22 => ?_)
              exact r_retV rfl rfl
      · exact lm_le (by omega) (rj_X8_go_J205 (by omega) (s_X8_go_L177 v2 K) v2 v3 ih S _ _)
set_option maxRecDepth 100000 in
theorem rj_X8_go_J160 {e : Nat} (he : 1 ≤ e) {O : HS} (v1 : Int32) {n : Nat} (S : HS) (j2 : Option Value) (j3 : Option Value) (j4 : Option Value) : Lm (oV true O) (s_X8_go_J160 v1 S) (run (CF e) (k_X8_go false) (n + 52451) 160 [some (.ref 137), some (.int v1), j2, j3, j4] [] (en true O S)) := by
  unfold s_X8_go_J160
  refine r_pure rfl rfl ?_
  refine r_callS_I rfl (Nat.le_of_ble_eq_true rfl) (Nat.le_of_ble_eq_true rfl) (rf_X8_isLetter (by omega) v1) (fun q4 => ?_)
  refine r_pure (lv' := [some (.ref 137), some (.int v1), some (.int q4), _, _]) rfl rfl ?_
  refine r_pure rfl rfl ?_
  refine r_pure (lv' := [some (.ref 137), some (.int v1), some (.int q4), some (.int (1 : Int32)), _]) rfl rfl ?_
  refine r_pure rfl rfl ?_
  refine r_pure rfl rfl ?_
  refine r_putJ (j := 10) rfl ⟨rfl, by decide⟩ rfl rfl kdo_8 rfl (fun S5 => ?_)
  refine r_pure rfl rfl ?_
  refine r_pure rfl rfl ?_
  refine r_putI rfl ⟨rfl, by decide⟩ rfl rfl rfl (fun S6 => ?_)
  exact lm_le (by omega) (rl_X8_go_L177 (n := 0) (by omega) q4 760 (1 : Int32) S6 _ _)
set_option maxRecDepth 100000 in
theorem rj_X8_go_J93 {e : Nat} (he : 1 ≤ e) {O : HS} {n : Nat} (S : HS) (j1 : Option Value) (j2 : Option Value) (j3 : Option Value) (j4 : Option Value) : Lm (oV true O) (s_X8_go_J93 S) (run (CF e) (k_X8_go false) (n + 52468) 93 [some (.ref 137), j1, j2, j3, j4] [] (en true O S)) := by
  unfold s_X8_go_J93
  refine r_pure rfl rfl ?_
  refine r_get rfl (en_get (b := true) (k := 137) (L := 12) ⟨rfl, by decide⟩ rfl) (fo_get (S := S) rfl) ?_
  refine r_pure rfl rfl ?_
  refine r_get rfl (en_get (b := true) (k := 137) (L := 12) ⟨rfl, by decide⟩ rfl) (fo_get (S := S) rfl) ?_
  refine r_if2 rfl rfl ?_ ?_
  · refine r_pure rfl rfl ?_
    refine r_get rfl (en_get (b := true) (k := 137) (L := 12) ⟨rfl, by decide⟩ rfl) (fo_get (S := S) rfl) ?_
    refine r_pure rfl rfl ?_
    refine r_get rfl (en_get (b := true) (k := 137) (L := 12) ⟨rfl, by decide⟩ rfl) (fo_get (S := S) rfl) ?_
    refine r_iald rfl (en_get (b := true) (k := 138) (L := 0) ⟨rfl, by decide⟩ rfl) (fun a2 => ?_)
    refine r_pure (lv' := [some (.ref 137), some (.int a2), _, _, _]) rfl rfl ?_
    refine r_pure rfl rfl ?_
    refine r_callS_I rfl (Nat.le_of_ble_eq_true rfl) (Nat.le_of_ble_eq_true rfl) (rf_X8_isLetter (by omega) a2) (fun q3 => ?_)
    refine r_if1 rfl rfl ?_ ?_
    · exact lm_le (by omega) (rj_X8_go_J160 (n := 0) (by omega) a2 S _ _ _)
    · refine r_pure rfl rfl ?_
      refine r_callS_I rfl (Nat.le_of_ble_eq_true rfl) (Nat.le_of_ble_eq_true rfl) (rf_X8_isDigit (by omega) a2) (fun q23 => ?_)
      refine r_if1 rfl rfl ?_ ?_
      · exact lm_le (by omega) (rj_X8_go_J160 (n := 0) (by omega) a2 S _ _ _)
      · refine r_pure rfl rfl ?_
        refine r_pure rfl rfl ?_
        refine r_pure rfl rfl ?_
        refine r_if2 rfl rfl ?_ ?_
        · refine r_pure rfl rfl ?_
          refine r_putI rfl ⟨rfl, by decide⟩ rfl rfl rfl (fun S24 => ?_)
          refine r_pure rfl rfl ?_
          refine r_pure rfl rfl ?_
          refine r_get rfl (en_get (b := true) (k := 137) (L := 12) ⟨rfl, by decide⟩ rfl) (fo_get (S := S24) rfl) ?_
          refine r_pure rfl rfl ?_
          refine r_pure rfl rfl ?_
          refine r_putI rfl ⟨rfl, by decide⟩ rfl rfl rfl (fun S25 => ?_)
          exact r_retV rfl rfl
        · refine r_pure rfl rfl ?_
          refine r_pure rfl rfl ?_
          refine r_putI rfl ⟨rfl, by decide⟩ rfl rfl rfl (fun S26 => ?_)
          refine r_pure rfl rfl ?_
          refine r_pure rfl rfl ?_
          refine r_get rfl (en_get (b := true) (k := 137) (L := 12) ⟨rfl, by decide⟩ rfl) (fo_get (S := S26) rfl) ?_
          refine r_pure rfl rfl ?_
          refine r_pure rfl rfl ?_
          refine r_putI rfl ⟨rfl, by decide⟩ rfl rfl rfl (fun S27 => ?_)
          exact r_retV rfl rfl
  · refine r_pure rfl rfl ?_
    refine r_pure rfl rfl ?_
    refine r_putI rfl ⟨rfl, by decide⟩ rfl rfl rfl (fun S28 => ?_)
    exact r_retV rfl rfl
set_option maxRecDepth 100000 in
theorem rj_X8_go_J52 {e : Nat} (he : 1 ≤ e) {O : HS} {n : Nat} (S : HS) (j1 : Option Value) (j2 : Option Value) (j3 : Option Value) (j4 : Option Value) : Lm (oV true O) (s_X8_go_J52 S) (run (CF e) (k_X8_go false) (n + 52480) 52 [some (.ref 137), j1, j2, j3, j4] [] (en true O S)) := by
  unfold s_X8_go_J52
  refine r_pure rfl rfl ?_
  refine r_pure rfl rfl ?_
  refine r_get rfl (en_get (b := true) (k := 137) (L := 12) ⟨rfl, by decide⟩ rfl) (fo_get (S := S) rfl) ?_
  refine r_putI rfl ⟨rfl, by decide⟩ rfl rfl rfl (fun S1 => ?_)
  refine r_pure rfl rfl ?_
  refine r_get rfl (en_get (b := true) (k := 137) (L := 12) ⟨rfl, by decide⟩ rfl) (fo_get (S := S1) rfl) ?_
  refine r_pure rfl rfl ?_
  refine r_if2 rfl rfl ?_ ?_
  · exact lm_le (by omega) (rj_X8_go_J93 (n := 0) (by omega) S1 _ _ _ _)
  · refine r_pure rfl rfl ?_
    refine r_get rfl (en_get (b := true) (k := 137) (L := 12) ⟨rfl, by decide⟩ rfl) (fo_get (S := S1) rfl) ?_
    refine r_pure rfl rfl ?_
    refine r_if2 rfl rfl ?_ ?_
    · exact lm_le (by omega) (rj_X8_go_J93 (n := 0) (by omega) S1 _ _ _ _)
    · refine r_pure rfl rfl ?_
      refine r_pure rfl rfl ?_
      refine r_putI rfl ⟨rfl, by decide⟩ rfl rfl rfl (fun S29 => ?_)
      refine r_pure rfl rfl ?_
      refine r_pure rfl rfl ?_
      refine r_putI rfl ⟨rfl, by decide⟩ rfl rfl rfl (fun S30 => ?_)
      exact r_retV rfl rfl
set_option maxRecDepth 100000 in
theorem rl_X8_go_L0 {e : Nat} (he : 1 ≤ e) {O : HS} {n : Nat} : ∀ (K : Nat) (S : HS) (j1 : Option Value) (j2 : Option Value) (j3 : Option Value) (j4 : Option Value), Lm (oV true O) (s_X8_go_L0 K S) (run (CF e) (k_X8_go false) (n + (26 * K + 52480)) 0 [some (.ref 137), j1, j2, j3, j4] [] (en true O S)) := by
  intro K
  induction K with
  | zero =>
    intros
    exact lm_none
  | succ K ih =>
    intro S j1 j2 j3 j4
    rw [show n + (26 * (K + 1) + 52480) = n + (26 * K + 52480) + 26 by omega]
    rw [s_X8_go_L0]
    refine r_pure rfl rfl ?_
    refine r_get rfl (en_get (b := true) (k := 137) (L := 12) ⟨rfl, by decide⟩ rfl) (fo_get (S := S) rfl) ?_
    refine r_pure rfl rfl ?_
    refine r_get rfl (en_get (b := true) (k := 137) (L := 12) ⟨rfl, by decide⟩ rfl) (fo_get (S := S) rfl) ?_
    refine r_if2 rfl rfl ?_ ?_
    · exact lm_le (by omega) (rj_X8_go_J52 (n := 0) (by omega) S _ _ _ _)
    · refine r_pure rfl rfl ?_
      refine r_get rfl (en_get (b := true) (k := 137) (L := 12) ⟨rfl, by decide⟩ rfl) (fo_get (S := S) rfl) ?_
      refine r_pure rfl rfl ?_
      refine r_get rfl (en_get (b := true) (k := 137) (L := 12) ⟨rfl, by decide⟩ rfl) (fo_get (S := S) rfl) ?_
      refine r_iald rfl (en_get (b := true) (k := 138) (L := 0) ⟨rfl, by decide⟩ rfl) (fun a31 => ?_)
      refine r_pure rfl rfl ?_
      refine r_if2 rfl rfl ?_ ?_
      · refine r_pure rfl rfl ?_
        refine r_pure rfl rfl ?_
        refine r_get rfl (en_get (b := true) (k := 137) (L := 12) ⟨rfl, by decide⟩ rfl) (fo_get (S := S) rfl) ?_
        refine r_pure rfl rfl ?_
        refine r_pure rfl rfl ?_
        refine r_putI rfl ⟨rfl, by decide⟩ rfl rfl rfl (fun S32 => ?_)
        refine r_pure rfl rfl ?_
        exact lm_le (by omega) (ih S32 _ _ _ _)
      · refine r_pure rfl rfl ?_
        refine r_get rfl (en_get (b := true) (k := 137) (L := 12) ⟨rfl, by decide⟩ rfl) (fo_get (S := S) rfl) ?_
        refine r_pure rfl rfl ?_
        refine r_get rfl (en_get (b := true) (k := 137) (L := 12) ⟨rfl, by decide⟩ rfl) (fo_get (S := S) rfl) ?_
        refine r_iald rfl (en_get (b := true) (k := 138) (L := 0) ⟨rfl, by decide⟩ rfl) (fun a33 => ?_)
        refine r_pure rfl rfl ?_
        refine r_if2 rfl rfl ?_ ?_
        · exact lm_le (by omega) (rj_X8_go_J52 (n := 0) (by omega) S _ _ _ _)
        · refine r_pure rfl rfl ?_
          refine r_pure rfl rfl ?_
          refine r_get rfl (en_get (b := true) (k := 137) (L := 12) ⟨rfl, by decide⟩ rfl) (fo_get (S := S) rfl) ?_
          refine r_pure rfl rfl ?_
          refine r_pure rfl rfl ?_
          refine r_putI rfl ⟨rfl, by decide⟩ rfl rfl rfl (fun S34 => ?_)
          refine r_pure rfl rfl ?_
          exact lm_le (by omega) (ih S34 _ _ _ _)
set_option maxRecDepth 100000 in
theorem rf_X8_go {d : Nat} (hd : 2 ≤ d) {O : HS} (S : HS) : Lm (oV true O) (s_X8_go S) (CF d 102 [.ref 137] (en true O S)) := by
  unfold s_X8_go
  obtain ⟨e, rfl⟩ : ∃ e, d = e + 1 := ⟨d - 1, by omega⟩
  refine rm_of (lv := [some (.ref 137), none, none, none, none]) (k_X8_go false) (by omega) rfl rfl (Nat.le_of_ble_eq_true rfl) ?_
  refine lm_le (n := 72240) (by omega) ?_
  show Lm _ _ (run (CF e) _ _ _ _ _ _)
  exact lm_le (by omega) (rl_X8_go_L0 (n := 0) (by omega) 760 S _ _ _ _)
/-! X8_three -/
def s_X8_three (v0 : Int32) (v1 : Int32) (v2 : Int32) : Option Int64 :=
  some ((((27 : Int64) * ((((27 : Int64) * (v0.toInt64 - (96 : Int64))) + v1.toInt64) - (96 : Int64))) + v2.toInt64) - (96 : Int64))
set_option maxRecDepth 100000 in
theorem rf_X8_three {d : Nat} (hd : 1 ≤ d) {hh : List AC} (v0 : Int32) (v1 : Int32) (v2 : Int32) : Lm (oJ hh) (s_X8_three v0 v1 v2) (CF d 103 [.int v0, .int v1, .int v2] hh) := by
  unfold s_X8_three
  obtain ⟨e, rfl⟩ : ∃ e, d = e + 1 := ⟨d - 1, by omega⟩
  refine rm_of (lv := [some (.int v0), some (.int v1), some (.int v2)]) (k_X8_three false) (by omega) rfl rfl (Nat.le_of_ble_eq_true rfl) ?_
  refine lm_le (n := 19) (by omega) ?_
  show Lm _ _ (run (CF e) _ _ _ _ _ _)
  refine r_pure rfl rfl ?_
  refine r_pure rfl rfl ?_
  refine r_pure rfl rfl ?_
  refine r_pure rfl rfl ?_
  refine r_pure rfl rfl ?_
  refine r_pure rfl rfl ?_
  refine r_pure rfl rfl ?_
  refine r_pure rfl rfl ?_
  refine r_pure rfl rfl ?_
  refine r_pure rfl rfl ?_
  refine r_pure rfl rfl ?_
  refine r_pure rfl rfl ?_
  refine r_pure rfl rfl ?_
  refine r_pure rfl rfl ?_
  refine r_pure rfl rfl ?_
  refine r_pure rfl rfl ?_
  refine r_pure rfl rfl ?_
  refine r_pure rfl rfl ?_
  exact r_retJ rfl rfl
/-! X8_six -/
def s_X8_six (v0 : Int32) (v1 : Int32) (v2 : Int32) (v3 : Int32) (v4 : Int32) (v5 : Int32) : Option Int64 :=
  Option.bind (s_X8_three v0 v1 v2) fun q1 =>
  Option.bind (s_X8_three v3 v4 v5) fun q2 =>
  some (((19683 : Int64) * q1) + q2)
set_option maxRecDepth 100000 in
theorem rf_X8_six {d : Nat} (hd : 2 ≤ d) {hh : List AC} (v0 : Int32) (v1 : Int32) (v2 : Int32) (v3 : Int32) (v4 : Int32) (v5 : Int32) : Lm (oJ hh) (s_X8_six v0 v1 v2 v3 v4 v5) (CF d 104 [.int v0, .int v1, .int v2, .int v3, .int v4, .int v5] hh) := by
  unfold s_X8_six
  obtain ⟨e, rfl⟩ : ∃ e, d = e + 1 := ⟨d - 1, by omega⟩
  refine rm_of (lv := [some (.int v0), some (.int v1), some (.int v2), some (.int v3), some (.int v4), some (.int v5)]) (k_X8_six false) (by omega) rfl rfl (Nat.le_of_ble_eq_true rfl) ?_
  refine lm_le (n := 12) (by omega) ?_
  show Lm _ _ (run (CF e) _ _ _ _ _ _)
  refine r_pure rfl rfl ?_
  refine r_pure rfl rfl ?_
  refine r_pure rfl rfl ?_
  refine r_pure rfl rfl ?_
  refine r_callS_J rfl (Nat.le_of_ble_eq_true rfl) (Nat.le_of_ble_eq_true rfl) (rf_X8_three (by omega) v0 v1 v2) (fun q1 => ?_)
  refine r_pure rfl rfl ?_
  refine r_pure rfl rfl ?_
  refine r_pure rfl rfl ?_
  refine r_pure rfl rfl ?_
  refine r_callS_J rfl (Nat.le_of_ble_eq_true rfl) (Nat.le_of_ble_eq_true rfl) (rf_X8_three (by omega) v3 v4 v5) (fun q2 => ?_)
  refine r_pure rfl rfl ?_
  exact r_retJ rfl rfl
/-! X8_isWord -/
def s_X8_isWord (v1 : Int64) (S : HS) : Option Int32 :=
  if (gf S 137 6) ≠ (2 : Int32) then
    some (0 : Int32)
  else
    if (lg_cmp (gl S 137) v1) ≠ (0 : Int32) then
      some (0 : Int32)
    else
      some (1 : Int32)
set_option maxRecDepth 100000 in
theorem rf_X8_isWord {d : Nat} (hd : 1 ≤ d) {O : HS} (v1 : Int64) (S : HS) : Lm (oI (en true O S)) (s_X8_isWord v1 S) (CF d 106 [.ref 137, .long v1] (en true O S)) := by
  unfold s_X8_isWord
  obtain ⟨e, rfl⟩ : ∃ e, d = e + 1 := ⟨d - 1, by omega⟩
  refine rm_of (lv := [some (.ref 137), some (.long v1), none]) (k_X8_isWord false) (by omega) rfl rfl (Nat.le_of_ble_eq_true rfl) ?_
  refine lm_le (n := 12) (by omega) ?_
  show Lm _ _ (run (CF e) _ _ _ _ _ _)
  refine r_pure rfl rfl ?_
  refine r_get rfl (en_get (b := true) (k := 137) (L := 12) ⟨rfl, by decide⟩ rfl) (fo_get (S := S) rfl) ?_
  refine r_pure rfl rfl ?_
  refine r_if2 rfl rfl ?_ ?_
  · refine r_pure rfl rfl ?_
    exact r_retZ rfl (Or.inl rfl) rfl
  · refine r_pure rfl rfl ?_
    refine r_get rfl (en_get (b := true) (k := 137) (L := 12) ⟨rfl, by decide⟩ rfl) (fo_get (S := S) rfl) ?_
    refine r_pure rfl rfl ?_
    refine r_pure rfl rfl ?_
    refine r_if1 rfl rfl ?_ ?_
    · refine r_pure rfl rfl ?_
      exact r_retZ rfl (Or.inl rfl) rfl
    · refine r_pure rfl rfl ?_
      refine r_pure rfl rfl ?_
      exact r_retZ rfl (Or.inr rfl) rfl
/-! X8_bad -/
def s_X8_bad (v1 : Int32) (S : HS) : Option (Int32 × HS) :=
  if (gf S 137 6) ≠ (1 : Int32) then
    Option.bind (pf S 137 8 v1) fun S1 =>
    Option.bind (pf S1 137 9 (gf S1 137 5)) fun S2 =>
    some ((0 : Int32), S2)
  else
    Option.bind (pf S 137 8 (1 : Int32)) fun S3 =>
    Option.bind (pf S3 137 9 (gf S3 137 5)) fun S4 =>
    some ((0 : Int32), S4)
set_option maxRecDepth 100000 in
theorem rf_X8_bad {d : Nat} (hd : 1 ≤ d) {O : HS} (v1 : Int32) (S : HS) : Lm (oIW true O) (s_X8_bad v1 S) (CF d 107 [.ref 137, .int v1] (en true O S)) := by
  unfold s_X8_bad
  obtain ⟨e, rfl⟩ : ∃ e, d = e + 1 := ⟨d - 1, by omega⟩
  refine rm_of (lv := [some (.ref 137), some (.int v1)]) (k_X8_bad false) (by omega) rfl rfl (Nat.le_of_ble_eq_true rfl) ?_
  refine lm_le (n := 14) (by omega) ?_
  show Lm _ _ (run (CF e) _ _ _ _ _ _)
  refine r_pure rfl rfl ?_
  refine r_pure rfl rfl ?_
  refine r_get rfl (en_get (b := true) (k := 137) (L := 12) ⟨rfl, by decide⟩ rfl) (fo_get (S := S) rfl) ?_
  refine r_pure rfl rfl ?_
  refine r_if2 rfl rfl ?_ ?_
  · refine r_pure rfl rfl ?_
    refine r_putI rfl ⟨rfl, by decide⟩ rfl rfl rfl (fun S1 => ?_)
    refine r_pure rfl rfl ?_
    refine r_pure rfl rfl ?_
    refine r_get rfl (en_get (b := true) (k := 137) (L := 12) ⟨rfl, by decide⟩ rfl) (fo_get (S := S1) rfl) ?_
    refine r_putI rfl ⟨rfl, by decide⟩ rfl rfl rfl (fun S2 => ?_)
    refine r_pure rfl rfl ?_
    exact r_retZ rfl (Or.inl rfl) rfl
  · refine r_pure rfl rfl ?_
    refine r_pure rfl rfl ?_
    refine r_putI rfl ⟨rfl, by decide⟩ rfl rfl rfl (fun S3 => ?_)
    refine r_pure rfl rfl ?_
    refine r_pure rfl rfl ?_
    refine r_get rfl (en_get (b := true) (k := 137) (L := 12) ⟨rfl, by decide⟩ rfl) (fo_get (S := S3) rfl) ?_
    refine r_putI rfl ⟨rfl, by decide⟩ rfl rfl rfl (fun S4 => ?_)
    refine r_pure rfl rfl ?_
    exact r_retZ rfl (Or.inl rfl) rfl
/-! X8_isIn -/
def s_X8_isIn (v0 : Int32) (v1 : Int32) (v2 : Int32) : Option Int32 :=
  if v0 < v1 then
    some (0 : Int32)
  else
    if v2 < v0 then
      some (0 : Int32)
    else
      some (1 : Int32)
set_option maxRecDepth 100000 in
theorem rf_X8_isIn {d : Nat} (hd : 1 ≤ d) {hh : List AC} (v0 : Int32) (v1 : Int32) (v2 : Int32) : Lm (oI hh) (s_X8_isIn v0 v1 v2) (CF d 94 [.int v0, .int v1, .int v2] hh) := by
  unfold s_X8_isIn
  obtain ⟨e, rfl⟩ : ∃ e, d = e + 1 := ⟨d - 1, by omega⟩
  refine rm_of (lv := [some (.int v0), some (.int v1), some (.int v2)]) (k_X8_isIn false) (by omega) rfl rfl (Nat.le_of_ble_eq_true rfl) ?_
  refine lm_le (n := 9) (by omega) ?_
  show Lm _ _ (run (CF e) _ _ _ _ _ _)
  refine r_pure rfl rfl ?_
  refine r_pure rfl rfl ?_
  refine r_if2 rfl rfl ?_ ?_
  · refine r_pure rfl rfl ?_
    exact r_retZ rfl (Or.inl rfl) rfl
  · refine r_pure rfl rfl ?_
    refine r_pure rfl rfl ?_
    refine r_if2 rfl rfl ?_ ?_
    · refine r_pure rfl rfl ?_
      exact r_retZ rfl (Or.inl rfl) rfl
    · refine r_pure rfl rfl ?_
      refine r_pure rfl rfl ?_
      exact r_retZ rfl (Or.inr rfl) rfl
/-! X8_told -/
def s_X8_told (v1 : Int32) (v2 : Int32) (v3 : Int32) (S : HS) : Option (Int32 × HS) :=
  if (gf S 137 6) = (3 : Int32) then
    Option.bind (s_X8_isIn (gf S 137 7) v2 v3) fun q1 =>
    if q1 ≠ (0 : Int32) then
      Option.bind (wa S 140 v1 (gf S 137 7)) fun S2 =>
      Option.bind (s_X8_go S2) fun q3 =>
      some ((1 : Int32), q3)
    else
      Option.bind (s_X8_bad (2 : Int32) S) fun q4 =>
      Option.bind (gz q4.1) fun _ =>
      some (q4.1, q4.2)
  else
    Option.bind (s_X8_bad (1 : Int32) S) fun q5 =>
    Option.bind (gz q5.1) fun _ =>
    some (q5.1, q5.2)
set_option maxRecDepth 100000 in
theorem rf_X8_told {d : Nat} (hd : 3 ≤ d) {O : HS} (v1 : Int32) (v2 : Int32) (v3 : Int32) (S : HS) : Lm (oIW true O) (s_X8_told v1 v2 v3 S) (CF d 109 [.ref 137, .int v1, .int v2, .int v3] (en true O S)) := by
  unfold s_X8_told
  obtain ⟨e, rfl⟩ : ∃ e, d = e + 1 := ⟨d - 1, by omega⟩
  refine rm_of (lv := [some (.ref 137), some (.int v1), some (.int v2), some (.int v3)]) (k_X8_told false) (by omega) rfl rfl (Nat.le_of_ble_eq_true rfl) ?_
  refine lm_le (n := 20) (by omega) ?_
  show Lm _ _ (run (CF e) _ _ _ _ _ _)
  refine r_pure rfl rfl ?_
  refine r_get rfl (en_get (b := true) (k := 137) (L := 12) ⟨rfl, by decide⟩ rfl) (fo_get (S := S) rfl) ?_
  refine r_pure rfl rfl ?_
  refine r_if2 rfl rfl ?_ ?_
  · refine r_pure rfl rfl ?_
    refine r_get rfl (en_get (b := true) (k := 137) (L := 12) ⟨rfl, by decide⟩ rfl) (fo_get (S := S) rfl) ?_
    refine r_pure rfl rfl ?_
    refine r_pure rfl rfl ?_
    refine r_callS_I rfl (Nat.le_of_ble_eq_true rfl) (Nat.le_of_ble_eq_true rfl) (rf_X8_isIn (by omega) (gf S 137 7) v2 v3) (fun q1 => ?_)
    refine r_if1 rfl rfl ?_ ?_
    · refine r_pure rfl rfl ?_
      refine r_get rfl (en_get (b := true) (k := 137) (L := 12) ⟨rfl, by decide⟩ rfl) (fo_get (S := S) rfl) ?_
      refine r_pure rfl rfl ?_
      refine r_pure rfl rfl ?_
      refine r_get rfl (en_get (b := true) (k := 137) (L := 12) ⟨rfl, by decide⟩ rfl) (fo_get (S := S) rfl) ?_
      refine r_iastI rfl ⟨rfl, by decide⟩ rfl (fun S2 => ?_)
      refine r_pure rfl rfl ?_
      refine r_callV_VW rfl rfl (en_get (b := true) (k := 137) (L := 12) ⟨rfl, by decide⟩ rfl) (Nat.le_of_ble_eq_true rfl) (rf_X8_go (by omega) S2) (fun q3 => ?_)
      refine r_pure rfl rfl ?_
      exact r_retZ rfl (Or.inr rfl) rfl
    · refine r_pure rfl rfl ?_
      refine r_pure rfl rfl ?_
      refine r_callV_IW rfl rfl (en_get (b := true) (k := 137) (L := 12) ⟨rfl, by decide⟩ rfl) (Nat.le_of_ble_eq_true rfl) (rf_X8_bad (by omega) (2 : Int32) S) (fun q4 => ?_)
      exact r_retG rfl rfl rfl
  · refine r_pure rfl rfl ?_
    refine r_pure rfl rfl ?_
    refine r_callV_IW rfl rfl (en_get (b := true) (k := 137) (L := 12) ⟨rfl, by decide⟩ rfl) (Nat.le_of_ble_eq_true rfl) (rf_X8_bad (by omega) (1 : Int32) S) (fun q5 => ?_)
    exact r_retG rfl rfl rfl
/-! X8_readTanker -/
def s_X8_readTanker_L47 : Nat → Int32 → HS → Option (Int32 × HS)
  | 0, _, _ => none
  | K + 1, v1, S =>
    if (5 : Int32) < v1 then
      Option.bind (s_X8_told (6 : Int32) (1 : Int32) (100 : Int32) S) fun q5 =>
      if q5.1 = (0 : Int32) then
        some ((0 : Int32), q5.2)
      else
        Option.bind (s_X8_told (7 : Int32) (0 : Int32) (100 : Int32) q5.2) fun q6 =>
        if q6.1 = (0 : Int32) then
          some ((0 : Int32), q6.2)
        else
          Option.bind (ag (ga q6.2 140) (7 : Int32)) fun a7 =>
          Option.bind (s_X8_told (8 : Int32) a7 (100 : Int32) q6.2) fun q8 =>
          if q8.1 = (0 : Int32) then
            some ((0 : Int32), q8.2)
          else
            some ((1 : Int32), q8.2)
    else
      Option.bind (s_X8_told v1 (0 : Int32) (9999 : Int32) S) fun q9 =>
      if q9.1 ≠ (0 : Int32) then
        s_X8_readTanker_L47 K (v1 + (1 : Int32)) q9.2
      else
        some ((0 : Int32), q9.2)
def s_X8_readTanker (S : HS) : Option (Int32 × HS) :=
  Option.bind (s_X8_six (116 : Int32) (97 : Int32) (110 : Int32) (107 : Int32) (101 : Int32) (114 : Int32)) fun q1 =>
  Option.bind (s_X8_isWord q1 S) fun q2 =>
  if q2 ≠ (0 : Int32) then
    Option.bind (s_X8_go S) fun q3 =>
    Option.bind (s_X8_told (0 : Int32) (1 : Int32) (99 : Int32) q3) fun q4 =>
    if q4.1 ≠ (0 : Int32) then
      s_X8_readTanker_L47 40 (1 : Int32) q4.2
    else
      some ((0 : Int32), q4.2)
  else
    Option.bind (s_X8_bad (1 : Int32) S) fun q10 =>
    Option.bind (gz q10.1) fun _ =>
    some (q10.1, q10.2)
set_option maxRecDepth 100000 in
theorem rl_X8_readTanker_L47 {e : Nat} (he : 3 ≤ e) {O : HS} {n : Nat} : ∀ (K : Nat) (v1 : Int32) (S : HS), Lm (oIW true O) (s_X8_readTanker_L47 K v1 S) (run (CF e) (k_X8_readTanker false) (n + (27 * K + 0)) 47 [some (.ref 137), some (.int v1)] [] (en true O S)) := by
  intro K
  induction K with
  | zero =>
    intros
    exact lm_none
  | succ K ih =>
    intro v1 S
    rw [show n + (27 * (K + 1) + 0) = n + (27 * K + 0) + 27 by omega]
    rw [s_X8_readTanker_L47]
    refine r_pure rfl rfl ?_
    refine r_pure rfl rfl ?_
    refine r_if2 rfl rfl ?_ ?_
    · refine r_pure rfl rfl ?_
      refine r_pure rfl rfl ?_
      refine r_pure rfl rfl ?_
      refine r_pure rfl rfl ?_
      refine r_callV_IW rfl rfl (en_get (b := true) (k := 137) (L := 12) ⟨rfl, by decide⟩ rfl) (Nat.le_of_ble_eq_true rfl) (rf_X8_told (by omega) (6 : Int32) (1 : Int32) (100 : Int32) S) (fun q5 => ?_)
      refine r_if1 rfl rfl ?_ ?_
      · refine r_pure rfl rfl ?_
        exact r_retZ rfl (Or.inl rfl) rfl
      · refine r_pure rfl rfl ?_
        refine r_pure rfl rfl ?_
        refine r_pure rfl rfl ?_
        refine r_pure rfl rfl ?_
        refine r_callV_IW rfl rfl (en_get (b := true) (k := 137) (L := 12) ⟨rfl, by decide⟩ rfl) (Nat.le_of_ble_eq_true rfl) (rf_X8_told (by omega) (7 : Int32) (0 : Int32) (100 : Int32) q5.2) (fun q6 => ?_)
        refine r_if1 rfl rfl ?_ ?_
        · refine r_pure rfl rfl ?_
          exact r_retZ rfl (Or.inl rfl) rfl
        · refine r_pure rfl rfl ?_
          refine r_pure rfl rfl ?_
          refine r_pure rfl rfl ?_
          refine r_get rfl (en_get (b := true) (k := 137) (L := 12) ⟨rfl, by decide⟩ rfl) (fo_get (S := q6.2) rfl) ?_
          refine r_pure rfl rfl ?_
          refine r_iald rfl (en_get (b := true) (k := 140) (L := 0) ⟨rfl, by decide⟩ rfl) (fun a7 => ?_)
          refine r_pure rfl rfl ?_
          refine r_callV_IW rfl rfl (en_get (b := true) (k := 137) (L := 12) ⟨rfl, by decide⟩ rfl) (Nat.le_of_ble_eq_true rfl) (rf_X8_told (by omega) (8 : Int32) a7 (100 : Int32) q6.2) (fun q8 => ?_)
          refine r_if1 rfl rfl ?_ ?_
          · refine r_pure rfl rfl ?_
            exact r_retZ rfl (Or.inl rfl) rfl
          · refine r_pure rfl rfl ?_
            refine r_pure rfl rfl ?_
            exact r_retZ rfl (Or.inr rfl) rfl
    · refine r_pure rfl rfl ?_
      refine r_pure rfl rfl ?_
      refine r_pure rfl rfl ?_
      refine r_pure rfl rfl ?_
      refine r_callV_IW rfl rfl (en_get (b := true) (k := 137) (L := 12) ⟨rfl, by decide⟩ rfl) (Nat.le_of_ble_eq_true rfl) (rf_X8_told (by omega) v1 (0 : Int32) (9999 : Int32) S) (fun q9 => ?_)
      refine r_if1 rfl rfl ?_ ?_
      · refine r_pure (lv' := [some (.ref 137), some (.int (v1 + (1 : Int32)))]) rfl rfl ?_
        refine r_pure rfl rfl ?_
        exact lm_le (by omega) (ih (v1 + (1 : Int32)) q9.2)
      · refine r_pure rfl rfl ?_
        exact r_retZ rfl (Or.inl rfl) rfl
set_option maxRecDepth 100000 in
theorem rf_X8_readTanker {d : Nat} (hd : 4 ≤ d) {O : HS} (S : HS) : Lm (oIW true O) (s_X8_readTanker S) (CF d 111 [.ref 137] (en true O S)) := by
  unfold s_X8_readTanker
  obtain ⟨e, rfl⟩ : ∃ e, d = e + 1 := ⟨d - 1, by omega⟩
  refine rm_of (lv := [some (.ref 137), none]) (k_X8_readTanker false) (by omega) rfl rfl (Nat.le_of_ble_eq_true rfl) ?_
  refine lm_le (n := 1100) (by omega) ?_
  show Lm _ _ (run (CF e) _ _ _ _ _ _)
  refine r_pure rfl rfl ?_
  refine r_pure rfl rfl ?_
  refine r_pure rfl rfl ?_
  refine r_pure rfl rfl ?_
  refine r_pure rfl rfl ?_
  refine r_pure rfl rfl ?_
  refine r_pure rfl rfl ?_
  refine r_callS_J rfl (Nat.le_of_ble_eq_true rfl) (Nat.le_of_ble_eq_true rfl) (rf_X8_six (by omega) (116 : Int32) (97 : Int32) (110 : Int32) (107 : Int32) (101 : Int32) (114 : Int32)) (fun q1 => ?_)
  refine r_callV_I rfl rfl (en_get (b := true) (k := 137) (L := 12) ⟨rfl, by decide⟩ rfl) (Nat.le_of_ble_eq_true rfl) (rf_X8_isWord (by omega) q1 S) (fun q2 => ?_)
  refine r_if1 rfl rfl ?_ ?_
  · refine r_pure rfl rfl ?_
    refine r_callV_VW rfl rfl (en_get (b := true) (k := 137) (L := 12) ⟨rfl, by decide⟩ rfl) (Nat.le_of_ble_eq_true rfl) (rf_X8_go (by omega) S) (fun q3 => ?_)
    refine r_pure rfl rfl ?_
    refine r_pure rfl rfl ?_
    refine r_pure rfl rfl ?_
    refine r_pure rfl rfl ?_
    refine r_callV_IW rfl rfl (en_get (b := true) (k := 137) (L := 12) ⟨rfl, by decide⟩ rfl) (Nat.le_of_ble_eq_true rfl) (rf_X8_told (by omega) (0 : Int32) (1 : Int32) (99 : Int32) q3) (fun q4 => ?_)
    refine r_if1 rfl rfl ?_ ?_
    · refine r_pure rfl rfl ?_
      refine r_pure (lv' := [some (.ref 137), some (.int (1 : Int32))]) rfl rfl ?_
      exact lm_le (by omega) (rl_X8_readTanker_L47 (n := 0) (by omega) 40 (1 : Int32) q4.2)
    · refine r_pure rfl rfl ?_
      exact r_retZ rfl (Or.inl rfl) rfl
  · refine r_pure rfl rfl ?_
    refine r_pure rfl rfl ?_
    refine r_callV_IW rfl rfl (en_get (b := true) (k := 137) (L := 12) ⟨rfl, by decide⟩ rfl) (Nat.le_of_ble_eq_true rfl) (rf_X8_bad (by omega) (1 : Int32) S) (fun q10 => ?_)
    exact r_retG rfl rfl rfl
