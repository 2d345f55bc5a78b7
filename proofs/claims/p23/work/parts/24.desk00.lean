/-! X7_tapeNumber -/
def s_X7_tapeNumber_L3 (v1 : Int32) : Nat → Int32 → HS → Option HS
  | 0, _, _ => none
  | K + 1, v2, S =>
    if v2 < (0 : Int32) then
      some S
    else
      if (740 : Int32) ≤ (gf S 0 1) then
        s_X7_tapeNumber_L3 v1 K (v2 + (-8 : Int32)) S
      else
        Option.bind (wa S 1 (gf S 0 1) (((v1 >>> (v2 &&& (31 : Int32))).toInt8.toInt32).toInt8.toInt32)) fun S1 =>
        Option.bind (pf S1 0 1 ((gf S1 0 1) + (1 : Int32))) fun S2 =>
        s_X7_tapeNumber_L3 v1 K (v2 + (-8 : Int32)) S2
def s_X7_tapeNumber (v1 : Int32) (S : HS) : Option HS :=
  s_X7_tapeNumber_L3 v1 40 (24 : Int32) S
set_option maxRecDepth 100000 in
theorem rl_X7_tapeNumber_L3 {e : Nat} (he : 0 ≤ e) {O : HS} (v1 : Int32) {n : Nat} : ∀ (K : Nat) (v2 : Int32) (S : HS), Lm (oV false O) (s_X7_tapeNumber_L3 v1 K v2 S) (run (CF e) (k_X7_tapeNumber false) (n + (23 * K + 0)) 3 [some (.ref 0), some (.int v1), some (.int v2)] [] (en false O S)) := by
  intro K
  induction K with
  | zero =>
    intros
    exact lm_none
  | succ K ih =>
    intro v2 S
    rw [show n + (23 * (K + 1) + 0) = n + (23 * K + 0) + 23 by omega]
    rw [s_X7_tapeNumber_L3]
    refine r_pure rfl rfl ?_
    refine r_if1 rfl rfl ?_ ?_
    · exact r_retV rfl rfl
    · refine r_pure rfl rfl ?_
      refine r_get rfl (en_get (b := false) (k := 0) (L := 11) ⟨rfl, by decide⟩ rfl) (fo_get (S := S) rfl) ?_
      refine r_pure rfl rfl ?_
      refine r_if2 rfl rfl ?_ ?_
      · refine r_pure (lv' := [some (.ref 0), some (.int v1), some (.int (v2 + (-8 : Int32)))]) rfl rfl ?_
        refine r_pure rfl rfl ?_
        exact lm_le (by omega) (ih (v2 + (-8 : Int32)) S)
      · refine r_pure rfl rfl ?_
        refine r_get rfl (en_get (b := false) (k := 0) (L := 11) ⟨rfl, by decide⟩ rfl) (fo_get (S := S) rfl) ?_
        refine r_pure rfl rfl ?_
        refine r_get rfl (en_get (b := false) (k := 0) (L := 11) ⟨rfl, by decide⟩ rfl) (fo_get (S := S) rfl) ?_
        refine r_pure rfl rfl ?_
        refine r_pure rfl rfl ?_
        refine r_pure rfl rfl ?_
        refine r_pure rfl rfl ?_
        refine r_iastB rfl ⟨rfl, by decide⟩ rfl (fun S1 => ?_)
        refine r_pure rfl rfl ?_
        refine r_pure rfl rfl ?_
        refine r_get rfl (en_get (b := false) (k := 0) (L := 11) ⟨rfl, by decide⟩ rfl) (fo_get (S := S1) rfl) ?_
        refine r_pure rfl rfl ?_
        refine r_pure rfl rfl ?_
        refine r_putI rfl ⟨rfl, by decide⟩ rfl rfl rfl (fun S2 => ?_)
        refine r_pure (lv' := [some (.ref 0), some (.int v1), some (.int (v2 + (-8 : Int32)))]) rfl rfl ?_
        refine r_pure rfl rfl ?_
        exact lm_le (by omega) (ih (v2 + (-8 : Int32)) S2)
set_option maxRecDepth 100000 in
theorem rf_X7_tapeNumber {d : Nat} (hd : 1 ≤ d) {O : HS} (v1 : Int32) (S : HS) : Lm (oV false O) (s_X7_tapeNumber v1 S) (CF d 91 [.ref 0, .int v1] (en false O S)) := by
  unfold s_X7_tapeNumber
  obtain ⟨e, rfl⟩ : ∃ e, d = e + 1 := ⟨d - 1, by omega⟩
  refine rm_of (lv := [some (.ref 0), some (.int v1), none]) (k_X7_tapeNumber false) (by omega) rfl rfl (Nat.le_of_ble_eq_true rfl) ?_
  refine lm_le (n := 922) (by omega) ?_
  show Lm _ _ (run (CF e) _ _ _ _ _ _)
  refine r_pure rfl rfl ?_
  refine r_pure (lv' := [some (.ref 0), some (.int v1), some (.int (24 : Int32))]) rfl rfl ?_
  exact lm_le (by omega) (rl_X7_tapeNumber_L3 (n := 0) (by omega) v1 40 (24 : Int32) S)
/-! X7_feed -/
def s_X7_feed (v1 : Int32) (v2 : Int32) (v3 : Int32) (v4 : Int32) (v5 : Int32) (S : HS) : Option (Int32 × HS) :=
  if ((gf S 0 1) + (20 : Int32)) ≤ (740 : Int32) then
    Option.bind (s_X7_tapeNumber v1 S) fun q1 =>
    Option.bind (s_X7_tapeNumber v2 q1) fun q2 =>
    Option.bind (s_X7_tapeNumber v3 q2) fun q3 =>
    Option.bind (s_X7_tapeNumber v4 q3) fun q4 =>
    Option.bind (s_X7_tapeNumber v5 q4) fun q5 =>
    some ((gf q5 0 1), q5)
  else
    some ((-1 : Int32), S)
set_option maxRecDepth 100000 in
theorem rf_X7_feed {d : Nat} (hd : 2 ≤ d) {O : HS} (v1 : Int32) (v2 : Int32) (v3 : Int32) (v4 : Int32) (v5 : Int32) (S : HS) : Lm (oIW false O) (s_X7_feed v1 v2 v3 v4 v5 S) (CF d 69 [.ref 0, .int v1, .int v2, .int v3, .int v4, .int v5] (en false O S)) := by
  unfold s_X7_feed
  obtain ⟨e, rfl⟩ : ∃ e, d = e + 1 := ⟨d - 1, by omega⟩
  refine rm_of (lv := [some (.ref 0), some (.int v1), some (.int v2), some (.int v3), some (.int v4), some (.int v5)]) (k_X7_feed false) (by omega) rfl rfl (Nat.le_of_ble_eq_true rfl) ?_
  refine lm_le (n := 24) (by omega) ?_
  show Lm _ _ (run (CF e) _ _ _ _ _ _)
  refine r_pure rfl rfl ?_
  refine r_get rfl (en_get (b := false) (k := 0) (L := 11) ⟨rfl, by decide⟩ rfl) (fo_get (S := S) rfl) ?_
  refine r_pure rfl rfl ?_
  refine r_pure rfl rfl ?_
  refine r_pure rfl rfl ?_
  refine r_if2 rfl rfl ?_ ?_
  · refine r_pure rfl rfl ?_
    refine r_pure rfl rfl ?_
    refine r_callV_VW rfl rfl (en_get (b := false) (k := 0) (L := 11) ⟨rfl, by decide⟩ rfl) (Nat.le_of_ble_eq_true rfl) (rf_X7_tapeNumber (by omega) v1 S) (fun q1 => ?_)
    refine r_pure rfl rfl ?_
    refine r_pure rfl rfl ?_
    refine r_callV_VW rfl rfl (en_get (b := false) (k := 0) (L := 11) ⟨rfl, by decide⟩ rfl) (Nat.le_of_ble_eq_true rfl) (rf_X7_tapeNumber (by omega) v2 q1) (fun q2 => ?_)
    refine r_pure rfl rfl ?_
    refine r_pure rfl rfl ?_
    refine r_callV_VW rfl rfl (en_get (b := false) (k := 0) (L := 11) ⟨rfl, by decide⟩ rfl) (Nat.le_of_ble_eq_true rfl) (rf_X7_tapeNumber (by omega) v3 q2) (fun q3 => ?_)
    refine r_pure rfl rfl ?_
    refine r_pure rfl rfl ?_
    refine r_callV_VW rfl rfl (en_get (b := false) (k := 0) (L := 11) ⟨rfl, by decide⟩ rfl) (Nat.le_of_ble_eq_true rfl) (rf_X7_tapeNumber (by omega) v4 q3) (fun q4 => ?_)
    refine r_pure rfl rfl ?_
    refine r_pure rfl rfl ?_
    refine r_callV_VW rfl rfl (en_get (b := false) (k := 0) (L := 11) ⟨rfl, by decide⟩ rfl) (Nat.le_of_ble_eq_true rfl) (rf_X7_tapeNumber (by omega) v5 q4) (fun q5 => ?_)
    refine r_pure rfl rfl ?_
    refine r_get rfl (en_get (b := false) (k := 0) (L := 11) ⟨rfl, by decide⟩ rfl) (fo_get (S := q5) rfl) ?_
    exact r_retI rfl rfl
  · refine r_pure rfl rfl ?_
    exact r_retI rfl rfl
/-! X7_end -/
def s_X7_end (v1 : Int32) (S : HS) : Option (Int32 × HS) :=
  if v1 < (0 : Int32) then
    some ((0 : Int32), S)
  else
    if v1 ≤ (gf S 0 1) then
      Option.bind (pf S 0 1 v1) fun S1 =>
      some ((1 : Int32), S1)
    else
      some ((0 : Int32), S)
set_option maxRecDepth 100000 in
theorem rf_X7_end {d : Nat} (hd : 1 ≤ d) {O : HS} (v1 : Int32) (S : HS) : Lm (oIW false O) (s_X7_end v1 S) (CF d 70 [.ref 0, .int v1] (en false O S)) := by
  unfold s_X7_end
  obtain ⟨e, rfl⟩ : ∃ e, d = e + 1 := ⟨d - 1, by omega⟩
  refine rm_of (lv := [some (.ref 0), some (.int v1)]) (k_X7_end false) (by omega) rfl rfl (Nat.le_of_ble_eq_true rfl) ?_
  refine lm_le (n := 11) (by omega) ?_
  show Lm _ _ (run (CF e) _ _ _ _ _ _)
  refine r_pure rfl rfl ?_
  refine r_if1 rfl rfl ?_ ?_
  · refine r_pure rfl rfl ?_
    exact r_retZ rfl (Or.inl rfl) rfl
  · refine r_pure rfl rfl ?_
    refine r_pure rfl rfl ?_
    refine r_get rfl (en_get (b := false) (k := 0) (L := 11) ⟨rfl, by decide⟩ rfl) (fo_get (S := S) rfl) ?_
    refine r_if2 rfl rfl ?_ ?_
    · refine r_pure rfl rfl ?_
      refine r_pure rfl rfl ?_
      refine r_putI rfl ⟨rfl, by decide⟩ rfl rfl rfl (fun S1 => ?_)
      refine r_pure rfl rfl ?_
      exact r_retZ rfl (Or.inr rfl) rfl
    · refine r_pure rfl rfl ?_
      exact r_retZ rfl (Or.inl rfl) rfl
/-! X6_clear -/
def s_X6_clear (t : Nat) (S : HS) : Option HS :=
  Option.bind (wf S (t + 1) (0 : Int32)) fun S1 =>
  Option.bind (wa S1 (t + 1) (0 : Int32) (1 : Int32)) fun S2 =>
  Option.bind (pf S2 t 1 (0 : Int32)) fun S3 =>
  Option.bind (wf S3 (t + 5) (-1 : Int32)) fun S4 =>
  Option.bind (pf S4 t 6 (0 : Int32)) fun S5 =>
  Option.bind (pl S5 t (0 : Int64)) fun S6 =>
  Option.bind (pf S6 t 9 (0 : Int32)) fun S7 =>
  some S7
set_option maxRecDepth 100000 in
theorem rf_X6_clear {d : Nat} (hd : 2 ≤ d) {O : HS} (t : Nat) (ht : isT t) (S : HS) : Lm (oV false O) (s_X6_clear t S) (CF d 62 [.ref t] (en false O S)) := by
  unfold s_X6_clear
  obtain ⟨e, rfl⟩ : ∃ e, d = e + 1 := ⟨d - 1, by omega⟩
  refine rm_of (lv := [some (.ref t)]) (k_X6_clear false) (by omega) rfl rfl (Nat.le_of_ble_eq_true rfl) ?_
  refine lm_le (n := 26) (by omega) ?_
  show Lm _ _ (run (CF e) _ _ _ _ _ _)
  refine r_pure rfl rfl ?_
  refine r_get rfl (en_get (b := false) (k := t) (L := 10) (zT0 ht) (lT0 ht)) (fo_get (S := S) rfl) ?_
  refine r_pure rfl rfl ?_
  refine r_fill rfl (zT1 ht) (lT1 ht) (Nat.le_of_ble_eq_true rfl) (fun h1 h2 => fill_m (by omega) h1 h2) (fun S1 => ?_)
  refine r_pure rfl rfl ?_
  refine r_get rfl (en_get (b := false) (k := t) (L := 10) (zT0 ht) (lT0 ht)) (fo_get (S := S1) rfl) ?_
  refine r_pure rfl rfl ?_
  refine r_pure rfl rfl ?_
  refine r_iastI rfl (zT1 ht) (lT1 ht) (fun S2 => ?_)
  refine r_pure rfl rfl ?_
  refine r_pure rfl rfl ?_
  refine r_putI rfl (zT0 ht) (lT0 ht) rfl rfl (fun S3 => ?_)
  refine r_pure rfl rfl ?_
  refine r_get rfl (en_get (b := false) (k := t) (L := 10) (zT0 ht) (lT0 ht)) (fo_get (S := S3) rfl) ?_
  refine r_pure rfl rfl ?_
  refine r_fill rfl (zT5 ht) (lT5 ht) (Nat.le_of_ble_eq_true rfl) (fun h1 h2 => fill_m (by omega) h1 h2) (fun S4 => ?_)
  refine r_pure rfl rfl ?_
  refine r_pure rfl rfl ?_
  refine r_putI rfl (zT0 ht) (lT0 ht) rfl rfl (fun S5 => ?_)
  refine r_pure rfl rfl ?_
  refine r_pure rfl rfl ?_
  refine r_putJ (j := 8) rfl (zT0 ht) (lT0 ht) rfl kdo_6 rfl (fun S6 => ?_)
  refine r_pure rfl rfl ?_
  refine r_pure rfl rfl ?_
  refine r_putI rfl (zT0 ht) (lT0 ht) rfl rfl (fun S7 => ?_)
  exact r_retV rfl rfl
/-! X4_isLetter -/
def s_X4_isLetter (v0 : Int32) : Option Int32 :=
  if v0 < (97 : Int32) then
    some (0 : Int32)
  else
    if (122 : Int32) < v0 then
      some (0 : Int32)
    else
      some (1 : Int32)
set_option maxRecDepth 100000 in
theorem rf_X4_isLetter {d : Nat} (hd : 1 ≤ d) {hh : List AC} (v0 : Int32) : Lm (oI hh) (s_X4_isLetter v0) (CF d 51 [.int v0] hh) := by
  unfold s_X4_isLetter
  obtain ⟨e, rfl⟩ : ∃ e, d = e + 1 := ⟨d - 1, by omega⟩
  refine rm_of (lv := [some (.int v0)]) (k_X4_isLetter false) (by omega) rfl rfl (Nat.le_of_ble_eq_true rfl) ?_
  refine lm_le (n := 9) (by omega) ?_
  show Lm _ _ (run (CF e) _ _ _ _ _ _)
  refine r_pure rfl rfl ?_
  refine r_pure rfl rfl ?_
  refine r_if2 rfl rfl ?_ ?_
  · refine r_pure rfl rfl ?_
    exact r_retZ rfl (Or.inl rfl) rfl
  · refine r_pure rfl rfl ?_
    refine r_pure rfl rfl ?_
    refine r_if2 rfl rfl ?_ ?_
    · refine r_pure rfl rfl ?_
      exact r_retZ rfl (Or.inl rfl) rfl
    · refine r_pure rfl rfl ?_
      refine r_pure rfl rfl ?_
      exact r_retZ rfl (Or.inr rfl) rfl
/-! X4_isDigit -/
def s_X4_isDigit (v0 : Int32) : Option Int32 :=
  if v0 < (48 : Int32) then
    some (0 : Int32)
  else
    if (57 : Int32) < v0 then
      some (0 : Int32)
    else
      some (1 : Int32)
set_option maxRecDepth 100000 in
theorem rf_X4_isDigit {d : Nat} (hd : 1 ≤ d) {hh : List AC} (v0 : Int32) : Lm (oI hh) (s_X4_isDigit v0) (CF d 52 [.int v0] hh) := by
  unfold s_X4_isDigit
  obtain ⟨e, rfl⟩ : ∃ e, d = e + 1 := ⟨d - 1, by omega⟩
  refine rm_of (lv := [some (.int v0)]) (k_X4_isDigit false) (by omega) rfl rfl (Nat.le_of_ble_eq_true rfl) ?_
  refine lm_le (n := 9) (by omega) ?_
  show Lm _ _ (run (CF e) _ _ _ _ _ _)
  refine r_pure rfl rfl ?_
  refine r_pure rfl rfl ?_
  refine r_if2 rfl rfl ?_ ?_
  · refine r_pure rfl rfl ?_
    exact r_retZ rfl (Or.inl rfl) rfl
  · refine r_pure rfl rfl ?_
    refine r_pure rfl rfl ?_
    refine r_if2 rfl rfl ?_ ?_
    · refine r_pure rfl rfl ?_
      exact r_retZ rfl (Or.inl rfl) rfl
    · refine r_pure rfl rfl ?_
      refine r_pure rfl rfl ?_
      exact r_retZ rfl (Or.inr rfl) rfl
/-! X4_advanceRun -/
def s_X4_advanceRun_J141 (v1 : Int32) (v2 : Int32) (S : HS) : Option HS :=
  if v2 ≤ (0 : Int32) then
    Option.bind (pf S 2 4 (0 : Int32)) fun S2 =>
    some S2
  else
    if (4 : Int32) < v2 then
      Option.bind (pf S 2 4 (0 : Int32)) fun S3 =>
      some S3
    else
      if v1 ≠ v2 then
        Option.bind (pf S 2 4 (0 : Int32)) fun S4 =>
        some S4
      else
        Option.bind (pf S 2 4 (2 : Int32)) fun S5 =>
        some S5
def s_X4_advanceRun_J115 (v1 : Int32) (S : HS) : Option HS :=
  if ((gf S 2 3) - (gf S 2 5)) ≤ (0 : Int32) then
    s_X4_advanceRun_J141 v1 ((gf S 2 3) - (gf S 2 5)) S
  else
    if v1 ≠ (0 : Int32) then
      s_X4_advanceRun_J141 v1 ((gf S 2 3) - (gf S 2 5)) S
    else
      Option.bind (pf S 2 4 (1 : Int32)) fun S6 =>
      some S6
def s_X4_advanceRun_J48 (rc7 : Int32 → HS → Option HS) (v1 : Int32) (S : HS) : Option HS :=
  Option.bind (rc (gr S 2 1) 1) fun _ =>
  Option.bind (ag (ga S 1) (gf S 2 3)) fun a9 =>
  Option.bind (s_X4_isDigit a9) fun q10 =>
  if q10 = (0 : Int32) then
    Option.bind (pf S 2 3 ((gf S 2 3) + (1 : Int32))) fun S11 =>
    rc7 v1 S11
  else
    if (4 : Int32) < (v1 + (1 : Int32)) then
      Option.bind (pf S 2 6 (gf S 2 6)) fun S12 =>
      Option.bind (pf S12 2 3 ((gf S12 2 3) + (1 : Int32))) fun S13 =>
      rc7 (v1 + (1 : Int32)) S13
    else
      Option.bind (rc (gr S 2 1) 1) fun _ =>
      Option.bind (ag (ga S 1) (gf S 2 3)) fun a14 =>
      Option.bind (pf S 2 6 ((((gf S 2 6) * (10 : Int32)) + a14) - (48 : Int32))) fun S15 =>
      Option.bind (pf S15 2 3 ((gf S15 2 3) + (1 : Int32))) fun S16 =>
      rc7 (v1 + (1 : Int32)) S16
def s_X4_advanceRun_L7 : Nat → Int32 → HS → Option HS
  | 0, _, _ => none
  | K + 1, v1, S =>
    if (gf S 2 2) ≤ (gf S 2 3) then
      s_X4_advanceRun_J115 v1 S
    else
      Option.bind (rc (gr S 2 1) 1) fun _ =>
      Option.bind (ag (ga S 1) (gf S 2 3)) fun a7 =>
      Option.bind (s_X4_isLetter a7) fun q8 =>
      if q8 ≠ (0 : Int32) then
        s_X4_advanceRun_J48 (s_X4_advanceRun_L7 K) v1 S
      else
        Option.bind (rc (gr S 2 1) 1) fun _ =>
        Option.bind (ag (ga S 1) (gf S 2 3)) fun a17 =>
        Option.bind (s_X4_isDigit a17) fun q18 =>
        if q18 = (0 : Int32) then
          s_X4_advanceRun_J115 v1 S
        else
          s_X4_advanceRun_J48 (s_X4_advanceRun_L7 K) v1 S
def s_X4_advanceRun (S : HS) : Option HS :=
  Option.bind (pf S 2 6 (0 : Int32)) fun S1 =>
  s_X4_advanceRun_L7 760 (0 : Int32) S1
set_option maxRecDepth 100000 in
theorem rj_X4_advanceRun_J141 {e : Nat} (he : 1 ≤ e) {O : HS} (v1 : Int32) (v2 : Int32) {n : Nat} (S : HS) : Lm (oV false O) (s_X4_advanceRun_J141 v1 v2 S) (run (CF e) (k_X4_advanceRun false) (n + 13) 141 [some (.ref 2), some (.int v1), some (.int v2)] [] (en false O S)) := by
  unfold s_X4_advanceRun_J141
  refine r_pure rfl rfl ?_
  refine r_if1 rfl rfl ?_ ?_
  · refine r_pure rfl rfl ?_
    refine r_pure rfl rfl ?_
    refine r_putI rfl ⟨rfl, by decide⟩ rfl rfl rfl (fun S2 => ?_)
    exact r_retV rfl rfl
  · refine r_pure rfl rfl ?_
    refine r_pure rfl rfl ?_
    refine r_if2 rfl rfl ?_ ?_
    · refine r_pure rfl rfl ?_
      refine r_pure rfl rfl ?_
      refine r_putI rfl ⟨rfl, by decide⟩ rfl rfl rfl (fun S3 => ?_)
      exact r_retV rfl rfl
    · refine r_pure rfl rfl ?_
      refine r_pure rfl rfl ?_
      refine r_if2 rfl rfl ?_ ?_
      · refine r_pure rfl rfl ?_
        refine r_pure rfl rfl ?_
        refine r_putI rfl ⟨rfl, by decide⟩ rfl rfl rfl (fun S4 => ?_)
        exact r_retV rfl rfl
      · refine r_pure rfl rfl ?_
        refine r_pure rfl rfl ?_
        refine r_putI rfl ⟨rfl, by decide⟩ rfl rfl rfl (fun S5 => ?_)
        refine r_pure rfl rfl ?_
        exact r_retV rfl rfl
set_option maxRecDepth 100000 in
theorem rj_X4_advanceRun_J115 {e : Nat} (he : 1 ≤ e) {O : HS} (v1 : Int32) {n : Nat} (S : HS) (j2 : Option Value) : Lm (oV false O) (s_X4_advanceRun_J115 v1 S) (run (CF e) (k_X4_advanceRun false) (n + 23) 115 [some (.ref 2), some (.int v1), j2] [] (en false O S)) := by
  unfold s_X4_advanceRun_J115
  refine r_pure rfl rfl ?_
  refine r_get rfl (en_get (b := false) (k := 2) (L := 8) ⟨rfl, by decide⟩ rfl) (fo_get (S := S) rfl) ?_
  refine r_pure rfl rfl ?_
  refine r_get rfl (en_get (b := false) (k := 2) (L := 8) ⟨rfl, by decide⟩ rfl) (fo_get (S := S) rfl) ?_
  refine r_pure rfl rfl ?_
  refine r_pure (lv' := [some (.ref 2), some (.int v1), some (.int ((gf S 2 3) - (gf S 2 5)))]) rfl rfl ?_
  refine r_pure rfl rfl ?_
  refine r_if1 rfl rfl ?_ ?_
  · exact lm_le (by omega) (rj_X4_advanceRun_J141 (n := 0) (by omega) v1 ((gf S 2 3) - (gf S 2 5)) S)
  · refine r_pure rfl rfl ?_
    refine r_if1 rfl rfl ?_ ?_
    · exact lm_le (by omega) (rj_X4_advanceRun_J141 (n := 0) (by omega) v1 ((gf S 2 3) - (gf S 2 5)) S)
    · refine r_pure rfl rfl ?_
      refine r_pure rfl rfl ?_
      refine r_putI rfl ⟨rfl, by decide⟩ rfl rfl rfl (fun S6 => ?_)
      refine r_pure rfl rfl ?_
      exact r_retV rfl rfl
set_option maxRecDepth 100000 in
theorem rj_X4_advanceRun_J48 {e : Nat} (he : 1 ≤ e) {O : HS} (rc7 : Int32 → HS → Option HS) (v1 : Int32) {n : Nat} (hrc7 : ∀ (v1 : Int32) (S : HS) (j2 : Option Value), Lm (oV false O) (rc7 v1 S) (run (CF e) (k_X4_advanceRun false) n 7 [some (.ref 2), some (.int v1), j2] [] (en false O S))) (S : HS) (j2 : Option Value) : Lm (oV false O) (s_X4_advanceRun_J48 rc7 v1 S) (run (CF e) (k_X4_advanceRun false) (n + 33) 48 [some (.ref 2), some (.int v1), j2] [] (en false O S)) := by
  unfold s_X4_advanceRun_J48
  refine r_pure rfl rfl ?_
  refine r_getC rfl ⟨rfl, by decide⟩ rfl rfl ?_
  refine r_pure rfl rfl ?_
  refine r_get rfl (en_get (b := false) (k := 2) (L := 8) ⟨rfl, by decide⟩ rfl) (fo_get (S := S) rfl) ?_
  refine r_iald rfl (en_get (b := false) (k := 1) (L := 1) ⟨rfl, by decide⟩ rfl) (fun a9 => ?_)
  refine r_callS_I rfl (Nat.le_of_ble_eq_true rfl) (Nat.le_of_ble_eq_true rfl) (rf_X4_isDigit (by omega) a9) (fun q10 => ?_)
  refine r_if1 rfl rfl ?_ ?_
  · refine r_pure rfl rfl ?_
    refine r_pure rfl rfl ?_
    refine r_get rfl (en_get (b := false) (k := 2) (L := 8) ⟨rfl, by decide⟩ rfl) (fo_get (S := S) rfl) ?_
    refine r_pure rfl rfl ?_
    refine r_pure rfl rfl ?_
    refine r_putI rfl ⟨rfl, by decide⟩ rfl rfl rfl (fun S11 => ?_)
    refine r_pure rfl rfl ?_
    exact lm_le (by omega) (hrc7 v1 S11 _)
  · refine r_pure (lv' := [some (.ref 2), some (.int (v1 + (1 : Int32))), _]) rfl rfl ?_
    refine r_pure rfl rfl ?_
    refine r_pure rfl rfl ?_
    refine r_pure rfl rfl ?_
    refine r_if2 rfl rfl ?_ ?_
    · refine r_pure rfl rfl ?_
      refine r_get rfl (en_get (b := false) (k := 2) (L := 8) ⟨rfl, by decide⟩ rfl) (fo_get (S := S) rfl) ?_
      refine r_putI rfl ⟨rfl, by decide⟩ rfl rfl rfl (fun S12 => ?_)
      refine r_pure rfl rfl ?_
      refine r_pure rfl rfl ?_
      refine r_get rfl (en_get (b := false) (k := 2) (L := 8) ⟨rfl, by decide⟩ rfl) (fo_get (S := S12) rfl) ?_
      refine r_pure rfl rfl ?_
      refine r_pure rfl rfl ?_
      refine r_putI rfl ⟨rfl, by decide⟩ rfl rfl rfl (fun S13 => ?_)
      refine r_pure rfl rfl ?_
      exact lm_le (by omega) (hrc7 (v1 + (1 : Int32)) S13 _)
    · refine r_pure rfl rfl ?_
      refine r_get rfl (en_get (b := false) (k := 2) (L := 8) ⟨rfl, by decide⟩ rfl) (fo_get (S := S) rfl) ?_
      refine r_pure rfl rfl ?_
      refine r_pure rfl rfl ?_
      refine r_pure rfl rfl ?_
      refine r_getC rfl ⟨rfl, by decide⟩ rfl rfl ?_
      refine r_pure rfl rfl ?_
      refine r_get rfl (en_get (b := false) (k := 2) (L := 8) ⟨rfl, by decide⟩ rfl) (fo_get (S := S) rfl) ?_
      refine r_iald rfl (en_get (b := false) (k := 1) (L := 1) ⟨rfl, by decide⟩ rfl) (fun a14 => ?_)
      refine r_pure rfl rfl ?_
      refine r_pure rfl rfl ?_
      refine r_pure rfl rfl ?_
      refine r_pure rfl rfl ?_
      refine r_putI rfl ⟨rfl, by decide⟩ rfl rfl rfl (fun S15 => ?_)
      refine r_pure rfl rfl ?_
      refine r_pure rfl rfl ?_
      refine r_get rfl (en_get (b := false) (k := 2) (L := 8) ⟨rfl, by decide⟩ rfl) (fo_get (S := S15) rfl) ?_
      refine r_pure rfl rfl ?_
      refine r_pure rfl rfl ?_
      refine r_putI rfl ⟨rfl, by decide⟩ rfl rfl rfl (fun S16 => ?_)
      refine r_pure rfl rfl ?_
      exact lm_le (by omega) (hrc7 (v1 + (1 : Int32)) S16 _)
set_option maxRecDepth 100000 in
theorem rl_X4_advanceRun_L7 {e : Nat} (he : 1 ≤ e) {O : HS} {n : Nat} : ∀ (K : Nat) (v1 : Int32) (S : HS) (j2 : Option Value), Lm (oV false O) (s_X4_advanceRun_L7 K v1 S) (run (CF e) (k_X4_advanceRun false) (n + (52 * K + 23)) 7 [some (.ref 2), some (.int v1), j2] [] (en false O S)) := by
  intro K
  induction K with
  | zero =>
    intros
    exact lm_none
  | succ K ih =>
    intro v1 S j2
    rw [show n + (52 * (K + 1) + 23) = n + (52 * K + 23) + 52 by omega]
    rw [s_X4_advanceRun_L7]
    refine r_pure rfl rfl ?_
    refine r_get rfl (en_get (b := false) (k := 2) (L := 8) ⟨rfl, by decide⟩ rfl) (fo_get (S := S) rfl) ?_
    refine r_pure rfl rfl ?_
    refine r_get rfl (en_get (b := false) (k := 2) (L := 8) ⟨rfl, by decide⟩ rfl) (fo_get (S := S) rfl) ?_
    refine r_if2 rfl rfl ?_ ?_
    · exact lm_le (by omega) (rj_X4_advanceRun_J115 (n := 0) (by omega) v1 S _)
    · refine r_pure rfl rfl ?_
      refine r_getC rfl ⟨rfl, by decide⟩ rfl rfl ?_
      refine r_pure rfl rfl ?_
      refine r_get rfl (en_get (b := false) (k := 2) (L := 8) ⟨rfl, by decide⟩ rfl) (fo_get (S := S) rfl) ?_
      refine r_iald rfl (en_get (b := false) (k := 1) (L := 1) ⟨rfl, by decide⟩ rfl) (fun a7 => ?_)
      refine r_callS_I rfl (Nat.le_of_ble_eq_true rfl) (Nat.le_of_ble_eq_true rfl) (rf_X4_isLetter (by omega) a7) (fun q8 => ?_)
      refine r_if1 rfl rfl ?_ ?_
      · exact lm_le (by omega) (rj_X4_advanceRun_J48 (by omega) (s_X4_advanceRun_L7 K) v1 ih S _)
      · refine r_pure rfl rfl ?_
        refine r_getC rfl ⟨rfl, by decide⟩ rfl rfl ?_
        refine r_pure rfl rfl ?_
        refine r_get rfl (en_get (b := false) (k := 2) (L := 8) ⟨rfl, by decide⟩ rfl) (fo_get (S := S) rfl) ?_
        refine r_iald rfl (en_get (b := false) (k := 1) (L := 1) ⟨rfl, by decide⟩ rfl) (fun a17 => ?_)
        refine r_callS_I rfl (Nat.le_of_ble_eq_true rfl) (Nat.le_of_ble_eq_true rfl) (rf_X4_isDigit (by omega) a17) (fun q18 => ?_)
        refine r_if1 rfl rfl ?_ ?_
        · exact lm_le (by omega) (rj_X4_advanceRun_J115 (n := 0) (by omega) v1 S _)
        · exact lm_le (by omega) (rj_X4_advanceRun_J48 (by omega) (s_X4_advanceRun_L7 K) v1 ih S _)
set_option maxRecDepth 100000 in
theorem rf_X4_advanceRun {d : Nat} (hd : 2 ≤ d) {O : HS} (S : HS) : Lm (oV false O) (s_X4_advanceRun S) (CF d 50 [.ref 2] (en false O S)) := by
  unfold s_X4_advanceRun
  obtain ⟨e, rfl⟩ : ∃ e, d = e + 1 := ⟨d - 1, by omega⟩
  refine rm_of (lv := [some (.ref 2), none, none]) (k_X4_advanceRun false) (by omega) rfl rfl (Nat.le_of_ble_eq_true rfl) ?_
  refine lm_le (n := 39548) (by omega) ?_
  show Lm _ _ (run (CF e) _ _ _ _ _ _)
  refine r_pure rfl rfl ?_
  refine r_pure (lv' := [some (.ref 2), some (.int (0 : Int32)), none]) rfl rfl ?_
  refine r_pure rfl rfl ?_
  refine r_pure rfl rfl ?_
  refine r_putI rfl ⟨rfl, by decide⟩ rfl rfl rfl (fun S1 => ?_)
  exact lm_le (by omega) (rl_X4_advanceRun_L7 (n := 0) (by omega) 760 (0 : Int32) S1 _)
/-! X4_advance -/
def s_X4_advance_J95 (S : HS) : Option HS :=
  if (gf S 2 3) < (gf S 2 2) then
    Option.bind (rc (gr S 2 1) 1) fun _ =>
    Option.bind (ag (ga S 1) (gf S 2 3)) fun a2 =>
    if a2 ≠ (59 : Int32) then
      Option.bind (s_X4_advanceRun S) fun q3 =>
      some q3
    else
      Option.bind (pf S 2 3 ((gf S 2 3) + (1 : Int32))) fun S4 =>
      Option.bind (pf S4 2 4 (3 : Int32)) fun S5 =>
      some S5
  else
    Option.bind (pf S 2 4 (4 : Int32)) fun S6 =>
    some S6
def s_X4_advance_J52 (S : HS) : Option HS :=
  Option.bind (pf S 2 5 (gf S 2 3)) fun S1 =>
  if (gf S1 2 2) ≤ (700 : Int32) then
    s_X4_advance_J95 S1
  else
    if (gf S1 2 3) < (700 : Int32) then
      s_X4_advance_J95 S1
    else
      Option.bind (pf S1 2 5 (700 : Int32)) fun S7 =>
      Option.bind (pf S7 2 4 (0 : Int32)) fun S8 =>
      some S8
def s_X4_advance_L0 : Nat → HS → Option HS
  | 0, _ => none
  | K + 1, S =>
    if (gf S 2 2) ≤ (gf S 2 3) then
      s_X4_advance_J52 S
    else
      Option.bind (rc (gr S 2 1) 1) fun _ =>
      Option.bind (ag (ga S 1) (gf S 2 3)) fun a9 =>
      if a9 = (32 : Int32) then
        Option.bind (pf S 2 3 ((gf S 2 3) + (1 : Int32))) fun S10 =>
        s_X4_advance_L0 K S10
      else
        Option.bind (rc (gr S 2 1) 1) fun _ =>
        Option.bind (ag (ga S 1) (gf S 2 3)) fun a11 =>
        if a11 ≠ (10 : Int32) then
          s_X4_advance_J52 S
        else
          Option.bind (pf S 2 3 ((gf S 2 3) + (1 : Int32))) fun S12 =>
          s_X4_advance_L0 K S12
def s_X4_advance (S : HS) : Option HS :=
  s_X4_advance_L0 760 S
set_option maxRecDepth 100000 in
theorem rj_X4_advance_J95 {e : Nat} (he : 2 ≤ e) {O : HS} {n : Nat} (S : HS) : Lm (oV false O) (s_X4_advance_J95 S) (run (CF e) (k_X4_advance false) (n + 23) 95 [some (.ref 2)] [] (en false O S)) := by
  unfold s_X4_advance_J95
  refine r_pure rfl rfl ?_
  refine r_get rfl (en_get (b := false) (k := 2) (L := 8) ⟨rfl, by decide⟩ rfl) (fo_get (S := S) rfl) ?_
  refine r_pure rfl rfl ?_
  refine r_get rfl (en_get (b := false) (k := 2) (L := 8) ⟨rfl, by decide⟩ rfl) (fo_get (S := S) rfl) ?_
  refine r_if2 rfl rfl ?_ ?_
  · refine r_pure rfl rfl ?_
    refine r_getC rfl ⟨rfl, by decide⟩ rfl rfl ?_
    refine r_pure rfl rfl ?_
    refine r_get rfl (en_get (b := false) (k := 2) (L := 8) ⟨rfl, by decide⟩ rfl) (fo_get (S := S) rfl) ?_
    refine r_iald rfl (en_get (b := false) (k := 1) (L := 1) ⟨rfl, by decide⟩ rfl) (fun a2 => ?_)
    refine r_pure rfl rfl ?_
    refine r_if2 rfl rfl ?_ ?_
    · refine r_pure rfl rfl ?_
      refine r_callV_VW rfl rfl (en_get (b := false) (k := 2) (L := 8) ⟨rfl, by decide⟩ rfl) (Nat.le_of_ble_eq_true rfl) (rf_X4_advanceRun (by omega) S) (fun q3 => ?_)
      exact r_retV rfl rfl
    · refine r_pure rfl rfl ?_
      refine r_pure rfl rfl ?_
      refine r_get rfl (en_get (b := false) (k := 2) (L := 8) ⟨rfl, by decide⟩ rfl) (fo_get (S := S) rfl) ?_
      refine r_pure rfl rfl ?_
      refine r_pure rfl rfl ?_
      refine r_putI rfl ⟨rfl, by decide⟩ rfl rfl rfl (fun S4 => ?_)
      refine r_pure rfl rfl ?_
      refine r_pure rfl rfl ?_
      refine r_putI rfl ⟨rfl, by decide⟩ rfl rfl rfl (fun S5 => ?_)
      refine r_pure rfl rfl ?_
      exact r_retV rfl rfl
  · refine r_pure rfl rfl ?_
    refine r_pure rfl rfl ?_
    refine r_putI rfl ⟨rfl, by decide⟩ rfl rfl rfl (fun S6 => ?_)
    refine r_pure rfl rfl ?_
    exact r_retV rfl rfl
set_option maxRecDepth 100000 in
theorem rj_X4_advance_J52 {e : Nat} (he : 2 ≤ e) {O : HS} {n : Nat} (S : HS) : Lm (oV false O) (s_X4_advance_J52 S) (run (CF e) (k_X4_advance false) (n + 35) 52 [some (.ref 2)] [] (en false O S)) := by
  unfold s_X4_advance_J52
  refine r_pure rfl rfl ?_
  refine r_pure rfl rfl ?_
  refine r_get rfl (en_get (b := false) (k := 2) (L := 8) ⟨rfl, by decide⟩ rfl) (fo_get (S := S) rfl) ?_
  refine r_putI rfl ⟨rfl, by decide⟩ rfl rfl rfl (fun S1 => ?_)
  refine r_pure rfl rfl ?_
  refine r_get rfl (en_get (b := false) (k := 2) (L := 8) ⟨rfl, by decide⟩ rfl) (fo_get (S := S1) rfl) ?_
  refine r_pure rfl rfl ?_
  refine r_if2 rfl rfl ?_ ?_
  · exact lm_le (by omega) (rj_X4_advance_J95 (n := 0) (by omega) S1)
  · refine r_pure rfl rfl ?_
    refine r_get rfl (en_get (b := false) (k := 2) (L := 8) ⟨rfl, by decide⟩ rfl) (fo_get (S := S1) rfl) ?_
    refine r_pure rfl rfl ?_
    refine r_if2 rfl rfl ?_ ?_
    · exact lm_le (by omega) (rj_X4_advance_J95 (n := 0) (by omega) S1)
    · refine r_pure rfl rfl ?_
      refine r_pure rfl rfl ?_
      refine r_putI rfl ⟨rfl, by decide⟩ rfl rfl rfl (fun S7 => ?_)
      refine r_pure rfl rfl ?_
      refine r_pure rfl rfl ?_
      refine r_putI rfl ⟨rfl, by decide⟩ rfl rfl rfl (fun S8 => ?_)
      refine r_pure rfl rfl ?_
      exact r_retV rfl rfl
set_option maxRecDepth 100000 in
theorem rl_X4_advance_L0 {e : Nat} (he : 2 ≤ e) {O : HS} {n : Nat} : ∀ (K : Nat) (S : HS), Lm (oV false O) (s_X4_advance_L0 K S) (run (CF e) (k_X4_advance false) (n + (26 * K + 35)) 0 [some (.ref 2)] [] (en false O S)) := by
  intro K
  induction K with
  | zero =>
    intros
    exact lm_none
  | succ K ih =>
    intro S
    rw [show n + (26 * (K + 1) + 35) = n + (26 * K + 35) + 26 by omega]
    rw [s_X4_advance_L0]
    refine r_pure rfl rfl ?_
    refine r_get rfl (en_get (b := false) (k := 2) (L := 8) ⟨rfl, by decide⟩ rfl) (fo_get (S := S) rfl) ?_
    refine r_pure rfl rfl ?_
    refine r_get rfl (en_get (b := false) (k := 2) (L := 8) ⟨rfl, by decide⟩ rfl) (fo_get (S := S) rfl) ?_
    refine r_if2 rfl rfl ?_ ?_
    · exact lm_le (by omega) (rj_X4_advance_J52 (n := 0) (by omega) S)
    · refine r_pure rfl rfl ?_
      refine r_getC rfl ⟨rfl, by decide⟩ rfl rfl ?_
      refine r_pure rfl rfl ?_
      refine r_get rfl (en_get (b := false) (k := 2) (L := 8) ⟨rfl, by decide⟩ rfl) (fo_get (S := S) rfl) ?_
      refine r_iald rfl (en_get (b := false) (k := 1) (L := 1) ⟨rfl, by decide⟩ rfl) (fun a9 => ?_)
      refine r_pure rfl rfl ?_
      refine r_if2 rfl rfl ?_ ?_
      · refine r_pure rfl rfl ?_
        refine r_pure rfl rfl ?_
        refine r_get rfl (en_get (b := false) (k := 2) (L := 8) ⟨rfl, by decide⟩ rfl) (fo_get (S := S) rfl) ?_
        refine r_pure rfl rfl ?_
        refine r_pure rfl rfl ?_
        refine r_putI rfl ⟨rfl, by decide⟩ rfl rfl rfl (fun S10 => ?_)
        refine r_pure rfl rfl ?_
        exact lm_le (by omega) (ih S10)
      · refine r_pure rfl rfl ?_
        refine r_getC rfl ⟨rfl, by decide⟩ rfl rfl ?_
        refine r_pure rfl rfl ?_
        refine r_get rfl (en_get (b := false) (k := 2) (L := 8) ⟨rfl, by decide⟩ rfl) (fo_get (S := S) rfl) ?_
        refine r_iald rfl (en_get (b := false) (k := 1) (L := 1) ⟨rfl, by decide⟩ rfl) (fun a11 => ?_)
        refine r_pure rfl rfl ?_
        refine r_if2 rfl rfl ?_ ?_
        · exact lm_le (by omega) (rj_X4_advance_J52 (n := 0) (by omega) S)
        · refine r_pure rfl rfl ?_
          refine r_pure rfl rfl ?_
          refine r_get rfl (en_get (b := false) (k := 2) (L := 8) ⟨rfl, by decide⟩ rfl) (fo_get (S := S) rfl) ?_
          refine r_pure rfl rfl ?_
          refine r_pure rfl rfl ?_
          refine r_putI rfl ⟨rfl, by decide⟩ rfl rfl rfl (fun S12 => ?_)
          refine r_pure rfl rfl ?_
          exact lm_le (by omega) (ih S12)
set_option maxRecDepth 100000 in
theorem rf_X4_advance {d : Nat} (hd : 3 ≤ d) {O : HS} (S : HS) : Lm (oV false O) (s_X4_advance S) (CF d 49 [.ref 2] (en false O S)) := by
  unfold s_X4_advance
  obtain ⟨e, rfl⟩ : ∃ e, d = e + 1 := ⟨d - 1, by omega⟩
  refine rm_of (lv := [some (.ref 2)]) (k_X4_advance false) (by omega) rfl rfl (Nat.le_of_ble_eq_true rfl) ?_
  refine lm_le (n := 19795) (by omega) ?_
  show Lm _ _ (run (CF e) _ _ _ _ _ _)
  exact lm_le (by omega) (rl_X4_advance_L0 (n := 0) (by omega) 760 S)
/-! X4_isWord -/
def s_X4_isWord_L28 (u : UInt32) (S : HS) : Nat → Int32 → Option Int32
  | 0, _ => none
  | K + 1, v2 =>
    Option.bind (sLen u) fun a2 =>
    if a2 ≤ v2 then
      some (1 : Int32)
    else
      Option.bind (rc (gr S 2 1) 1) fun _ =>
      Option.bind (ag (ga S 1) ((gf S 2 5) + v2)) fun a3 =>
      Option.bind (sAt u v2) fun a4 =>
      if a3 = a4 then
        s_X4_isWord_L28 u S K (v2 + (1 : Int32))
      else
        some (0 : Int32)
def s_X4_isWord (u : UInt32) (S : HS) : Option Int32 :=
  if (gf S 2 4) ≠ (1 : Int32) then
    some (0 : Int32)
  else
    Option.bind (sLen u) fun a1 =>
    if ((gf S 2 3) - (gf S 2 5)) = a1 then
      s_X4_isWord_L28 u S 40 (0 : Int32)
    else
      some (0 : Int32)
set_option maxRecDepth 100000 in
theorem rl_X4_isWord_L28 {e : Nat} (he : 5 ≤ e) {O : HS} (u : UInt32) (hu : u.toNat < 8) (S : HS) {n : Nat} : ∀ (K : Nat) (v2 : Int32), Lm (oI (en false O S)) (s_X4_isWord_L28 u S K v2) (run (CF e) (k_X4_isWord false) (n + (17 * K + 0)) 28 [some (.ref 2), some (.float u), some (.int v2)] [] (en false O S)) := by
  intro K
  induction K with
  | zero =>
    intros
    exact lm_none
  | succ K ih =>
    intro v2
    rw [show n + (17 * (K + 1) + 0) = n + (17 * K + 0) + 17 by omega]
    rw [s_X4_isWord_L28]
    refine r_pure rfl rfl ?_
    refine r_pure rfl rfl ?_
    refine r_callT_I rfl rfl hu (Nat.le_of_ble_eq_true rfl) (str_len (by omega) hu) (fun a2 => ?_)
    refine r_if2 rfl rfl ?_ ?_
    · refine r_pure rfl rfl ?_
      exact r_retZ rfl (Or.inr rfl) rfl
    · refine r_pure rfl rfl ?_
      refine r_getC rfl ⟨rfl, by decide⟩ rfl rfl ?_
      refine r_pure rfl rfl ?_
      refine r_get rfl (en_get (b := false) (k := 2) (L := 8) ⟨rfl, by decide⟩ rfl) (fo_get (S := S) rfl) ?_
      refine r_pure rfl rfl ?_
      refine r_pure rfl rfl ?_
      refine r_iald rfl (en_get (b := false) (k := 1) (L := 1) ⟨rfl, by decide⟩ rfl) (fun a3 => ?_)
      refine r_pure rfl rfl ?_
      refine r_pure rfl rfl ?_
      refine r_callT_I rfl rfl hu (Nat.le_of_ble_eq_true rfl) (str_at (by omega) hu) (fun a4 => ?_)
      refine r_if2 rfl rfl ?_ ?_
      · refine r_pure (lv' := [some (.ref 2), some (.float u), some (.int (v2 + (1 : Int32)))]) rfl rfl ?_
        refine r_pure rfl rfl ?_
        exact lm_le (by omega) (ih (v2 + (1 : Int32)))
      · refine r_pure rfl rfl ?_
        exact r_retZ rfl (Or.inl rfl) rfl
set_option maxRecDepth 100000 in
theorem rf_X4_isWord {d : Nat} (hd : 6 ≤ d) {O : HS} (u : UInt32) (hu : u.toNat < 8) (S : HS) : Lm (oI (en false O S)) (s_X4_isWord u S) (CF d 48 [.ref 2, .float u] (en false O S)) := by
  unfold s_X4_isWord
  obtain ⟨e, rfl⟩ : ∃ e, d = e + 1 := ⟨d - 1, by omega⟩
  refine rm_of (lv := [some (.ref 2), some (.float u), none]) (k_X4_isWord false) (by omega) rfl rfl (Nat.le_of_ble_eq_true rfl) ?_
  refine lm_le (n := 694) (by omega) ?_
  show Lm _ _ (run (CF e) _ _ _ _ _ _)
  refine r_pure rfl rfl ?_
  refine r_get rfl (en_get (b := false) (k := 2) (L := 8) ⟨rfl, by decide⟩ rfl) (fo_get (S := S) rfl) ?_
  refine r_pure rfl rfl ?_
  refine r_if2 rfl rfl ?_ ?_
  · refine r_pure rfl rfl ?_
    exact r_retZ rfl (Or.inl rfl) rfl
  · refine r_pure rfl rfl ?_
    refine r_get rfl (en_get (b := false) (k := 2) (L := 8) ⟨rfl, by decide⟩ rfl) (fo_get (S := S) rfl) ?_
    refine r_pure rfl rfl ?_
    refine r_get rfl (en_get (b := false) (k := 2) (L := 8) ⟨rfl, by decide⟩ rfl) (fo_get (S := S) rfl) ?_
    refine r_pure rfl rfl ?_
    refine r_pure rfl rfl ?_
    refine r_callT_I rfl rfl hu (Nat.le_of_ble_eq_true rfl) (str_len (by omega) hu) (fun a1 => ?_)
    refine r_if2 rfl rfl ?_ ?_
    · refine r_pure rfl rfl ?_
      refine r_pure (lv' := [some (.ref 2), some (.float u), some (.int (0 : Int32))]) rfl rfl ?_
      exact lm_le (by omega) (rl_X4_isWord_L28 (n := 0) (by omega) u hu S 40 (0 : Int32))
    · refine r_pure rfl rfl ?_
      exact r_retZ rfl (Or.inl rfl) rfl
/-! X4_refuse -/
def s_X4_refuse (v1 : Int32) (S : HS) : Option (Int32 × HS) :=
  Option.bind (pf S 2 9 v1) fun S1 =>
  Option.bind (pf S1 2 10 (gf S1 2 5)) fun S2 =>
  some ((0 : Int32), S2)
set_option maxRecDepth 100000 in
theorem rf_X4_refuse {d : Nat} (hd : 1 ≤ d) {O : HS} (v1 : Int32) (S : HS) : Lm (oIW false O) (s_X4_refuse v1 S) (CF d 37 [.ref 2, .int v1] (en false O S)) := by
  unfold s_X4_refuse
  obtain ⟨e, rfl⟩ : ∃ e, d = e + 1 := ⟨d - 1, by omega⟩
  refine rm_of (lv := [some (.ref 2), some (.int v1)]) (k_X4_refuse false) (by omega) rfl rfl (Nat.le_of_ble_eq_true rfl) ?_
  refine lm_le (n := 9) (by omega) ?_
  show Lm _ _ (run (CF e) _ _ _ _ _ _)
  refine r_pure rfl rfl ?_
  refine r_pure rfl rfl ?_
  refine r_putI rfl ⟨rfl, by decide⟩ rfl rfl rfl (fun S1 => ?_)
  refine r_pure rfl rfl ?_
  refine r_pure rfl rfl ?_
  refine r_get rfl (en_get (b := false) (k := 2) (L := 8) ⟨rfl, by decide⟩ rfl) (fo_get (S := S1) rfl) ?_
  refine r_putI rfl ⟨rfl, by decide⟩ rfl rfl rfl (fun S2 => ?_)
  refine r_pure rfl rfl ?_
  exact r_retZ rfl (Or.inl rfl) rfl
/-! X4_readNumber -/
def s_X4_readNumber_J34 (S : HS) : Option (Int32 × HS) :=
  Option.bind (s_X4_refuse (2 : Int32) S) fun q2 =>
  if q2.1 = (0 : Int32) then
    some ((0 : Int32), q2.2)
  else
    some ((1 : Int32), q2.2)
def s_X4_readNumber (v1 : Int32) (v2 : Int32) (S : HS) : Option (Int32 × HS) :=
  Option.bind (s_X4_advance S) fun q1 =>
  if (gf q1 2 4) = (2 : Int32) then
    if (gf q1 2 6) < v1 then
      s_X4_readNumber_J34 q1
    else
      if (gf q1 2 6) ≤ v2 then
        some ((1 : Int32), q1)
      else
        s_X4_readNumber_J34 q1
  else
    Option.bind (s_X4_refuse (1 : Int32) q1) fun q3 =>
    Option.bind (gz q3.1) fun _ =>
    some (q3.1, q3.2)
set_option maxRecDepth 100000 in
theorem rj_X4_readNumber_J34 {e : Nat} (he : 3 ≤ e) {O : HS} {n : Nat} (S : HS) (j1 : Option Value) (j2 : Option Value) : Lm (oIW false O) (s_X4_readNumber_J34 S) (run (CF e) (k_X4_readNumber false) (n + 7) 34 [some (.ref 2), j1, j2] [] (en false O S)) := by
  unfold s_X4_readNumber_J34
  refine r_pure rfl rfl ?_
  refine r_pure rfl rfl ?_
  refine r_callV_IW rfl rfl (en_get (b := false) (k := 2) (L := 8) ⟨rfl, by decide⟩ rfl) (Nat.le_of_ble_eq_true rfl) (rf_X4_refuse (by omega) (2 : Int32) S) (fun q2 => ?_)
  refine r_if1 rfl rfl ?_ ?_
  · refine r_pure rfl rfl ?_
    exact r_retZ rfl (Or.inl rfl) rfl
  · refine r_pure rfl rfl ?_
    refine r_pure rfl rfl ?_
    exact r_retZ rfl (Or.inr rfl) rfl
set_option maxRecDepth 100000 in
theorem rf_X4_readNumber {d : Nat} (hd : 4 ≤ d) {O : HS} (v1 : Int32) (v2 : Int32) (S : HS) : Lm (oIW false O) (s_X4_readNumber v1 v2 S) (CF d 47 [.ref 2, .int v1, .int v2] (en false O S)) := by
  unfold s_X4_readNumber
  obtain ⟨e, rfl⟩ : ∃ e, d = e + 1 := ⟨d - 1, by omega⟩
  refine rm_of (lv := [some (.ref 2), some (.int v1), some (.int v2)]) (k_X4_readNumber false) (by omega) rfl rfl (Nat.le_of_ble_eq_true rfl) ?_
  refine lm_le (n := 21) (by omega) ?_
  show Lm _ _ (run (CF e) _ _ _ _ _ _)
  refine r_pure rfl rfl ?_
  refine r_callV_VW rfl rfl (en_get (b := false) (k := 2) (L := 8) ⟨rfl, by decide⟩ rfl) (Nat.le_of_ble_eq_true rfl) (rf_X4_advance (by omega) S) (fun q1 => ?_)
  refine r_pure rfl rfl ?_
  refine r_get rfl (en_get (b := false) (k := 2) (L := 8) ⟨rfl, by decide⟩ rfl) (fo_get (S := q1) rfl) ?_
  refine r_pure rfl rfl ?_
  refine r_if2 rfl rfl ?_ ?_
  · refine r_pure rfl rfl ?_
    refine r_get rfl (en_get (b := false) (k := 2) (L := 8) ⟨rfl, by decide⟩ rfl) (fo_get (S := q1) rfl) ?_
    refine r_pure rfl rfl ?_
    refine r_if2 rfl rfl ?_ ?_
    · exact lm_le (by omega) (rj_X4_readNumber_J34 (n := 0) (by omega) q1 _ _)
    · refine r_pure rfl rfl ?_
      refine r_get rfl (en_get (b := false) (k := 2) (L := 8) ⟨rfl, by decide⟩ rfl) (fo_get (S := q1) rfl) ?_
      refine r_pure rfl rfl ?_
      refine r_if2 rfl rfl ?_ ?_
      · refine r_pure rfl rfl ?_
        refine r_pure rfl rfl ?_
        exact r_retZ rfl (Or.inr rfl) rfl
      · exact lm_le (by omega) (rj_X4_readNumber_J34 (n := 0) (by omega) q1 _ _)
  · refine r_pure rfl rfl ?_
    refine r_pure rfl rfl ?_
    refine r_callV_IW rfl rfl (en_get (b := false) (k := 2) (L := 8) ⟨rfl, by decide⟩ rfl) (Nat.le_of_ble_eq_true rfl) (rf_X4_refuse (by omega) (1 : Int32) q1) (fun q3 => ?_)
    exact r_retG rfl rfl rfl
/-! X4_readTanker -/
def s_X4_readTanker_J47 (rc17 : Int32 → HS → Option (Int32 × HS)) (v1 : Int32) (x0 : Int32) (S : HS) : Option (Int32 × HS) :=
  Option.bind (tb 1 v1) fun a3 =>
  Option.bind (s_X4_readNumber x0 a3 S) fun q4 =>
  if q4.1 ≠ (0 : Int32) then
    Option.bind (tl (gr q4.2 2 7)) fun t5 =>
    Option.bind (wa q4.2 (t5 + 1) v1 (gf q4.2 2 6)) fun S6 =>
    rc17 (v1 + (1 : Int32)) S6
  else
    some ((0 : Int32), q4.2)
def s_X4_readTanker_L17 : Nat → Int32 → HS → Option (Int32 × HS)
  | 0, _, _ => none
  | K + 1, v1, S =>
    if (9 : Int32) ≤ v1 then
      some ((1 : Int32), S)
    else
      if v1 ≠ (8 : Int32) then
        Option.bind (tb 0 v1) fun a2 =>
        s_X4_readTanker_J47 (s_X4_readTanker_L17 K) v1 a2 S
      else
        Option.bind (tl (gr S 2 7)) fun t7 =>
        Option.bind (ag (ga S (t7 + 1)) (7 : Int32)) fun a8 =>
        s_X4_readTanker_J47 (s_X4_readTanker_L17 K) v1 a8 S
def s_X4_readTanker (S : HS) : Option (Int32 × HS) :=
  Option.bind (s_X4_isWord 0 S) fun q1 =>
  if q1 ≠ (0 : Int32) then
    s_X4_readTanker_L17 40 (0 : Int32) S
  else
    Option.bind (s_X4_refuse (1 : Int32) S) fun q9 =>
    Option.bind (gz q9.1) fun _ =>
    some (q9.1, q9.2)
set_option maxRecDepth 100000 in
theorem rj_X4_readTanker_J47 {e : Nat} (he : 6 ≤ e) {O : HS} (rc17 : Int32 → HS → Option (Int32 × HS)) (v1 : Int32) (x0 : Int32) {n : Nat} (hrc17 : ∀ (v1 : Int32) (S : HS) (j2 : Option Value), Lm (oIW false O) (rc17 v1 S) (run (CF e) (k_X4_readTanker false) n 17 [some (.ref 2), some (.int v1), j2] [] (en false O S))) (S : HS) (j2 : Option Value) : Lm (oIW false O) (s_X4_readTanker_J47 rc17 v1 x0 S) (run (CF e) (k_X4_readTanker false) (n + 17) 47 [some (.ref 2), some (.int v1), j2] [.int x0] (en false O S)) := by
  unfold s_X4_readTanker_J47
  refine r_pure (lv' := [some (.ref 2), some (.int v1), some (.int x0)]) rfl rfl ?_
  refine r_pure rfl rfl ?_
  refine r_pure rfl rfl ?_
  refine r_sp rfl rfl ?_
  refine r_pure rfl rfl ?_
  refine r_tab (j := 1) rfl (by decide) (by decide) (fun a3 => ?_)
  refine r_callV_IW rfl rfl (en_get (b := false) (k := 2) (L := 8) ⟨rfl, by decide⟩ rfl) (Nat.le_of_ble_eq_true rfl) (rf_X4_readNumber (by omega) x0 a3 S) (fun q4 => ?_)
  refine r_if1 rfl rfl ?_ ?_
  · refine r_pure rfl rfl ?_
    refine r_getT rfl ⟨rfl, by decide⟩ rfl rfl (fun t5 ht5 => ?_)
    refine r_get rfl (en_get (b := false) (k := t5) (L := 10) (zT0 ht5) (lT0 ht5)) (fo_get (S := q4.2) rfl) ?_
    refine r_pure rfl rfl ?_
    refine r_pure rfl rfl ?_
    refine r_get rfl (en_get (b := false) (k := 2) (L := 8) ⟨rfl, by decide⟩ rfl) (fo_get (S := q4.2) rfl) ?_
    refine r_iastI rfl (zT1 ht5) (lT1 ht5) (fun S6 => ?_)
    refine r_pure (lv' := [some (.ref 2), some (.int (v1 + (1 : Int32))), some (.int x0)]) rfl rfl ?_
    refine r_pure rfl rfl ?_
    exact lm_le (by omega) (hrc17 (v1 + (1 : Int32)) S6 _)
  · refine r_pure rfl rfl ?_
    exact r_retZ rfl (Or.inl rfl) rfl
set_option maxRecDepth 100000 in
theorem rl_X4_readTanker_L17 {e : Nat} (he : 6 ≤ e) {O : HS} {n : Nat} : ∀ (K : Nat) (v1 : Int32) (S : HS) (j2 : Option Value), Lm (oIW false O) (s_X4_readTanker_L17 K v1 S) (run (CF e) (k_X4_readTanker false) (n + (29 * K + 0)) 17 [some (.ref 2), some (.int v1), j2] [] (en false O S)) := by
  intro K
  induction K with
  | zero =>
    intros
    exact lm_none
  | succ K ih =>
    intro v1 S j2
    rw [show n + (29 * (K + 1) + 0) = n + (29 * K + 0) + 29 by omega]
    rw [s_X4_readTanker_L17]
    refine r_pure rfl rfl ?_
    refine r_pure rfl rfl ?_
    refine r_if2 rfl rfl ?_ ?_
    · refine r_pure rfl rfl ?_
      exact r_retZ rfl (Or.inr rfl) rfl
    · refine r_pure rfl rfl ?_
      refine r_pure rfl rfl ?_
      refine r_if2 rfl rfl ?_ ?_
      · refine r_sp rfl rfl ?_
        refine r_pure rfl rfl ?_
        refine r_tab (j := 0) rfl (by decide) (by decide) (fun a2 => ?_)
        exact lm_le (by omega) (rj_X4_readTanker_J47 (by omega) (s_X4_readTanker_L17 K) v1 a2 ih S _)
      · refine r_pure rfl rfl ?_
        refine r_getT rfl ⟨rfl, by decide⟩ rfl rfl (fun t7 ht7 => ?_)
        refine r_get rfl (en_get (b := false) (k := t7) (L := 10) (zT0 ht7) (lT0 ht7)) (fo_get (S := S) rfl) ?_
        refine r_pure rfl rfl ?_
        refine r_iald rfl (en_get (b := false) (k := (t7 + 1)) (L := 0) (zT1 ht7) (lT1 ht7)) (fun a8 => ?_)
        refine r_pure rfl rfl ?_
        exact lm_le (by omega) (rj_X4_readTanker_J47 (by omega) (s_X4_readTanker_L17 K) v1 a8 ih S _)
set_option maxRecDepth 100000 in
theorem rf_X4_readTanker {d : Nat} (hd : 7 ≤ d) {O : HS} (S : HS) : Lm (oIW false O) (s_X4_readTanker S) (CF d 39 [.ref 2] (en false O S)) := by
  unfold s_X4_readTanker
  obtain ⟨e, rfl⟩ : ∃ e, d = e + 1 := ⟨d - 1, by omega⟩
  refine rm_of (lv := [some (.ref 2), none, none]) (k_X4_readTanker false) (by omega) rfl rfl (Nat.le_of_ble_eq_true rfl) ?_
  refine lm_le (n := 1166) (by omega) ?_
  show Lm _ _ (run (CF e) _ _ _ _ _ _)
  refine r_pure rfl rfl ?_
  refine r_sp rfl rfl ?_
  refine r_callV_I rfl rfl (en_get (b := false) (k := 2) (L := 8) ⟨rfl, by decide⟩ rfl) (Nat.le_of_ble_eq_true rfl) (rf_X4_isWord (by omega) 0 (by decide) S) (fun q1 => ?_)
  refine r_if1 rfl rfl ?_ ?_
  · refine r_pure rfl rfl ?_
    refine r_pure (lv' := [some (.ref 2), some (.int (0 : Int32)), none]) rfl rfl ?_
    exact lm_le (by omega) (rl_X4_readTanker_L17 (n := 0) (by omega) 40 (0 : Int32) S _)
  · refine r_pure rfl rfl ?_
    refine r_pure rfl rfl ?_
    refine r_callV_IW rfl rfl (en_get (b := false) (k := 2) (L := 8) ⟨rfl, by decide⟩ rfl) (Nat.le_of_ble_eq_true rfl) (rf_X4_refuse (by omega) (1 : Int32) S) (fun q9 => ?_)
    exact r_retG rfl rfl rfl
