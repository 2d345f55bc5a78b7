/-! X8_four -/
def s_X8_four (v0 : Int32) (v1 : Int32) (v2 : Int32) (v3 : Int32) : Option Int64 :=
  Option.bind (s_X8_three v0 v1 v2) fun q1 =>
  some ((((27 : Int64) * q1) + v3.toInt64) - (96 : Int64))
set_option maxRecDepth 100000 in
theorem rf_X8_four {d : Nat} (hd : 2 ≤ d) {hh : List AC} (v0 : Int32) (v1 : Int32) (v2 : Int32) (v3 : Int32) : Lm (oJ hh) (s_X8_four v0 v1 v2 v3) (CF d 105 [.int v0, .int v1, .int v2, .int v3] hh) := by
  unfold s_X8_four
  obtain ⟨e, rfl⟩ : ∃ e, d = e + 1 := ⟨d - 1, by omega⟩
  refine rm_of (lv := [some (.int v0), some (.int v1), some (.int v2), some (.int v3)]) (k_X8_four false) (by omega) rfl rfl (Nat.le_of_ble_eq_true rfl) ?_
  refine lm_le (n := 12) (by omega) ?_
  show Lm _ _ (run (CF e) _ _ _ _ _ _)
  refine r_pure rfl rfl ?_
  refine r_pure rfl rfl ?_
  refine r_pure rfl rfl ?_
  refine r_pure rfl rfl ?_
  refine r_callS_J rfl (Nat.le_of_ble_eq_true rfl) (Nat.le_of_ble_eq_true rfl) (rf_X8_three (by omega) v0 v1 v2) (fun q1 => ?_)
  refine r_pure rfl rfl ?_
  refine r_pure rfl rfl ?_
  refine r_pure rfl rfl ?_
  refine r_pure rfl rfl ?_
  refine r_pure rfl rfl ?_
  refine r_pure rfl rfl ?_
  exact r_retJ rfl rfl
/-! X8_readHold -/
def s_X8_readHold_J136 (x1 : Int32) (x2 : Int32) (S : HS) : Option (Int32 × HS) :=
  Option.bind (wa S 140 x1 x2) fun S8 =>
  Option.bind (s_X8_go S8) fun q9 =>
  Option.bind (ag (ga q9 140) (9 : Int32)) fun a10 =>
  Option.bind (wa q9 140 (9 : Int32) (a10 + (1 : Int32))) fun S11 =>
  some ((1 : Int32), S11)
def s_X8_readHold_J120 (v1 : Int32) (v2 : Int32) (S : HS) : Option (Int32 × HS) :=
  if v2 = (0 : Int32) then
    s_X8_readHold_J136 (v1 + (2 : Int32)) (0 : Int32) S
  else
    s_X8_readHold_J136 (v1 + (2 : Int32)) (1 : Int32) S
def s_X8_readHold (S : HS) : Option (Int32 × HS) :=
  Option.bind (ag (ga S 140) (9 : Int32)) fun a1 =>
  if a1 ≠ (5 : Int32) then
    Option.bind (s_X8_go S) fun q2 =>
    Option.bind (ag (ga q2 140) (9 : Int32)) fun a3 =>
    Option.bind (s_X8_told (((27 : Int32) + ((6 : Int32) * a3)) + (0 : Int32)) (1 : Int32) (999 : Int32) q2) fun q4 =>
    if q4.1 = (0 : Int32) then
      some ((0 : Int32), q4.2)
    else
      Option.bind (s_X8_told (((27 : Int32) + ((6 : Int32) * a3)) + (1 : Int32)) (0 : Int32) (99 : Int32) q4.2) fun q5 =>
      if q5.1 ≠ (0 : Int32) then
        Option.bind (s_X8_four (111 : Int32) (112 : Int32) (101 : Int32) (110 : Int32)) fun q6 =>
        Option.bind (s_X8_isWord q6 q5.2) fun q7 =>
        if q7 ≠ (0 : Int32) then
          s_X8_readHold_J120 ((27 : Int32) + ((6 : Int32) * a3)) q7 q5.2
        else
          Option.bind (s_X8_six (98 : Int32) (97 : Int32) (102 : Int32) (102 : Int32) (108 : Int32) (101 : Int32)) fun q12 =>
          Option.bind (s_X8_isWord (((27 : Int64) * q12) + (4 : Int64)) q5.2) fun q13 =>
          if q13 ≠ (0 : Int32) then
            s_X8_readHold_J120 ((27 : Int32) + ((6 : Int32) * a3)) q7 q5.2
          else
            Option.bind (s_X8_bad (1 : Int32) q5.2) fun q14 =>
            Option.bind (gz q14.1) fun _ =>
            some (q14.1, q14.2)
      else
        some ((0 : Int32), q5.2)
  else
    Option.bind (s_X8_bad (3 : Int32) S) fun q15 =>
    Option.bind (gz q15.1) fun _ =>
    some (q15.1, q15.2)
set_option maxRecDepth 100000 in
theorem rj_X8_readHold_J136 {e : Nat} (he : 3 ≤ e) {O : HS} (x1 : Int32) (x2 : Int32) {n : Nat} (S : HS) (j1 : Option Value) (j2 : Option Value) : Lm (oIW true O) (s_X8_readHold_J136 x1 x2 S) (run (CF e) (k_X8_readHold false) (n + 13) 136 [some (.ref 137), j1, j2] [.int x2, .int x1, .ref 140] (en true O S)) := by
  unfold s_X8_readHold_J136
  refine r_iastI rfl ⟨rfl, by decide⟩ rfl (fun S8 => ?_)
  refine r_pure rfl rfl ?_
  refine r_callV_VW rfl rfl (en_get (b := true) (k := 137) (L := 12) ⟨rfl, by decide⟩ rfl) (Nat.le_of_ble_eq_true rfl) (rf_X8_go (by omega) S8) (fun q9 => ?_)
  refine r_pure rfl rfl ?_
  refine r_get rfl (en_get (b := true) (k := 137) (L := 12) ⟨rfl, by decide⟩ rfl) (fo_get (S := q9) rfl) ?_
  refine r_pure rfl rfl ?_
  refine r_pure rfl rfl ?_
  refine r_iald rfl (en_get (b := true) (k := 140) (L := 0) ⟨rfl, by decide⟩ rfl) (fun a10 => ?_)
  refine r_pure rfl rfl ?_
  refine r_pure rfl rfl ?_
  refine r_iastI rfl ⟨rfl, by decide⟩ rfl (fun S11 => ?_)
  refine r_pure rfl rfl ?_
  exact r_retZ rfl (Or.inr rfl) rfl
set_option maxRecDepth 100000 in
theorem rj_X8_readHold_J120 {e : Nat} (he : 3 ≤ e) {O : HS} (v1 : Int32) (v2 : Int32) {n : Nat} (S : HS) : Lm (oIW true O) (s_X8_readHold_J120 v1 v2 S) (run (CF e) (k_X8_readHold false) (n + 22) 120 [some (.ref 137), some (.int v1), some (.int v2)] [] (en true O S)) := by
  unfold s_X8_readHold_J120
  refine r_pure rfl rfl ?_
  refine r_get rfl (en_get (b := true) (k := 137) (L := 12) ⟨rfl, by decide⟩ rfl) (fo_get (S := S) rfl) ?_
  refine r_pure rfl rfl ?_
  refine r_pure rfl rfl ?_
  refine r_pure rfl rfl ?_
  refine r_pure rfl rfl ?_
  refine r_if1 rfl rfl ?_ ?_
  · refine r_pure rfl rfl ?_
    exact lm_le (by omega) (rj_X8_readHold_J136 (n := 0) (by omega) (v1 + (2 : Int32)) (0 : Int32) S _ _)
  · refine r_pure rfl rfl ?_
    refine r_pure rfl rfl ?_
    exact lm_le (by omega) (rj_X8_readHold_J136 (n := 0) (by omega) (v1 + (2 : Int32)) (1 : Int32) S _ _)
set_option maxRecDepth 100000 in
theorem rf_X8_readHold {d : Nat} (hd : 4 ≤ d) {O : HS} (S : HS) : Lm (oIW true O) (s_X8_readHold S) (CF d 112 [.ref 137] (en true O S)) := by
  unfold s_X8_readHold
  obtain ⟨e, rfl⟩ : ∃ e, d = e + 1 := ⟨d - 1, by omega⟩
  refine rm_of (lv := [some (.ref 137), none, none]) (k_X8_readHold false) (by omega) rfl rfl (Nat.le_of_ble_eq_true rfl) ?_
  refine lm_le (n := 79) (by omega) ?_
  show Lm _ _ (run (CF e) _ _ _ _ _ _)
  refine r_pure rfl rfl ?_
  refine r_get rfl (en_get (b := true) (k := 137) (L := 12) ⟨rfl, by decide⟩ rfl) (fo_get (S := S) rfl) ?_
  refine r_pure rfl rfl ?_
  refine r_iald rfl (en_get (b := true) (k := 140) (L := 0) ⟨rfl, by decide⟩ rfl) (fun a1 => ?_)
  refine r_pure rfl rfl ?_
  refine r_if2 rfl rfl ?_ ?_
  · refine r_pure rfl rfl ?_
    refine r_callV_VW rfl rfl (en_get (b := true) (k := 137) (L := 12) ⟨rfl, by decide⟩ rfl) (Nat.le_of_ble_eq_true rfl) (rf_X8_go (by omega) S) (fun q2 => ?_)
    refine r_pure rfl rfl ?_
    refine r_pure rfl rfl ?_
    refine r_pure rfl rfl ?_
    refine r_get rfl (en_get (b := true) (k := 137) (L := 12) ⟨rfl, by decide⟩ rfl) (fo_get (S := q2) rfl) ?_
    refine r_pure rfl rfl ?_
    refine r_iald rfl (en_get (b := true) (k := 140) (L := 0) ⟨rfl, by decide⟩ rfl) (fun a3 => ?_)
    refine r_pure rfl rfl ?_
    refine r_pure rfl rfl ?_
    refine r_pure (lv' := [some (.ref 137), some (.int ((27 : Int32) + ((6 : Int32) * a3))), none]) rfl rfl ?_
    refine r_pure rfl rfl ?_
    refine r_pure rfl rfl ?_
    refine r_pure rfl rfl ?_
    refine r_pure rfl rfl ?_
    refine r_pure rfl rfl ?_
    refine r_pure rfl rfl ?_
    refine r_callV_IW rfl rfl (en_get (b := true) (k := 137) (L := 12) ⟨rfl, by decide⟩ rfl) (Nat.le_of_ble_eq_true rfl) (rf_X8_told (by omega) (((27 : Int32) + ((6 : Int32) * a3)) + (0 : Int32)) (1 : Int32) (999 : Int32) q2) (fun q4 => ?_)
    refine r_if1 rfl rfl ?_ ?_
    · refine r_pure rfl rfl ?_
      exact r_retZ rfl (Or.inl rfl) rfl
    · refine r_pure rfl rfl ?_
      refine r_pure rfl rfl ?_
      refine r_pure rfl rfl ?_
      refine r_pure rfl rfl ?_
      refine r_pure rfl rfl ?_
      refine r_pure rfl rfl ?_
      refine r_callV_IW rfl rfl (en_get (b := true) (k := 137) (L := 12) ⟨rfl, by decide⟩ rfl) (Nat.le_of_ble_eq_true rfl) (rf_X8_told (by omega) (((27 : Int32) + ((6 : Int32) * a3)) + (1 : Int32)) (0 : Int32) (99 : Int32) q4.2) (fun q5 => ?_)
      refine r_if1 rfl rfl ?_ ?_
      · refine r_pure rfl rfl ?_
        refine r_pure rfl rfl ?_
        refine r_pure rfl rfl ?_
        refine r_pure rfl rfl ?_
        refine r_pure rfl rfl ?_
        refine r_callS_J rfl (Nat.le_of_ble_eq_true rfl) (Nat.le_of_ble_eq_true rfl) (rf_X8_four (by omega) (111 : Int32) (112 : Int32) (101 : Int32) (110 : Int32)) (fun q6 => ?_)
        refine r_callV_I rfl rfl (en_get (b := true) (k := 137) (L := 12) ⟨rfl, by decide⟩ rfl) (Nat.le_of_ble_eq_true rfl) (rf_X8_isWord (by omega) q6 q5.2) (fun q7 => ?_)
        refine r_pure (lv' := [some (.ref 137), some (.int ((27 : Int32) + ((6 : Int32) * a3))), some (.int q7)]) rfl rfl ?_
        refine r_pure rfl rfl ?_
        refine r_if1 rfl rfl ?_ ?_
        · exact lm_le (by omega) (rj_X8_readHold_J120 (n := 0) (by omega) ((27 : Int32) + ((6 : Int32) * a3)) q7 q5.2)
        · refine r_pure rfl rfl ?_
          refine r_pure rfl rfl ?_
          refine r_pure rfl rfl ?_
          refine r_pure rfl rfl ?_
          refine r_pure rfl rfl ?_
          refine r_pure rfl rfl ?_
          refine r_pure rfl rfl ?_
          refine r_pure rfl rfl ?_
          refine r_callS_J rfl (Nat.le_of_ble_eq_true rfl) (Nat.le_of_ble_eq_true rfl) (rf_X8_six (by omega) (98 : Int32) (97 : Int32) (102 : Int32) (102 : Int32) (108 : Int32) (101 : Int32)) (fun q12 => ?_)
          refine r_pure rfl rfl ?_
          refine r_pure rfl rfl ?_
          refine r_pure rfl rfl ?_
          refine r_callV_I rfl rfl (en_get (b := true) (k := 137) (L := 12) ⟨rfl, by decide⟩ rfl) (Nat.le_of_ble_eq_true rfl) (rf_X8_isWord (by omega) (((27 : Int64) * q12) + (4 : Int64)) q5.2) (fun q13 => ?_)
          refine r_if1 rfl rfl ?_ ?_
          · exact lm_le (by omega) (rj_X8_readHold_J120 (n := 0) (by omega) ((27 : Int32) + ((6 : Int32) * a3)) q7 q5.2)
          · refine r_pure rfl rfl ?_
            refine r_pure rfl rfl ?_
            refine r_callV_IW rfl rfl (en_get (b := true) (k := 137) (L := 12) ⟨rfl, by decide⟩ rfl) (Nat.le_of_ble_eq_true rfl) (rf_X8_bad (by omega) (1 : Int32) q5.2) (fun q14 => ?_)
            exact r_retG rfl rfl rfl
      · refine r_pure rfl rfl ?_
        exact r_retZ rfl (Or.inl rfl) rfl
  · refine r_pure rfl rfl ?_
    refine r_pure rfl rfl ?_
    refine r_callV_IW rfl rfl (en_get (b := true) (k := 137) (L := 12) ⟨rfl, by decide⟩ rfl) (Nat.le_of_ble_eq_true rfl) (rf_X8_bad (by omega) (3 : Int32) S) (fun q15 => ?_)
    exact r_retG rfl rfl rfl
/-! X8_readLiquid -/
def s_X8_readLiquid (S : HS) : Option (Int32 × HS) :=
  Option.bind (ag (ga S 140) (10 : Int32)) fun a1 =>
  if a1 ≠ (6 : Int32) then
    Option.bind (s_X8_go S) fun q2 =>
    Option.bind (ag (ga q2 140) (10 : Int32)) fun a3 =>
    Option.bind (s_X8_told ((15 : Int32) + a3) (1 : Int32) (20 : Int32) q2) fun q4 =>
    if q4.1 ≠ (0 : Int32) then
      Option.bind (ag (ga q4.2 140) (10 : Int32)) fun a5 =>
      Option.bind (wa q4.2 140 (10 : Int32) (a5 + (1 : Int32))) fun S6 =>
      some ((1 : Int32), S6)
    else
      some ((0 : Int32), q4.2)
  else
    Option.bind (s_X8_bad (3 : Int32) S) fun q7 =>
    Option.bind (gz q7.1) fun _ =>
    some (q7.1, q7.2)
set_option maxRecDepth 100000 in
theorem rf_X8_readLiquid {d : Nat} (hd : 4 ≤ d) {O : HS} (S : HS) : Lm (oIW true O) (s_X8_readLiquid S) (CF d 113 [.ref 137] (en true O S)) := by
  unfold s_X8_readLiquid
  obtain ⟨e, rfl⟩ : ∃ e, d = e + 1 := ⟨d - 1, by omega⟩
  refine rm_of (lv := [some (.ref 137)]) (k_X8_readLiquid false) (by omega) rfl rfl (Nat.le_of_ble_eq_true rfl) ?_
  refine lm_le (n := 29) (by omega) ?_
  show Lm _ _ (run (CF e) _ _ _ _ _ _)
  refine r_pure rfl rfl ?_
  refine r_get rfl (en_get (b := true) (k := 137) (L := 12) ⟨rfl, by decide⟩ rfl) (fo_get (S := S) rfl) ?_
  refine r_pure rfl rfl ?_
  refine r_iald rfl (en_get (b := true) (k := 140) (L := 0) ⟨rfl, by decide⟩ rfl) (fun a1 => ?_)
  refine r_pure rfl rfl ?_
  refine r_if2 rfl rfl ?_ ?_
  · refine r_pure rfl rfl ?_
    refine r_callV_VW rfl rfl (en_get (b := true) (k := 137) (L := 12) ⟨rfl, by decide⟩ rfl) (Nat.le_of_ble_eq_true rfl) (rf_X8_go (by omega) S) (fun q2 => ?_)
    refine r_pure rfl rfl ?_
    refine r_pure rfl rfl ?_
    refine r_pure rfl rfl ?_
    refine r_get rfl (en_get (b := true) (k := 137) (L := 12) ⟨rfl, by decide⟩ rfl) (fo_get (S := q2) rfl) ?_
    refine r_pure rfl rfl ?_
    refine r_iald rfl (en_get (b := true) (k := 140) (L := 0) ⟨rfl, by decide⟩ rfl) (fun a3 => ?_)
    refine r_pure rfl rfl ?_
    refine r_pure rfl rfl ?_
    refine r_pure rfl rfl ?_
    refine r_callV_IW rfl rfl (en_get (b := true) (k := 137) (L := 12) ⟨rfl, by decide⟩ rfl) (Nat.le_of_ble_eq_true rfl) (rf_X8_told (by omega) ((15 : Int32) + a3) (1 : Int32) (20 : Int32) q2) (fun q4 => ?_)
    refine r_if1 rfl rfl ?_ ?_
    · refine r_pure rfl rfl ?_
      refine r_get rfl (en_get (b := true) (k := 137) (L := 12) ⟨rfl, by decide⟩ rfl) (fo_get (S := q4.2) rfl) ?_
      refine r_pure rfl rfl ?_
      refine r_pure rfl rfl ?_
      refine r_iald rfl (en_get (b := true) (k := 140) (L := 0) ⟨rfl, by decide⟩ rfl) (fun a5 => ?_)
      refine r_pure rfl rfl ?_
      refine r_pure rfl rfl ?_
      refine r_iastI rfl ⟨rfl, by decide⟩ rfl (fun S6 => ?_)
      refine r_pure rfl rfl ?_
      exact r_retZ rfl (Or.inr rfl) rfl
    · refine r_pure rfl rfl ?_
      exact r_retZ rfl (Or.inl rfl) rfl
  · refine r_pure rfl rfl ?_
    refine r_pure rfl rfl ?_
    refine r_callV_IW rfl rfl (en_get (b := true) (k := 137) (L := 12) ⟨rfl, by decide⟩ rfl) (Nat.le_of_ble_eq_true rfl) (rf_X8_bad (by omega) (3 : Int32) S) (fun q7 => ?_)
    exact r_retG rfl rfl rfl
/-! X8_oneOf -/
def s_X8_oneOf (v1 : Int32) (S : HS) : Option (Int32 × HS) :=
  if (gf S 137 6) = (3 : Int32) then
    if (gf S 137 7) < v1 then
      Option.bind (pf S 137 15 (gf S 137 7)) fun S1 =>
      Option.bind (s_X8_go S1) fun q2 =>
      some ((1 : Int32), q2)
    else
      Option.bind (s_X8_bad (2 : Int32) S) fun q3 =>
      Option.bind (gz q3.1) fun _ =>
      some (q3.1, q3.2)
  else
    Option.bind (s_X8_bad (1 : Int32) S) fun q4 =>
    Option.bind (gz q4.1) fun _ =>
    some (q4.1, q4.2)
set_option maxRecDepth 100000 in
theorem rf_X8_oneOf {d : Nat} (hd : 3 ≤ d) {O : HS} (v1 : Int32) (S : HS) : Lm (oIW true O) (s_X8_oneOf v1 S) (CF d 110 [.ref 137, .int v1] (en true O S)) := by
  unfold s_X8_oneOf
  obtain ⟨e, rfl⟩ : ∃ e, d = e + 1 := ⟨d - 1, by omega⟩
  refine rm_of (lv := [some (.ref 137), some (.int v1)]) (k_X8_oneOf false) (by omega) rfl rfl (Nat.le_of_ble_eq_true rfl) ?_
  refine lm_le (n := 16) (by omega) ?_
  show Lm _ _ (run (CF e) _ _ _ _ _ _)
  refine r_pure rfl rfl ?_
  refine r_get rfl (en_get (b := true) (k := 137) (L := 12) ⟨rfl, by decide⟩ rfl) (fo_get (S := S) rfl) ?_
  refine r_pure rfl rfl ?_
  refine r_if2 rfl rfl ?_ ?_
  · refine r_pure rfl rfl ?_
    refine r_get rfl (en_get (b := true) (k := 137) (L := 12) ⟨rfl, by decide⟩ rfl) (fo_get (S := S) rfl) ?_
    refine r_pure rfl rfl ?_
    refine r_if2 rfl rfl ?_ ?_
    · refine r_pure rfl rfl ?_
      refine r_pure rfl rfl ?_
      refine r_get rfl (en_get (b := true) (k := 137) (L := 12) ⟨rfl, by decide⟩ rfl) (fo_get (S := S) rfl) ?_
      refine r_putI rfl ⟨rfl, by decide⟩ rfl rfl rfl (fun S1 => ?_)
      refine r_pure rfl rfl ?_
      refine r_callV_VW rfl rfl (en_get (b := true) (k := 137) (L := 12) ⟨rfl, by decide⟩ rfl) (Nat.le_of_ble_eq_true rfl) (rf_X8_go (by omega) S1) (fun q2 => ?_)
      refine r_pure rfl rfl ?_
      exact r_retZ rfl (Or.inr rfl) rfl
    · refine r_pure rfl rfl ?_
      refine r_pure rfl rfl ?_
      refine r_callV_IW rfl rfl (en_get (b := true) (k := 137) (L := 12) ⟨rfl, by decide⟩ rfl) (Nat.le_of_ble_eq_true rfl) (rf_X8_bad (by omega) (2 : Int32) S) (fun q3 => ?_)
      exact r_retG rfl rfl rfl
  · refine r_pure rfl rfl ?_
    refine r_pure rfl rfl ?_
    refine r_callV_IW rfl rfl (en_get (b := true) (k := 137) (L := 12) ⟨rfl, by decide⟩ rfl) (Nat.le_of_ble_eq_true rfl) (rf_X8_bad (by omega) (1 : Int32) S) (fun q4 => ?_)
    exact r_retG rfl rfl rfl
/-! X8_readBar -/
def s_X8_readBar (S : HS) : Option (Int32 × HS) :=
  Option.bind (ag (ga S 140) (11 : Int32)) fun a1 =>
  if a1 ≠ (36 : Int32) then
    Option.bind (s_X8_go S) fun q2 =>
    Option.bind (ag (ga q2 140) (10 : Int32)) fun a3 =>
    Option.bind (s_X8_oneOf a3 q2) fun q4 =>
    if q4.1 ≠ (0 : Int32) then
      Option.bind (ag (ga q4.2 140) (10 : Int32)) fun a5 =>
      Option.bind (s_X8_oneOf a5 q4.2) fun q6 =>
      if q6.1 ≠ (0 : Int32) then
        Option.bind (ag (ga q6.2 140) ((21 : Int32) + (gf q4.2 137 15))) fun a7 =>
        Option.bind (wa q6.2 140 ((21 : Int32) + (gf q4.2 137 15)) (a7 ||| ((1 : Int32) <<< ((gf q6.2 137 15) &&& (31 : Int32))))) fun S8 =>
        Option.bind (ag (ga S8 140) (11 : Int32)) fun a9 =>
        Option.bind (wa S8 140 (11 : Int32) (a9 + (1 : Int32))) fun S10 =>
        some ((1 : Int32), S10)
      else
        some ((0 : Int32), q6.2)
    else
      some ((0 : Int32), q4.2)
  else
    Option.bind (s_X8_bad (3 : Int32) S) fun q11 =>
    Option.bind (gz q11.1) fun _ =>
    some (q11.1, q11.2)
set_option maxRecDepth 100000 in
theorem rf_X8_readBar {d : Nat} (hd : 4 ≤ d) {O : HS} (S : HS) : Lm (oIW true O) (s_X8_readBar S) (CF d 114 [.ref 137] (en true O S)) := by
  unfold s_X8_readBar
  obtain ⟨e, rfl⟩ : ∃ e, d = e + 1 := ⟨d - 1, by omega⟩
  refine rm_of (lv := [some (.ref 137), none]) (k_X8_readBar false) (by omega) rfl rfl (Nat.le_of_ble_eq_true rfl) ?_
  refine lm_le (n := 48) (by omega) ?_
  show Lm _ _ (run (CF e) _ _ _ _ _ _)
  refine r_pure rfl rfl ?_
  refine r_get rfl (en_get (b := true) (k := 137) (L := 12) ⟨rfl, by decide⟩ rfl) (fo_get (S := S) rfl) ?_
  refine r_pure rfl rfl ?_
  refine r_iald rfl (en_get (b := true) (k := 140) (L := 0) ⟨rfl, by decide⟩ rfl) (fun a1 => ?_)
  refine r_pure rfl rfl ?_
  refine r_if2 rfl rfl ?_ ?_
  · refine r_pure rfl rfl ?_
    refine r_callV_VW rfl rfl (en_get (b := true) (k := 137) (L := 12) ⟨rfl, by decide⟩ rfl) (Nat.le_of_ble_eq_true rfl) (rf_X8_go (by omega) S) (fun q2 => ?_)
    refine r_pure rfl rfl ?_
    refine r_pure rfl rfl ?_
    refine r_get rfl (en_get (b := true) (k := 137) (L := 12) ⟨rfl, by decide⟩ rfl) (fo_get (S := q2) rfl) ?_
    refine r_pure rfl rfl ?_
    refine r_iald rfl (en_get (b := true) (k := 140) (L := 0) ⟨rfl, by decide⟩ rfl) (fun a3 => ?_)
    refine r_callV_IW rfl rfl (en_get (b := true) (k := 137) (L := 12) ⟨rfl, by decide⟩ rfl) (Nat.le_of_ble_eq_true rfl) (rf_X8_oneOf (by omega) a3 q2) (fun q4 => ?_)
    refine r_if1 rfl rfl ?_ ?_
    · refine r_pure rfl rfl ?_
      refine r_get rfl (en_get (b := true) (k := 137) (L := 12) ⟨rfl, by decide⟩ rfl) (fo_get (S := q4.2) rfl) ?_
      refine r_pure (lv' := [some (.ref 137), some (.int (gf q4.2 137 15))]) rfl rfl ?_
      refine r_pure rfl rfl ?_
      refine r_pure rfl rfl ?_
      refine r_get rfl (en_get (b := true) (k := 137) (L := 12) ⟨rfl, by decide⟩ rfl) (fo_get (S := q4.2) rfl) ?_
      refine r_pure rfl rfl ?_
      refine r_iald rfl (en_get (b := true) (k := 140) (L := 0) ⟨rfl, by decide⟩ rfl) (fun a5 => ?_)
      refine r_callV_IW rfl rfl (en_get (b := true) (k := 137) (L := 12) ⟨rfl, by decide⟩ rfl) (Nat.le_of_ble_eq_true rfl) (rf_X8_oneOf (by omega) a5 q4.2) (fun q6 => ?_)
      refine r_if1 rfl rfl ?_ ?_
      · refine r_pure rfl rfl ?_
        refine r_get rfl (en_get (b := true) (k := 137) (L := 12) ⟨rfl, by decide⟩ rfl) (fo_get (S := q6.2) rfl) ?_
        refine r_pure rfl rfl ?_
        refine r_pure rfl rfl ?_
        refine r_pure rfl rfl ?_
        refine r_pure rfl rfl ?_
        refine r_iald rfl (en_get (b := true) (k := 140) (L := 0) ⟨rfl, by decide⟩ rfl) (fun a7 => ?_)
        refine r_pure rfl rfl ?_
        refine r_pure rfl rfl ?_
        refine r_get rfl (en_get (b := true) (k := 137) (L := 12) ⟨rfl, by decide⟩ rfl) (fo_get (S := q6.2) rfl) ?_
        refine r_pure rfl rfl ?_
        refine r_pure rfl rfl ?_
        refine r_iastI rfl ⟨rfl, by decide⟩ rfl (fun S8 => ?_)
        refine r_pure rfl rfl ?_
        refine r_get rfl (en_get (b := true) (k := 137) (L := 12) ⟨rfl, by decide⟩ rfl) (fo_get (S := S8) rfl) ?_
        refine r_pure rfl rfl ?_
        refine r_pure rfl rfl ?_
        refine r_iald rfl (en_get (b := true) (k := 140) (L := 0) ⟨rfl, by decide⟩ rfl) (fun a9 => ?_)
        refine r_pure rfl rfl ?_
        refine r_pure rfl rfl ?_
        refine r_iastI rfl ⟨rfl, by decide⟩ rfl (fun S10 => ?_)
        refine r_pure rfl rfl ?_
        exact r_retZ rfl (Or.inr rfl) rfl
      · refine r_pure rfl rfl ?_
        exact r_retZ rfl (Or.inl rfl) rfl
    · refine r_pure rfl rfl ?_
      exact r_retZ rfl (Or.inl rfl) rfl
  · refine r_pure rfl rfl ?_
    refine r_pure rfl rfl ?_
    refine r_callV_IW rfl rfl (en_get (b := true) (k := 137) (L := 12) ⟨rfl, by decide⟩ rfl) (Nat.le_of_ble_eq_true rfl) (rf_X8_bad (by omega) (3 : Int32) S) (fun q11 => ?_)
    exact r_retG rfl rfl rfl
/-! X8_readLast -/
def s_X8_readLast (S : HS) : Option (Int32 × HS) :=
  Option.bind (ag (ga S 140) (12 : Int32)) fun a1 =>
  if a1 ≠ (20 : Int32) then
    Option.bind (s_X8_go S) fun q2 =>
    Option.bind (ag (ga q2 140) (9 : Int32)) fun a3 =>
    Option.bind (s_X8_oneOf a3 q2) fun q4 =>
    if q4.1 ≠ (0 : Int32) then
      Option.bind (ag (ga q4.2 140) (10 : Int32)) fun a5 =>
      Option.bind (s_X8_oneOf a5 q4.2) fun q6 =>
      if q6.1 ≠ (0 : Int32) then
        Option.bind (wa q6.2 140 (((27 : Int32) + ((6 : Int32) * (gf q4.2 137 15))) + (5 : Int32)) ((gf q6.2 137 15) + (1 : Int32))) fun S7 =>
        Option.bind (ag (ga S7 140) (12 : Int32)) fun a8 =>
        Option.bind (wa S7 140 (12 : Int32) (a8 + (1 : Int32))) fun S9 =>
        some ((1 : Int32), S9)
      else
        some ((0 : Int32), q6.2)
    else
      some ((0 : Int32), q4.2)
  else
    Option.bind (s_X8_bad (3 : Int32) S) fun q10 =>
    Option.bind (gz q10.1) fun _ =>
    some (q10.1, q10.2)
set_option maxRecDepth 100000 in
theorem rf_X8_readLast {d : Nat} (hd : 4 ≤ d) {O : HS} (S : HS) : Lm (oIW true O) (s_X8_readLast S) (CF d 115 [.ref 137] (en true O S)) := by
  unfold s_X8_readLast
  obtain ⟨e, rfl⟩ : ∃ e, d = e + 1 := ⟨d - 1, by omega⟩
  refine rm_of (lv := [some (.ref 137), none]) (k_X8_readLast false) (by omega) rfl rfl (Nat.le_of_ble_eq_true rfl) ?_
  refine lm_le (n := 49) (by omega) ?_
  show Lm _ _ (run (CF e) _ _ _ _ _ _)
  refine r_pure rfl rfl ?_
  refine r_get rfl (en_get (b := true) (k := 137) (L := 12) ⟨rfl, by decide⟩ rfl) (fo_get (S := S) rfl) ?_
  refine r_pure rfl rfl ?_
  refine r_iald rfl (en_get (b := true) (k := 140) (L := 0) ⟨rfl, by decide⟩ rfl) (fun a1 => ?_)
  refine r_pure rfl rfl ?_
  refine r_if2 rfl rfl ?_ ?_
  · refine r_pure rfl rfl ?_
    refine r_callV_VW rfl rfl (en_get (b := true) (k := 137) (L := 12) ⟨rfl, by decide⟩ rfl) (Nat.le_of_ble_eq_true rfl) (rf_X8_go (by omega) S) (fun q2 => ?_)
    refine r_pure rfl rfl ?_
    refine r_pure rfl rfl ?_
    refine r_get rfl (en_get (b := true) (k := 137) (L := 12) ⟨rfl, by decide⟩ rfl) (fo_get (S := q2) rfl) ?_
    refine r_pure rfl rfl ?_
    refine r_iald rfl (en_get (b := true) (k := 140) (L := 0) ⟨rfl, by decide⟩ rfl) (fun a3 => ?_)
    refine r_callV_IW rfl rfl (en_get (b := true) (k := 137) (L := 12) ⟨rfl, by decide⟩ rfl) (Nat.le_of_ble_eq_true rfl) (rf_X8_oneOf (by omega) a3 q2) (fun q4 => ?_)
    refine r_if1 rfl rfl ?_ ?_
    · refine r_pure rfl rfl ?_
      refine r_get rfl (en_get (b := true) (k := 137) (L := 12) ⟨rfl, by decide⟩ rfl) (fo_get (S := q4.2) rfl) ?_
      refine r_pure (lv' := [some (.ref 137), some (.int (gf q4.2 137 15))]) rfl rfl ?_
      refine r_pure rfl rfl ?_
      refine r_pure rfl rfl ?_
      refine r_get rfl (en_get (b := true) (k := 137) (L := 12) ⟨rfl, by decide⟩ rfl) (fo_get (S := q4.2) rfl) ?_
      refine r_pure rfl rfl ?_
      refine r_iald rfl (en_get (b := true) (k := 140) (L := 0) ⟨rfl, by decide⟩ rfl) (fun a5 => ?_)
      refine r_callV_IW rfl rfl (en_get (b := true) (k := 137) (L := 12) ⟨rfl, by decide⟩ rfl) (Nat.le_of_ble_eq_true rfl) (rf_X8_oneOf (by omega) a5 q4.2) (fun q6 => ?_)
      refine r_if1 rfl rfl ?_ ?_
      · refine r_pure rfl rfl ?_
        refine r_get rfl (en_get (b := true) (k := 137) (L := 12) ⟨rfl, by decide⟩ rfl) (fo_get (S := q6.2) rfl) ?_
        refine r_pure rfl rfl ?_
        refine r_pure rfl rfl ?_
        refine r_pure rfl rfl ?_
        refine r_pure rfl rfl ?_
        refine r_pure rfl rfl ?_
        refine r_pure rfl rfl ?_
        refine r_pure rfl rfl ?_
        refine r_pure rfl rfl ?_
        refine r_get rfl (en_get (b := true) (k := 137) (L := 12) ⟨rfl, by decide⟩ rfl) (fo_get (S := q6.2) rfl) ?_
        refine r_pure rfl rfl ?_
        refine r_pure rfl rfl ?_
        refine r_iastI rfl ⟨rfl, by decide⟩ rfl (fun S7 => ?_)
        refine r_pure rfl rfl ?_
        refine r_get rfl (en_get (b := true) (k := 137) (L := 12) ⟨rfl, by decide⟩ rfl) (fo_get (S := S7) rfl) ?_
        refine r_pure rfl rfl ?_
        refine r_pure rfl rfl ?_
        refine r_iald rfl (en_get (b := true) (k := 140) (L := 0) ⟨rfl, by decide⟩ rfl) (fun a8 => ?_)
        refine r_pure rfl rfl ?_
        refine r_pure rfl rfl ?_
        refine r_iastI rfl ⟨rfl, by decide⟩ rfl (fun S9 => ?_)
        refine r_pure rfl rfl ?_
        exact r_retZ rfl (Or.inr rfl) rfl
      · refine r_pure rfl rfl ?_
        exact r_retZ rfl (Or.inl rfl) rfl
    · refine r_pure rfl rfl ?_
      exact r_retZ rfl (Or.inl rfl) rfl
  · refine r_pure rfl rfl ?_
    refine r_pure rfl rfl ?_
    refine r_callV_IW rfl rfl (en_get (b := true) (k := 137) (L := 12) ⟨rfl, by decide⟩ rfl) (Nat.le_of_ble_eq_true rfl) (rf_X8_bad (by omega) (3 : Int32) S) (fun q10 => ?_)
    exact r_retG rfl rfl rfl
/-! X8_readDrop -/
def s_X8_readDrop (S : HS) : Option (Int32 × HS) :=
  Option.bind (ag (ga S 140) (13 : Int32)) fun a1 =>
  if a1 ≠ (4 : Int32) then
    Option.bind (s_X8_go S) fun q2 =>
    Option.bind (ag (ga q2 140) (13 : Int32)) fun a3 =>
    Option.bind (ag (ga q2 140) (10 : Int32)) fun a4 =>
    Option.bind (s_X8_oneOf a4 q2) fun q5 =>
    if q5.1 ≠ (0 : Int32) then
      Option.bind (wa q5.2 140 (((57 : Int32) + ((5 : Int32) * a3)) + (0 : Int32)) (gf q5.2 137 15)) fun S6 =>
      Option.bind (s_X8_told (((57 : Int32) + ((5 : Int32) * a3)) + (1 : Int32)) (1 : Int32) (4995 : Int32) S6) fun q7 =>
      if q7.1 ≠ (0 : Int32) then
        Option.bind (ag (ga q7.2 140) (13 : Int32)) fun a8 =>
        Option.bind (wa q7.2 140 (13 : Int32) (a8 + (1 : Int32))) fun S9 =>
        some ((1 : Int32), S9)
      else
        some ((0 : Int32), q7.2)
    else
      some ((0 : Int32), q5.2)
  else
    Option.bind (s_X8_bad (3 : Int32) S) fun q10 =>
    Option.bind (gz q10.1) fun _ =>
    some (q10.1, q10.2)
set_option maxRecDepth 100000 in
theorem rf_X8_readDrop {d : Nat} (hd : 4 ≤ d) {O : HS} (S : HS) : Lm (oIW true O) (s_X8_readDrop S) (CF d 116 [.ref 137] (en true O S)) := by
  unfold s_X8_readDrop
  obtain ⟨e, rfl⟩ : ∃ e, d = e + 1 := ⟨d - 1, by omega⟩
  refine rm_of (lv := [some (.ref 137), none]) (k_X8_readDrop false) (by omega) rfl rfl (Nat.le_of_ble_eq_true rfl) ?_
  refine lm_le (n := 50) (by omega) ?_
  show Lm _ _ (run (CF e) _ _ _ _ _ _)
  refine r_pure rfl rfl ?_
  refine r_get rfl (en_get (b := true) (k := 137) (L := 12) ⟨rfl, by decide⟩ rfl) (fo_get (S := S) rfl) ?_
  refine r_pure rfl rfl ?_
  refine r_iald rfl (en_get (b := true) (k := 140) (L := 0) ⟨rfl, by decide⟩ rfl) (fun a1 => ?_)
  refine r_pure rfl rfl ?_
  refine r_if2 rfl rfl ?_ ?_
  · refine r_pure rfl rfl ?_
    refine r_callV_VW rfl rfl (en_get (b := true) (k := 137) (L := 12) ⟨rfl, by decide⟩ rfl) (Nat.le_of_ble_eq_true rfl) (rf_X8_go (by omega) S) (fun q2 => ?_)
    refine r_pure rfl rfl ?_
    refine r_pure rfl rfl ?_
    refine r_pure rfl rfl ?_
    refine r_get rfl (en_get (b := true) (k := 137) (L := 12) ⟨rfl, by decide⟩ rfl) (fo_get (S := q2) rfl) ?_
    refine r_pure rfl rfl ?_
    refine r_iald rfl (en_get (b := true) (k := 140) (L := 0) ⟨rfl, by decide⟩ rfl) (fun a3 => ?_)
    refine r_pure rfl rfl ?_
    refine r_pure rfl rfl ?_
    refine r_pure (lv' := [some (.ref 137), some (.int ((57 : Int32) + ((5 : Int32) * a3)))]) rfl rfl ?_
    refine r_pure rfl rfl ?_
    refine r_pure rfl rfl ?_
    refine r_get rfl (en_get (b := true) (k := 137) (L := 12) ⟨rfl, by decide⟩ rfl) (fo_get (S := q2) rfl) ?_
    refine r_pure rfl rfl ?_
    refine r_iald rfl (en_get (b := true) (k := 140) (L := 0) ⟨rfl, by decide⟩ rfl) (fun a4 => ?_)
    refine r_callV_IW rfl rfl (en_get (b := true) (k := 137) (L := 12) ⟨rfl, by decide⟩ rfl) (Nat.le_of_ble_eq_true rfl) (rf_X8_oneOf (by omega) a4 q2) (fun q5 => ?_)
    refine r_if1 rfl rfl ?_ ?_
    · refine r_pure rfl rfl ?_
      refine r_get rfl (en_get (b := true) (k := 137) (L := 12) ⟨rfl, by decide⟩ rfl) (fo_get (S := q5.2) rfl) ?_
      refine r_pure rfl rfl ?_
      refine r_pure rfl rfl ?_
      refine r_pure rfl rfl ?_
      refine r_pure rfl rfl ?_
      refine r_get rfl (en_get (b := true) (k := 137) (L := 12) ⟨rfl, by decide⟩ rfl) (fo_get (S := q5.2) rfl) ?_
      refine r_iastI rfl ⟨rfl, by decide⟩ rfl (fun S6 => ?_)
      refine r_pure rfl rfl ?_
      refine r_pure rfl rfl ?_
      refine r_pure rfl rfl ?_
      refine r_pure rfl rfl ?_
      refine r_pure rfl rfl ?_
      refine r_pure rfl rfl ?_
      refine r_callV_IW rfl rfl (en_get (b := true) (k := 137) (L := 12) ⟨rfl, by decide⟩ rfl) (Nat.le_of_ble_eq_true rfl) (rf_X8_told (by omega) (((57 : Int32) + ((5 : Int32) * a3)) + (1 : Int32)) (1 : Int32) (4995 : Int32) S6) (fun q7 => ?_)
      refine r_if1 rfl rfl ?_ ?_
      · refine r_pure rfl rfl ?_
        refine r_get rfl (en_get (b := true) (k := 137) (L := 12) ⟨rfl, by decide⟩ rfl) (fo_get (S := q7.2) rfl) ?_
        refine r_pure rfl rfl ?_
        refine r_pure rfl rfl ?_
        refine r_iald rfl (en_get (b := true) (k := 140) (L := 0) ⟨rfl, by decide⟩ rfl) (fun a8 => ?_)
        refine r_pure rfl rfl ?_
        refine r_pure rfl rfl ?_
        refine r_iastI rfl ⟨rfl, by decide⟩ rfl (fun S9 => ?_)
        refine r_pure rfl rfl ?_
        exact r_retZ rfl (Or.inr rfl) rfl
      · refine r_pure rfl rfl ?_
        exact r_retZ rfl (Or.inl rfl) rfl
    · refine r_pure rfl rfl ?_
      exact r_retZ rfl (Or.inl rfl) rfl
  · refine r_pure rfl rfl ?_
    refine r_pure rfl rfl ?_
    refine r_callV_IW rfl rfl (en_get (b := true) (k := 137) (L := 12) ⟨rfl, by decide⟩ rfl) (Nat.le_of_ble_eq_true rfl) (rf_X8_bad (by omega) (3 : Int32) S) (fun q10 => ?_)
    exact r_retG rfl rfl rfl
/-! X8_readLine -/
def s_X8_readLine (v1 : Int32) (S : HS) : Option (Int32 × HS) :=
  if v1 = (0 : Int32) then
    Option.bind (s_X8_six (99 : Int32) (111 : Int32) (109 : Int32) (112 : Int32) (97 : Int32) (114 : Int32)) fun q1 =>
    Option.bind (s_X8_three (116 : Int32) (109 : Int32) (101 : Int32)) fun q2 =>
    Option.bind (s_X8_isWord (((((14348907 : Int64) * q1) + ((729 : Int64) * q2)) + (378 : Int64)) + (20 : Int64)) S) fun q3 =>
    if q3 = (0 : Int32) then
      Option.bind (s_X8_six (108 : Int32) (105 : Int32) (113 : Int32) (117 : Int32) (105 : Int32) (100 : Int32)) fun q4 =>
      Option.bind (s_X8_isWord q4 S) fun q5 =>
      if q5 = (0 : Int32) then
        Option.bind (s_X8_three (98 : Int32) (97 : Int32) (114 : Int32)) fun q6 =>
        Option.bind (s_X8_isWord q6 S) fun q7 =>
        if q7 = (0 : Int32) then
          Option.bind (s_X8_four (108 : Int32) (97 : Int32) (115 : Int32) (116 : Int32)) fun q8 =>
          Option.bind (s_X8_isWord q8 S) fun q9 =>
          if q9 = (0 : Int32) then
            Option.bind (s_X8_four (100 : Int32) (114 : Int32) (111 : Int32) (112 : Int32)) fun q10 =>
            Option.bind (s_X8_isWord q10 S) fun q11 =>
            if q11 = (0 : Int32) then
              Option.bind (s_X8_bad (1 : Int32) S) fun q12 =>
              Option.bind (gz q12.1) fun _ =>
              some (q12.1, q12.2)
            else
              Option.bind (s_X8_readDrop S) fun q13 =>
              Option.bind (gz q13.1) fun _ =>
              some (q13.1, q13.2)
          else
            Option.bind (s_X8_readLast S) fun q14 =>
            Option.bind (gz q14.1) fun _ =>
            some (q14.1, q14.2)
        else
          Option.bind (s_X8_readBar S) fun q15 =>
          Option.bind (gz q15.1) fun _ =>
          some (q15.1, q15.2)
      else
        Option.bind (s_X8_readLiquid S) fun q16 =>
        Option.bind (gz q16.1) fun _ =>
        some (q16.1, q16.2)
    else
      Option.bind (s_X8_readHold S) fun q17 =>
      Option.bind (gz q17.1) fun _ =>
      some (q17.1, q17.2)
  else
    Option.bind (s_X8_readTanker S) fun q18 =>
    Option.bind (gz q18.1) fun _ =>
    some (q18.1, q18.2)
set_option maxRecDepth 100000 in
theorem rf_X8_readLine {d : Nat} (hd : 5 ≤ d) {O : HS} (v1 : Int32) (S : HS) : Lm (oIW true O) (s_X8_readLine v1 S) (CF d 117 [.ref 137, .int v1] (en true O S)) := by
  unfold s_X8_readLine
  obtain ⟨e, rfl⟩ : ∃ e, d = e + 1 := ⟨d - 1, by omega⟩
  refine rm_of (lv := [some (.ref 137), some (.int v1)]) (k_X8_readLine false) (by omega) rfl rfl (Nat.le_of_ble_eq_true rfl) ?_
  refine lm_le (n := 62) (by omega) ?_
  show Lm _ _ (run (CF e) _ _ _ _ _ _)
  refine r_pure rfl rfl ?_
  refine r_if1 rfl rfl ?_ ?_
  · refine r_pure rfl rfl ?_
    refine r_pure rfl rfl ?_
    refine r_pure rfl rfl ?_
    refine r_pure rfl rfl ?_
    refine r_pure rfl rfl ?_
    refine r_pure rfl rfl ?_
    refine r_pure rfl rfl ?_
    refine r_pure rfl rfl ?_
    refine r_callS_J rfl (Nat.le_of_ble_eq_true rfl) (Nat.le_of_ble_eq_true rfl) (rf_X8_six (by omega) (99 : Int32) (111 : Int32) (109 : Int32) (112 : Int32) (97 : Int32) (114 : Int32)) (fun q1 => ?_)
    refine r_pure rfl rfl ?_
    refine r_pure rfl rfl ?_
    refine r_pure rfl rfl ?_
    refine r_pure rfl rfl ?_
    refine r_pure rfl rfl ?_
    refine r_callS_J rfl (Nat.le_of_ble_eq_true rfl) (Nat.le_of_ble_eq_true rfl) (rf_X8_three (by omega) (116 : Int32) (109 : Int32) (101 : Int32)) (fun q2 => ?_)
    refine r_pure rfl rfl ?_
    refine r_pure rfl rfl ?_
    refine r_pure rfl rfl ?_
    refine r_pure rfl rfl ?_
    refine r_pure rfl rfl ?_
    refine r_pure rfl rfl ?_
    refine r_callV_I rfl rfl (en_get (b := true) (k := 137) (L := 12) ⟨rfl, by decide⟩ rfl) (Nat.le_of_ble_eq_true rfl) (rf_X8_isWord (by omega) (((((14348907 : Int64) * q1) + ((729 : Int64) * q2)) + (378 : Int64)) + (20 : Int64)) S) (fun q3 => ?_)
    refine r_if1 rfl rfl ?_ ?_
    · refine r_pure rfl rfl ?_
      refine r_pure rfl rfl ?_
      refine r_pure rfl rfl ?_
      refine r_pure rfl rfl ?_
      refine r_pure rfl rfl ?_
      refine r_pure rfl rfl ?_
      refine r_pure rfl rfl ?_
      refine r_callS_J rfl (Nat.le_of_ble_eq_true rfl) (Nat.le_of_ble_eq_true rfl) (rf_X8_six (by omega) (108 : Int32) (105 : Int32) (113 : Int32) (117 : Int32) (105 : Int32) (100 : Int32)) (fun q4 => ?_)
      refine r_callV_I rfl rfl (en_get (b := true) (k := 137) (L := 12) ⟨rfl, by decide⟩ rfl) (Nat.le_of_ble_eq_true rfl) (rf_X8_isWord (by omega) q4 S) (fun q5 => ?_)
      refine r_if1 rfl rfl ?_ ?_
      · refine r_pure rfl rfl ?_
        refine r_pure rfl rfl ?_
        refine r_pure rfl rfl ?_
        refine r_pure rfl rfl ?_
        refine r_callS_J rfl (Nat.le_of_ble_eq_true rfl) (Nat.le_of_ble_eq_true rfl) (rf_X8_three (by omega) (98 : Int32) (97 : Int32) (114 : Int32)) (fun q6 => ?_)
        refine r_callV_I rfl rfl (en_get (b := true) (k := 137) (L := 12) ⟨rfl, by decide⟩ rfl) (Nat.le_of_ble_eq_true rfl) (rf_X8_isWord (by omega) q6 S) (fun q7 => ?_)
        refine r_if1 rfl rfl ?_ ?_
        · refine r_pure rfl rfl ?_
          refine r_pure rfl rfl ?_
          refine r_pure rfl rfl ?_
          refine r_pure rfl rfl ?_
          refine r_pure rfl rfl ?_
          refine r_callS_J rfl (Nat.le_of_ble_eq_true rfl) (Nat.le_of_ble_eq_true rfl) (rf_X8_four (by omega) (108 : Int32) (97 : Int32) (115 : Int32) (116 : Int32)) (fun q8 => ?_)
          refine r_callV_I rfl rfl (en_get (b := true) (k := 137) (L := 12) ⟨rfl, by decide⟩ rfl) (Nat.le_of_ble_eq_true rfl) (rf_X8_isWord (by omega) q8 S) (fun q9 => ?_)
          refine r_if1 rfl rfl ?_ ?_
          · refine r_pure rfl rfl ?_
            refine r_pure rfl rfl ?_
            refine r_pure rfl rfl ?_
            refine r_pure rfl rfl ?_
            refine r_pure rfl rfl ?_
            refine r_callS_J rfl (Nat.le_of_ble_eq_true rfl) (Nat.le_of_ble_eq_true rfl) (rf_X8_four (by omega) (100 : Int32) (114 : Int32) (111 : Int32) (112 : Int32)) (fun q10 => ?_)
            refine r_callV_I rfl rfl (en_get (b := true) (k := 137) (L := 12) ⟨rfl, by decide⟩ rfl) (Nat.le_of_ble_eq_true rfl) (rf_X8_isWord (by omega) q10 S) (fun q11 => ?_)
            refine r_if1 rfl rfl ?_ ?_
            · refine r_pure rfl rfl ?_
              refine r_pure rfl rfl ?_
              refine r_callV_IW rfl rfl (en_get (b := true) (k := 137) (L := 12) ⟨rfl, by decide⟩ rfl) (Nat.le_of_ble_eq_true rfl) (rf_X8_bad (by omega) (1 : Int32) S) (fun q12 => ?_)
              exact r_retG rfl rfl rfl
            · refine r_pure rfl rfl ?_
              refine r_callV_IW rfl rfl (en_get (b := true) (k := 137) (L := 12) ⟨rfl, by decide⟩ rfl) (Nat.le_of_ble_eq_true rfl) (rf_X8_readDrop (by omega) S) (fun q13 => ?_)
              refine r_pure rfl rfl ?_
              exact r_retG rfl rfl rfl
          · refine r_pure rfl rfl ?_
            refine r_callV_IW rfl rfl (en_get (b := true) (k := 137) (L := 12) ⟨rfl, by decide⟩ rfl) (Nat.le_of_ble_eq_true rfl) (rf_X8_readLast (by omega) S) (fun q14 => ?_)
            exact r_retG rfl rfl rfl
        · refine r_pure rfl rfl ?_
          refine r_callV_IW rfl rfl (en_get (b := true) (k := 137) (L := 12) ⟨rfl, by decide⟩ rfl) (Nat.le_of_ble_eq_true rfl) (rf_X8_readBar (by omega) S) (fun q15 => ?_)
          exact r_retG rfl rfl rfl
      · refine r_pure rfl rfl ?_
        refine r_callV_IW rfl rfl (en_get (b := true) (k := 137) (L := 12) ⟨rfl, by decide⟩ rfl) (Nat.le_of_ble_eq_true rfl) (rf_X8_readLiquid (by omega) S) (fun q16 => ?_)
        exact r_retG rfl rfl rfl
    · refine r_pure rfl rfl ?_
      refine r_callV_IW rfl rfl (en_get (b := true) (k := 137) (L := 12) ⟨rfl, by decide⟩ rfl) (Nat.le_of_ble_eq_true rfl) (rf_X8_readHold (by omega) S) (fun q17 => ?_)
      exact r_retG rfl rfl rfl
  · refine r_pure rfl rfl ?_
    refine r_callV_IW rfl rfl (en_get (b := true) (k := 137) (L := 12) ⟨rfl, by decide⟩ rfl) (Nat.le_of_ble_eq_true rfl) (rf_X8_readTanker (by omega) S) (fun q18 => ?_)
    exact r_retG rfl rfl rfl
/-! X8_readEnd -/
def s_X8_readEnd (S : HS) : Option (Int32 × HS) :=
  if (gf S 137 6) = (4 : Int32) then
    Option.bind (s_X8_go S) fun q1 =>
    some ((1 : Int32), q1)
  else
    Option.bind (s_X8_bad (1 : Int32) S) fun q2 =>
    Option.bind (gz q2.1) fun _ =>
    some (q2.1, q2.2)
set_option maxRecDepth 100000 in
theorem rf_X8_readEnd {d : Nat} (hd : 3 ≤ d) {O : HS} (S : HS) : Lm (oIW true O) (s_X8_readEnd S) (CF d 118 [.ref 137] (en true O S)) := by
  unfold s_X8_readEnd
  obtain ⟨e, rfl⟩ : ∃ e, d = e + 1 := ⟨d - 1, by omega⟩
  refine rm_of (lv := [some (.ref 137)]) (k_X8_readEnd false) (by omega) rfl rfl (Nat.le_of_ble_eq_true rfl) ?_
  refine lm_le (n := 8) (by omega) ?_
  show Lm _ _ (run (CF e) _ _ _ _ _ _)
  refine r_pure rfl rfl ?_
  refine r_get rfl (en_get (b := true) (k := 137) (L := 12) ⟨rfl, by decide⟩ rfl) (fo_get (S := S) rfl) ?_
  refine r_pure rfl rfl ?_
  refine r_if2 rfl rfl ?_ ?_
  · refine r_pure rfl rfl ?_
    refine r_callV_VW rfl rfl (en_get (b := true) (k := 137) (L := 12) ⟨rfl, by decide⟩ rfl) (Nat.le_of_ble_eq_true rfl) (rf_X8_go (by omega) S) (fun q1 => ?_)
    refine r_pure rfl rfl ?_
    exact r_retZ rfl (Or.inr rfl) rfl
  · refine r_pure rfl rfl ?_
    refine r_pure rfl rfl ?_
    refine r_callV_IW rfl rfl (en_get (b := true) (k := 137) (L := 12) ⟨rfl, by decide⟩ rfl) (Nat.le_of_ble_eq_true rfl) (rf_X8_bad (by omega) (1 : Int32) S) (fun q2 => ?_)
    exact r_retG rfl rfl rfl
/-! X8_text -/
def s_X8_text_L108 (v1 : Int32) : Nat → Int32 → HS → Option (Int32 × HS)
  | 0, _, _ => none
  | K + 1, v2, S =>
    if (157 : Int32) ≤ v2 then
      Option.bind (pf S 137 14 (0 : Int32)) fun S8 =>
      some (v1, S8)
    else
      Option.bind (ag (ga S 140) v2) fun a9 =>
      Option.bind (wa S 139 v2 a9) fun S10 =>
      s_X8_text_L108 v1 K (v2 + (1 : Int32)) S10
def s_X8_text_J80 (rc63 : Int32 → HS → Option (Int32 × HS)) (v1 : Int32) (x1 : Int32) (S : HS) : Option (Int32 × HS) :=
  Option.bind (s_X8_readLine x1 S) fun q11 =>
  if q11.1 = (0 : Int32) then
    some (((-1 : Int32) - (gf q11.2 137 9)), q11.2)
  else
    Option.bind (s_X8_readEnd q11.2) fun q12 =>
    if q12.1 ≠ (0 : Int32) then
      rc63 (v1 + (1 : Int32)) q12.2
    else
      some (((-1 : Int32) - (gf q12.2 137 9)), q12.2)
def s_X8_text_L63 : Nat → Int32 → HS → Option (Int32 × HS)
  | 0, _, _ => none
  | K + 1, v1, S =>
    if (gf S 137 6) = (0 : Int32) then
      s_X8_text_L108 v1 800 (0 : Int32) S
    else
      if v1 ≠ (0 : Int32) then
        s_X8_text_J80 (s_X8_text_L63 K) v1 (0 : Int32) S
      else
        s_X8_text_J80 (s_X8_text_L63 K) v1 (1 : Int32) S
def s_X8_text_L32 (v1 : Int32) : Nat → Int32 → HS → Option (Int32 × HS)
  | 0, _, _ => none
  | K + 1, v2, S =>
    if (157 : Int32) ≤ v2 then
      Option.bind (wa S 140 (0 : Int32) (1 : Int32)) fun S6 =>
      Option.bind (s_X8_go S6) fun q7 =>
      s_X8_text_L63 800 v1 q7
    else
      Option.bind (wa S 140 v2 (0 : Int32)) fun S13 =>
      s_X8_text_L32 v1 K (v2 + (1 : Int32)) S13
def s_X8_text (S : HS) : Option (Int32 × HS) :=
  Option.bind (pf S 137 0 (0 : Int32)) fun S1 =>
  Option.bind (pf S1 137 3 (gf S1 137 2)) fun S2 =>
  Option.bind (pf S2 137 2 (0 : Int32)) fun S3 =>
  Option.bind (pf S3 137 8 (0 : Int32)) fun S4 =>
  Option.bind (pf S4 137 4 (0 : Int32)) fun S5 =>
  s_X8_text_L32 (0 : Int32) 800 (0 : Int32) S5
set_option maxRecDepth 100000 in
theorem rl_X8_text_L108 {e : Nat} (he : 5 ≤ e) {O : HS} (v1 : Int32) {n : Nat} : ∀ (K : Nat) (v2 : Int32) (S : HS), Lm (oIW true O) (s_X8_text_L108 v1 K v2 S) (run (CF e) (k_X8_text false) (n + (13 * K + 0)) 108 [some (.ref 137), some (.int v1), some (.int v2)] [] (en true O S)) := by
  intro K
  induction K with
  | zero =>
    intros
    exact lm_none
  | succ K ih =>
    intro v2 S
    rw [show n + (13 * (K + 1) + 0) = n + (13 * K + 0) + 13 by omega]
    rw [s_X8_text_L108]
    refine r_pure rfl rfl ?_
    refine r_pure rfl rfl ?_
    refine r_if2 rfl rfl ?_ ?_
    · refine r_pure rfl rfl ?_
      refine r_pure rfl rfl ?_
      refine r_putI rfl ⟨rfl, by decide⟩ rfl rfl rfl (fun S8 => ?_)
      refine r_pure rfl rfl ?_
      exact r_retI rfl rfl
    · refine r_pure rfl rfl ?_
      refine r_get rfl (en_get (b := true) (k := 137) (L := 12) ⟨rfl, by decide⟩ rfl) (fo_get (S := S) rfl) ?_
      refine r_pure rfl rfl ?_
      refine r_pure rfl rfl ?_
      refine r_get rfl (en_get (b := true) (k := 137) (L := 12) ⟨rfl, by decide⟩ rfl) (fo_get (S := S) rfl) ?_
      refine r_pure rfl rfl ?_
      refine r_iald rfl (en_get (b := true) (k := 140) (L := 0) ⟨rfl, by decide⟩ rfl) (fun a9 => ?_)
      refine r_iastI rfl ⟨rfl, by decide⟩ rfl (fun S10 => ?_)
      refine r_pure (lv' := [some (.ref 137), some (.int v1), some (.int (v2 + (1 : Int32)))]) rfl rfl ?_
      refine r_pure rfl rfl ?_
      exact lm_le (by omega) (ih (v2 + (1 : Int32)) S10)
set_option maxRecDepth 100000 in
theorem rj_X8_text_J80 {e : Nat} (he : 5 ≤ e) {O : HS} (rc63 : Int32 → HS → Option (Int32 × HS)) (v1 : Int32) (x1 : Int32) {n : Nat} (hrc63 : ∀ (v1 : Int32) (S : HS) (j2 : Option Value), Lm (oIW true O) (rc63 v1 S) (run (CF e) (k_X8_text false) n 63 [some (.ref 137), some (.int v1), j2] [] (en true O S))) (S : HS) (j2 : Option Value) : Lm (oIW true O) (s_X8_text_J80 rc63 v1 x1 S) (run (CF e) (k_X8_text false) (n + 10) 80 [some (.ref 137), some (.int v1), j2] [.int x1, .ref 137] (en true O S)) := by
  unfold s_X8_text_J80
  refine r_callV_IW rfl rfl (en_get (b := true) (k := 137) (L := 12) ⟨rfl, by decide⟩ rfl) (Nat.le_of_ble_eq_true rfl) (rf_X8_readLine (by omega) x1 S) (fun q11 => ?_)
  refine r_if1 rfl rfl ?_ ?_
  · refine r_pure rfl rfl ?_
    refine r_pure rfl rfl ?_
    refine r_get rfl (en_get (b := true) (k := 137) (L := 12) ⟨rfl, by decide⟩ rfl) (fo_get (S := q11.2) rfl) ?_
    refine r_pure rfl rfl ?_
    exact r_retI rfl rfl
  · refine r_pure rfl rfl ?_
    refine r_callV_IW rfl rfl (en_get (b := true) (k := 137) (L := 12) ⟨rfl, by decide⟩ rfl) (Nat.le_of_ble_eq_true rfl) (rf_X8_readEnd (by omega) q11.2) (fun q12 => ?_)
    refine r_if1 rfl rfl ?_ ?_
    · refine r_pure (lv' := [some (.ref 137), some (.int (v1 + (1 : Int32))), _]) rfl rfl ?_
      refine r_pure rfl rfl ?_
      exact lm_le (by omega) (hrc63 (v1 + (1 : Int32)) q12.2 _)
    · refine r_pure rfl rfl ?_
      refine r_pure rfl rfl ?_
      refine r_get rfl (en_get (b := true) (k := 137) (L := 12) ⟨rfl, by decide⟩ rfl) (fo_get (S := q12.2) rfl) ?_
      refine r_pure rfl rfl ?_
      exact r_retI rfl rfl
set_option maxRecDepth 100000 in
theorem rl_X8_text_L63 {e : Nat} (he : 5 ≤ e) {O : HS} {n : Nat} : ∀ (K : Nat) (v1 : Int32) (S : HS) (j2 : Option Value), Lm (oIW true O) (s_X8_text_L63 K v1 S) (run (CF e) (k_X8_text false) (n + (18 * K + 10400)) 63 [some (.ref 137), some (.int v1), j2] [] (en true O S)) := by
  intro K
  induction K with
  | zero =>
    intros
    exact lm_none
  | succ K ih =>
    intro v1 S j2
    rw [show n + (18 * (K + 1) + 10400) = n + (18 * K + 10400) + 18 by omega]
    rw [s_X8_text_L63]
    refine r_pure rfl rfl ?_
    refine r_get rfl (en_get (b := true) (k := 137) (L := 12) ⟨rfl, by decide⟩ rfl) (fo_get (S := S) rfl) ?_
    refine r_if1 rfl rfl ?_ ?_
    · refine r_pure rfl rfl ?_
      refine r_pure (lv' := [some (.ref 137), some (.int v1), some (.int (0 : Int32))]) rfl rfl ?_
      exact lm_le (by omega) (rl_X8_text_L108 (n := 0) (by omega) v1 800 (0 : Int32) S)
    · refine r_pure rfl rfl ?_
      refine r_pure rfl rfl ?_
      refine r_if1 rfl rfl ?_ ?_
      · refine r_pure rfl rfl ?_
        exact lm_le (by omega) (rj_X8_text_J80 (by omega) (s_X8_text_L63 K) v1 (0 : Int32) ih S _)
      · refine r_pure rfl rfl ?_
        refine r_pure rfl rfl ?_
        exact lm_le (by omega) (rj_X8_text_J80 (by omega) (s_X8_text_L63 K) v1 (1 : Int32) ih S _)
set_option maxRecDepth 100000 in
theorem rl_X8_text_L32 {e : Nat} (he : 5 ≤ e) {O : HS} (v1 : Int32) {n : Nat} : ∀ (K : Nat) (v2 : Int32) (S : HS), Lm (oIW true O) (s_X8_text_L32 v1 K v2 S) (run (CF e) (k_X8_text false) (n + (10 * K + 24800)) 32 [some (.ref 137), some (.int v1), some (.int v2)] [] (en true O S)) := by
  intro K
  induction K with
  | zero =>
    intros
    exact lm_none
  | succ K ih =>
    intro v2 S
    rw [show n + (10 * (K + 1) + 24800) = n + (10 * K + 24800) + 10 by omega]
    rw [s_X8_text_L32]
    refine r_pure rfl rfl ?_
    refine r_pure rfl rfl ?_
    refine r_if2 rfl rfl ?_ ?_
    · refine r_pure rfl rfl ?_
      refine r_get rfl (en_get (b := true) (k := 137) (L := 12) ⟨rfl, by decide⟩ rfl) (fo_get (S := S) rfl) ?_
      refine r_pure rfl rfl ?_
      refine r_pure rfl rfl ?_
      refine r_iastI rfl ⟨rfl, by decide⟩ rfl (fun S6 => ?_)
      refine r_pure rfl rfl ?_
      refine r_callV_VW rfl rfl (en_get (b := true) (k := 137) (L := 12) ⟨rfl, by decide⟩ rfl) (Nat.le_of_ble_eq_true rfl) (rf_X8_go (by omega) S6) (fun q7 => ?_)
      exact lm_le (by omega) (rl_X8_text_L63 (n := 0) (by omega) 800 v1 q7 _)
    · refine r_pure rfl rfl ?_
      refine r_get rfl (en_get (b := true) (k := 137) (L := 12) ⟨rfl, by decide⟩ rfl) (fo_get (S := S) rfl) ?_
      refine r_pure rfl rfl ?_
      refine r_pure rfl rfl ?_
      refine r_iastI rfl ⟨rfl, by decide⟩ rfl (fun S13 => ?_)
      refine r_pure (lv' := [some (.ref 137), some (.int v1), some (.int (v2 + (1 : Int32)))]) rfl rfl ?_
      refine r_pure rfl rfl ?_
      exact lm_le (by omega) (ih (v2 + (1 : Int32)) S13)
set_option maxRecDepth 100000 in
theorem rf_X8_text {d : Nat} (hd : 6 ≤ d) {O : HS} (S : HS) : Lm (oIW true O) (s_X8_text S) (CF d 119 [.ref 137] (en true O S)) := by
  unfold s_X8_text
  obtain ⟨e, rfl⟩ : ∃ e, d = e + 1 := ⟨d - 1, by omega⟩
  refine rm_of (lv := [some (.ref 137), none, none]) (k_X8_text false) (by omega) rfl rfl (Nat.le_of_ble_eq_true rfl) ?_
  refine lm_le (n := 32820) (by omega) ?_
  show Lm _ _ (run (CF e) _ _ _ _ _ _)
  refine r_pure rfl rfl ?_
  refine r_pure rfl rfl ?_
  refine r_putI rfl ⟨rfl, by decide⟩ rfl rfl rfl (fun S1 => ?_)
  refine r_pure rfl rfl ?_
  refine r_pure rfl rfl ?_
  refine r_get rfl (en_get (b := true) (k := 137) (L := 12) ⟨rfl, by decide⟩ rfl) (fo_get (S := S1) rfl) ?_
  refine r_putI rfl ⟨rfl, by decide⟩ rfl rfl rfl (fun S2 => ?_)
  refine r_pure rfl rfl ?_
  refine r_pure rfl rfl ?_
  refine r_putI rfl ⟨rfl, by decide⟩ rfl rfl rfl (fun S3 => ?_)
  refine r_pure rfl rfl ?_
  refine r_pure rfl rfl ?_
  refine r_putI rfl ⟨rfl, by decide⟩ rfl rfl rfl (fun S4 => ?_)
  refine r_pure rfl rfl ?_
  refine r_pure rfl rfl ?_
  refine r_putI rfl ⟨rfl, by decide⟩ rfl rfl rfl (fun S5 => ?_)
  refine r_pure rfl rfl ?_
  refine r_pure (lv' := [some (.ref 137), some (.int (0 : Int32)), none]) rfl rfl ?_
  refine r_pure rfl rfl ?_
  refine r_pure (lv' := [some (.ref 137), some (.int (0 : Int32)), some (.int (0 : Int32))]) rfl rfl ?_
  exact lm_le (by omega) (rl_X8_text_L32 (n := 0) (by omega) (0 : Int32) 800 (0 : Int32) S5)
