/-! X7_empty -/
def s_X7_empty_J66 (v1 : Int32) (S : HS) : Option (Int32 × HS) :=
  Option.bind (s_X1_keep S) fun q6 =>
  Option.bind (ag (ga q6 24) v1) fun a7 =>
  Option.bind (s_X0_takeOut 23 v1 q6) fun q8 =>
  some (a7, q8)
def s_X7_empty (v1 : Int32) (S : HS) : Option (Int32 × HS) :=
  Option.bind (tl (gr S 0 4)) fun t1 =>
  Option.bind (s_X6_hasCompartment t1 v1 S) fun q2 =>
  if q2 = (0 : Int32) then
    some ((-1 : Int32), S)
  else
    Option.bind (ag (ga S 24) v1) fun a3 =>
    if a3 ≠ (0 : Int32) then
      Option.bind (ag (ga S 25) v1) fun a4 =>
      Option.bind (s_X7_isSo a4 (1 : Int32) S) fun q5 =>
      if q5 = (0 : Int32) then
        s_X7_empty_J66 v1 S
      else
        Option.bind (tl (gr S 0 4)) fun t9 =>
        Option.bind (s_X5_waiting t9 S) fun q10 =>
        if q10 < (4 : Int32) then
          s_X7_empty_J66 v1 S
        else
          some ((-2 : Int32), S)
    else
      some ((-1 : Int32), S)
set_option maxRecDepth 100000 in
theorem rj_X7_empty_J66 {e : Nat} (he : 3 ≤ e) {O : HS} (v1 : Int32) {n : Nat} (S : HS) (j2 : Option Value) : Lm (oIW false O) (s_X7_empty_J66 v1 S) (run (CF e) (k_X7_empty false) (n + 19) 66 [some (.ref 0), some (.int v1), j2] [] (en false O S)) := by
  unfold s_X7_empty_J66
  refine r_pure rfl rfl ?_
  refine r_get rfl (en_get (b := false) (k := 0) (L := 11) ⟨rfl, by decide⟩ rfl) (fo_get (S := S) rfl) ?_
  refine r_pure rfl rfl ?_
  refine r_get rfl (en_get (b := false) (k := 0) (L := 11) ⟨rfl, by decide⟩ rfl) (fo_get (S := S) rfl) ?_
  refine r_callV_VW rfl rfl (en_get (b := false) (k := 30) (L := 5) ⟨rfl, by decide⟩ rfl) (Nat.le_of_ble_eq_true rfl) (rf_X1_keep (by omega) S) (fun q6 => ?_)
  refine r_pure rfl rfl ?_
  refine r_get rfl (en_get (b := false) (k := 0) (L := 11) ⟨rfl, by decide⟩ rfl) (fo_get (S := q6) rfl) ?_
  refine r_get rfl (en_get (b := false) (k := 22) (L := 9) ⟨rfl, by decide⟩ rfl) (fo_get (S := q6) rfl) ?_
  refine r_get rfl (en_get (b := false) (k := 23) (L := 4) ⟨rfl, by decide⟩ rfl) (fo_get (S := q6) rfl) ?_
  refine r_pure rfl rfl ?_
  refine r_iald rfl (en_get (b := false) (k := 24) (L := 0) ⟨rfl, by decide⟩ rfl) (fun a7 => ?_)
  refine r_pure (lv' := [some (.ref 0), some (.int v1), some (.int a7)]) rfl rfl ?_
  refine r_pure rfl rfl ?_
  refine r_get rfl (en_get (b := false) (k := 0) (L := 11) ⟨rfl, by decide⟩ rfl) (fo_get (S := q6) rfl) ?_
  refine r_get rfl (en_get (b := false) (k := 22) (L := 9) ⟨rfl, by decide⟩ rfl) (fo_get (S := q6) rfl) ?_
  refine r_pure rfl rfl ?_
  refine r_callV_VW rfl rfl (en_get (b := false) (k := 23) (L := 4) ⟨rfl, by decide⟩ rfl) (Nat.le_of_ble_eq_true rfl) (rf_X0_takeOut (by omega) 23 mC23 v1 q6) (fun q8 => ?_)
  refine r_pure rfl rfl ?_
  exact r_retI rfl rfl
set_option maxRecDepth 100000 in
theorem rf_X7_empty {d : Nat} (hd : 4 ≤ d) {O : HS} (v1 : Int32) (S : HS) : Lm (oIW false O) (s_X7_empty v1 S) (CF d 88 [.ref 0, .int v1] (en false O S)) := by
  unfold s_X7_empty
  obtain ⟨e, rfl⟩ : ∃ e, d = e + 1 := ⟨d - 1, by omega⟩
  refine rm_of (lv := [some (.ref 0), some (.int v1), none]) (k_X7_empty false) (by omega) rfl rfl (Nat.le_of_ble_eq_true rfl) ?_
  refine lm_le (n := 48) (by omega) ?_
  show Lm _ _ (run (CF e) _ _ _ _ _ _)
  refine r_pure rfl rfl ?_
  refine r_getT rfl ⟨rfl, by decide⟩ rfl rfl (fun t1 ht1 => ?_)
  refine r_pure rfl rfl ?_
  refine r_callV_I rfl rfl (en_get (b := false) (k := t1) (L := 10) (zT0 ht1) (lT0 ht1)) (Nat.le_of_ble_eq_true rfl) (rf_X6_hasCompartment (by omega) t1 ht1 v1 S) (fun q2 => ?_)
  refine r_if1 rfl rfl ?_ ?_
  · refine r_pure rfl rfl ?_
    exact r_retI rfl rfl
  · refine r_pure rfl rfl ?_
    refine r_get rfl (en_get (b := false) (k := 0) (L := 11) ⟨rfl, by decide⟩ rfl) (fo_get (S := S) rfl) ?_
    refine r_get rfl (en_get (b := false) (k := 22) (L := 9) ⟨rfl, by decide⟩ rfl) (fo_get (S := S) rfl) ?_
    refine r_get rfl (en_get (b := false) (k := 23) (L := 4) ⟨rfl, by decide⟩ rfl) (fo_get (S := S) rfl) ?_
    refine r_pure rfl rfl ?_
    refine r_iald rfl (en_get (b := false) (k := 24) (L := 0) ⟨rfl, by decide⟩ rfl) (fun a3 => ?_)
    refine r_if1 rfl rfl ?_ ?_
    · refine r_pure rfl rfl ?_
      refine r_pure rfl rfl ?_
      refine r_get rfl (en_get (b := false) (k := 0) (L := 11) ⟨rfl, by decide⟩ rfl) (fo_get (S := S) rfl) ?_
      refine r_get rfl (en_get (b := false) (k := 22) (L := 9) ⟨rfl, by decide⟩ rfl) (fo_get (S := S) rfl) ?_
      refine r_get rfl (en_get (b := false) (k := 23) (L := 4) ⟨rfl, by decide⟩ rfl) (fo_get (S := S) rfl) ?_
      refine r_pure rfl rfl ?_
      refine r_iald rfl (en_get (b := false) (k := 25) (L := 0) ⟨rfl, by decide⟩ rfl) (fun a4 => ?_)
      refine r_pure rfl rfl ?_
      refine r_callV_I rfl rfl (en_get (b := false) (k := 0) (L := 11) ⟨rfl, by decide⟩ rfl) (Nat.le_of_ble_eq_true rfl) (rf_X7_isSo (by omega) a4 (1 : Int32) S) (fun q5 => ?_)
      refine r_if1 rfl rfl ?_ ?_
      · exact lm_le (by omega) (rj_X7_empty_J66 (n := 0) (by omega) v1 S _)
      · refine r_pure rfl rfl ?_
        refine r_get rfl (en_get (b := false) (k := 0) (L := 11) ⟨rfl, by decide⟩ rfl) (fo_get (S := S) rfl) ?_
        refine r_pure rfl rfl ?_
        refine r_getT rfl ⟨rfl, by decide⟩ rfl rfl (fun t9 ht9 => ?_)
        refine r_callV_I rfl rfl (en_get (b := false) (k := 22) (L := 9) ⟨rfl, by decide⟩ rfl) (Nat.le_of_ble_eq_true rfl) (rf_X5_waiting (by omega) t9 ht9 S) (fun q10 => ?_)
        refine r_pure rfl rfl ?_
        refine r_if2 rfl rfl ?_ ?_
        · exact lm_le (by omega) (rj_X7_empty_J66 (n := 0) (by omega) v1 S _)
        · refine r_pure rfl rfl ?_
          exact r_retI rfl rfl
    · refine r_pure rfl rfl ?_
      exact r_retI rfl rfl
/-! X7_wash -/
def s_X7_wash (v1 : Int32) (S : HS) : Option (Int32 × HS) :=
  Option.bind (tl (gr S 0 4)) fun t1 =>
  Option.bind (s_X6_hasCompartment t1 v1 S) fun q2 =>
  if q2 = (0 : Int32) then
    some ((0 : Int32), S)
  else
    Option.bind (ag (ga S 24) v1) fun a3 =>
    if (0 : Int32) < a3 then
      some ((0 : Int32), S)
    else
      Option.bind (ag (ga S 26) v1) fun a4 =>
      if a4 ≠ (-1 : Int32) then
        Option.bind (s_X1_keep S) fun q5 =>
        Option.bind (wa q5 26 v1 (-1 : Int32)) fun S6 =>
        Option.bind (pf S6 22 4 ((gf S6 22 4) + (1 : Int32))) fun S7 =>
        some ((1 : Int32), S7)
      else
        some ((0 : Int32), S)
set_option maxRecDepth 100000 in
theorem rf_X7_wash {d : Nat} (hd : 4 ≤ d) {O : HS} (v1 : Int32) (S : HS) : Lm (oIW false O) (s_X7_wash v1 S) (CF d 89 [.ref 0, .int v1] (en false O S)) := by
  unfold s_X7_wash
  obtain ⟨e, rfl⟩ : ∃ e, d = e + 1 := ⟨d - 1, by omega⟩
  refine rm_of (lv := [some (.ref 0), some (.int v1)]) (k_X7_wash false) (by omega) rfl rfl (Nat.le_of_ble_eq_true rfl) ?_
  refine lm_le (n := 41) (by omega) ?_
  show Lm _ _ (run (CF e) _ _ _ _ _ _)
  refine r_pure rfl rfl ?_
  refine r_getT rfl ⟨rfl, by decide⟩ rfl rfl (fun t1 ht1 => ?_)
  refine r_pure rfl rfl ?_
  refine r_callV_I rfl rfl (en_get (b := false) (k := t1) (L := 10) (zT0 ht1) (lT0 ht1)) (Nat.le_of_ble_eq_true rfl) (rf_X6_hasCompartment (by omega) t1 ht1 v1 S) (fun q2 => ?_)
  refine r_if1 rfl rfl ?_ ?_
  · refine r_pure rfl rfl ?_
    exact r_retZ rfl (Or.inl rfl) rfl
  · refine r_pure rfl rfl ?_
    refine r_get rfl (en_get (b := false) (k := 0) (L := 11) ⟨rfl, by decide⟩ rfl) (fo_get (S := S) rfl) ?_
    refine r_get rfl (en_get (b := false) (k := 22) (L := 9) ⟨rfl, by decide⟩ rfl) (fo_get (S := S) rfl) ?_
    refine r_get rfl (en_get (b := false) (k := 23) (L := 4) ⟨rfl, by decide⟩ rfl) (fo_get (S := S) rfl) ?_
    refine r_pure rfl rfl ?_
    refine r_iald rfl (en_get (b := false) (k := 24) (L := 0) ⟨rfl, by decide⟩ rfl) (fun a3 => ?_)
    refine r_if1 rfl rfl ?_ ?_
    · refine r_pure rfl rfl ?_
      exact r_retZ rfl (Or.inl rfl) rfl
    · refine r_pure rfl rfl ?_
      refine r_get rfl (en_get (b := false) (k := 0) (L := 11) ⟨rfl, by decide⟩ rfl) (fo_get (S := S) rfl) ?_
      refine r_get rfl (en_get (b := false) (k := 22) (L := 9) ⟨rfl, by decide⟩ rfl) (fo_get (S := S) rfl) ?_
      refine r_get rfl (en_get (b := false) (k := 23) (L := 4) ⟨rfl, by decide⟩ rfl) (fo_get (S := S) rfl) ?_
      refine r_pure rfl rfl ?_
      refine r_iald rfl (en_get (b := false) (k := 26) (L := 0) ⟨rfl, by decide⟩ rfl) (fun a4 => ?_)
      refine r_pure rfl rfl ?_
      refine r_if2 rfl rfl ?_ ?_
      · refine r_pure rfl rfl ?_
        refine r_get rfl (en_get (b := false) (k := 0) (L := 11) ⟨rfl, by decide⟩ rfl) (fo_get (S := S) rfl) ?_
        refine r_pure rfl rfl ?_
        refine r_get rfl (en_get (b := false) (k := 0) (L := 11) ⟨rfl, by decide⟩ rfl) (fo_get (S := S) rfl) ?_
        refine r_callV_VW rfl rfl (en_get (b := false) (k := 30) (L := 5) ⟨rfl, by decide⟩ rfl) (Nat.le_of_ble_eq_true rfl) (rf_X1_keep (by omega) S) (fun q5 => ?_)
        refine r_pure rfl rfl ?_
        refine r_get rfl (en_get (b := false) (k := 0) (L := 11) ⟨rfl, by decide⟩ rfl) (fo_get (S := q5) rfl) ?_
        refine r_get rfl (en_get (b := false) (k := 22) (L := 9) ⟨rfl, by decide⟩ rfl) (fo_get (S := q5) rfl) ?_
        refine r_get rfl (en_get (b := false) (k := 23) (L := 4) ⟨rfl, by decide⟩ rfl) (fo_get (S := q5) rfl) ?_
        refine r_pure rfl rfl ?_
        refine r_pure rfl rfl ?_
        refine r_iastI rfl ⟨rfl, by decide⟩ rfl (fun S6 => ?_)
        refine r_pure rfl rfl ?_
        refine r_get rfl (en_get (b := false) (k := 0) (L := 11) ⟨rfl, by decide⟩ rfl) (fo_get (S := S6) rfl) ?_
        refine r_pure rfl rfl ?_
        refine r_get rfl (en_get (b := false) (k := 22) (L := 9) ⟨rfl, by decide⟩ rfl) (fo_get (S := S6) rfl) ?_
        refine r_pure rfl rfl ?_
        refine r_pure rfl rfl ?_
        refine r_putI rfl ⟨rfl, by decide⟩ rfl rfl rfl (fun S7 => ?_)
        refine r_pure rfl rfl ?_
        exact r_retZ rfl (Or.inr rfl) rfl
      · refine r_pure rfl rfl ?_
        exact r_retZ rfl (Or.inl rfl) rfl
/-! X1_goBack -/
def s_X1_goBack_J28 (x1 : Int32) (S : HS) : Option (Int32 × HS) :=
  Option.bind (pf S 30 1 x1) fun S1 =>
  Option.bind (pf S1 30 2 ((gf S1 30 2) - (1 : Int32))) fun S2 =>
  Option.bind (rw_ (gf S2 30 1)) fun s3 =>
  Option.bind (s_X5_copyFrom 22 s3 S2) fun q4 =>
  some ((1 : Int32), q4)
def s_X1_goBack (S : HS) : Option (Int32 × HS) :=
  if (gf S 30 2) ≠ (0 : Int32) then
    if (gf S 30 1) ≤ (0 : Int32) then
      s_X1_goBack_J28 (9 : Int32) S
    else
      s_X1_goBack_J28 ((gf S 30 1) - (1 : Int32)) S
  else
    some ((0 : Int32), S)
set_option maxRecDepth 100000 in
theorem rj_X1_goBack_J28 {e : Nat} (he : 2 ≤ e) {O : HS} (x1 : Int32) {n : Nat} (S : HS) : Lm (oIW false O) (s_X1_goBack_J28 x1 S) (run (CF e) (k_X1_goBack false) (n + 16) 28 [some (.ref 30), some (.ref 22)] [.int x1, .ref 30] (en false O S)) := by
  unfold s_X1_goBack_J28
  refine r_putI rfl ⟨rfl, by decide⟩ rfl rfl rfl (fun S1 => ?_)
  refine r_pure rfl rfl ?_
  refine r_pure rfl rfl ?_
  refine r_get rfl (en_get (b := false) (k := 30) (L := 5) ⟨rfl, by decide⟩ rfl) (fo_get (S := S1) rfl) ?_
  refine r_pure rfl rfl ?_
  refine r_pure rfl rfl ?_
  refine r_putI rfl ⟨rfl, by decide⟩ rfl rfl rfl (fun S2 => ?_)
  refine r_pure rfl rfl ?_
  refine r_pure rfl rfl ?_
  refine r_get rfl (en_get (b := false) (k := 30) (L := 5) ⟨rfl, by decide⟩ rfl) (fo_get (S := S2) rfl) ?_
  refine r_pure rfl rfl ?_
  refine r_get rfl (en_get (b := false) (k := 30) (L := 5) ⟨rfl, by decide⟩ rfl) (fo_get (S := S2) rfl) ?_
  refine r_aald rfl (en_get (b := false) (k := 31) (L := 3) ⟨rfl, by decide⟩ rfl) (fun s3 hs3 => ?_)
  refine r_callV_VW rfl rfl (en_get (b := false) (k := 22) (L := 9) ⟨rfl, by decide⟩ rfl) (Nat.le_of_ble_eq_true rfl) (rf_X5_copyFrom (by omega) 22 s3 mS22 hs3 S2) (fun q4 => ?_)
  refine r_pure rfl rfl ?_
  exact r_retZ rfl (Or.inr rfl) rfl
set_option maxRecDepth 100000 in
theorem rf_X1_goBack {d : Nat} (hd : 3 ≤ d) {O : HS} (S : HS) : Lm (oIW false O) (s_X1_goBack S) (CF d 16 [.ref 30, .ref 22] (en false O S)) := by
  unfold s_X1_goBack
  obtain ⟨e, rfl⟩ : ∃ e, d = e + 1 := ⟨d - 1, by omega⟩
  refine rm_of (lv := [some (.ref 30), some (.ref 22)]) (k_X1_goBack false) (by omega) rfl rfl (Nat.le_of_ble_eq_true rfl) ?_
  refine lm_le (n := 28) (by omega) ?_
  show Lm _ _ (run (CF e) _ _ _ _ _ _)
  refine r_pure rfl rfl ?_
  refine r_get rfl (en_get (b := false) (k := 30) (L := 5) ⟨rfl, by decide⟩ rfl) (fo_get (S := S) rfl) ?_
  refine r_if1 rfl rfl ?_ ?_
  · refine r_pure rfl rfl ?_
    refine r_pure rfl rfl ?_
    refine r_get rfl (en_get (b := false) (k := 30) (L := 5) ⟨rfl, by decide⟩ rfl) (fo_get (S := S) rfl) ?_
    refine r_if1 rfl rfl ?_ ?_
    · refine r_pure rfl rfl ?_
      exact lm_le (by omega) (rj_X1_goBack_J28 (n := 0) (by omega) (9 : Int32) S)
    · refine r_pure rfl rfl ?_
      refine r_get rfl (en_get (b := false) (k := 30) (L := 5) ⟨rfl, by decide⟩ rfl) (fo_get (S := S) rfl) ?_
      refine r_pure rfl rfl ?_
      refine r_pure rfl rfl ?_
      refine r_pure rfl rfl ?_
      exact lm_le (by omega) (rj_X1_goBack_J28 (n := 0) (by omega) ((gf S 30 1) - (1 : Int32)) S)
  · refine r_pure rfl rfl ?_
    exact r_retZ rfl (Or.inl rfl) rfl
/-! X7_undo -/
def s_X7_undo (S : HS) : Option (Int32 × HS) :=
  Option.bind (s_X1_goBack S) fun q1 =>
  if q1.1 = (0 : Int32) then
    some ((-1 : Int32), q1.2)
  else
    some ((gf q1.2 30 2), q1.2)
set_option maxRecDepth 100000 in
theorem rf_X7_undo {d : Nat} (hd : 4 ≤ d) {O : HS} (S : HS) : Lm (oIW false O) (s_X7_undo S) (CF d 90 [.ref 0] (en false O S)) := by
  unfold s_X7_undo
  obtain ⟨e, rfl⟩ : ∃ e, d = e + 1 := ⟨d - 1, by omega⟩
  refine rm_of (lv := [some (.ref 0)]) (k_X7_undo false) (by omega) rfl rfl (Nat.le_of_ble_eq_true rfl) ?_
  refine lm_le (n := 11) (by omega) ?_
  show Lm _ _ (run (CF e) _ _ _ _ _ _)
  refine r_pure rfl rfl ?_
  refine r_get rfl (en_get (b := false) (k := 0) (L := 11) ⟨rfl, by decide⟩ rfl) (fo_get (S := S) rfl) ?_
  refine r_pure rfl rfl ?_
  refine r_get rfl (en_get (b := false) (k := 0) (L := 11) ⟨rfl, by decide⟩ rfl) (fo_get (S := S) rfl) ?_
  refine r_callV_IW rfl rfl (en_get (b := false) (k := 30) (L := 5) ⟨rfl, by decide⟩ rfl) (Nat.le_of_ble_eq_true rfl) (rf_X1_goBack (by omega) S) (fun q1 => ?_)
  refine r_if1 rfl rfl ?_ ?_
  · refine r_pure rfl rfl ?_
    exact r_retI rfl rfl
  · refine r_pure rfl rfl ?_
    refine r_get rfl (en_get (b := false) (k := 0) (L := 11) ⟨rfl, by decide⟩ rfl) (fo_get (S := q1.2) rfl) ?_
    refine r_get rfl (en_get (b := false) (k := 30) (L := 5) ⟨rfl, by decide⟩ rfl) (fo_get (S := q1.2) rfl) ?_
    refine r_pure rfl rfl ?_
    exact r_retI rfl rfl
