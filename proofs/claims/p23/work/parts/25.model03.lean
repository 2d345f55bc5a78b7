/-! X8_lastIn -/
def s_X8_lastIn (v1 : Int32) (S : HS) : Option Int32 :=
  Option.bind (s_X8_holds v1 (4 : Int32) S) fun q1 =>
  if q1 ≤ (0 : Int32) then
    Option.bind (s_X8_holds v1 (5 : Int32) S) fun q2 =>
    some (q2 - (1 : Int32))
  else
    Option.bind (s_X8_holds v1 (4 : Int32) S) fun q3 =>
    Option.bind (s_X8_its (q3 - (1 : Int32)) (0 : Int32) S) fun q4 =>
    some q4
set_option maxRecDepth 100000 in
theorem rf_X8_lastIn {d : Nat} (hd : 2 ≤ d) {O : HS} (v1 : Int32) (S : HS) : Lm (oI (en true O S)) (s_X8_lastIn v1 S) (CF d 127 [.ref 137, .int v1] (en true O S)) := by
  unfold s_X8_lastIn
  obtain ⟨e, rfl⟩ : ∃ e, d = e + 1 := ⟨d - 1, by omega⟩
  refine rm_of (lv := [some (.ref 137), some (.int v1)]) (k_X8_lastIn false) (by omega) rfl rfl (Nat.le_of_ble_eq_true rfl) ?_
  refine lm_le (n := 16) (by omega) ?_
  show Lm _ _ (run (CF e) _ _ _ _ _ _)
  refine r_pure rfl rfl ?_
  refine r_pure rfl rfl ?_
  refine r_pure rfl rfl ?_
  refine r_callV_I rfl rfl (en_get (b := true) (k := 137) (L := 12) ⟨rfl, by decide⟩ rfl) (Nat.le_of_ble_eq_true rfl) (rf_X8_holds (by omega) v1 (4 : Int32) S) (fun q1 => ?_)
  refine r_if1 rfl rfl ?_ ?_
  · refine r_pure rfl rfl ?_
    refine r_pure rfl rfl ?_
    refine r_pure rfl rfl ?_
    refine r_callV_I rfl rfl (en_get (b := true) (k := 137) (L := 12) ⟨rfl, by decide⟩ rfl) (Nat.le_of_ble_eq_true rfl) (rf_X8_holds (by omega) v1 (5 : Int32) S) (fun q2 => ?_)
    refine r_pure rfl rfl ?_
    refine r_pure rfl rfl ?_
    exact r_retI rfl rfl
  · refine r_pure rfl rfl ?_
    refine r_pure rfl rfl ?_
    refine r_pure rfl rfl ?_
    refine r_pure rfl rfl ?_
    refine r_callV_I rfl rfl (en_get (b := true) (k := 137) (L := 12) ⟨rfl, by decide⟩ rfl) (Nat.le_of_ble_eq_true rfl) (rf_X8_holds (by omega) v1 (4 : Int32) S) (fun q3 => ?_)
    refine r_pure rfl rfl ?_
    refine r_pure rfl rfl ?_
    refine r_pure rfl rfl ?_
    refine r_callV_I rfl rfl (en_get (b := true) (k := 137) (L := 12) ⟨rfl, by decide⟩ rfl) (Nat.le_of_ble_eq_true rfl) (rf_X8_its (by omega) (q3 - (1 : Int32)) (0 : Int32) S) (fun q4 => ?_)
    refine r_pure rfl rfl ?_
    exact r_retI rfl rfl
/-! X8_compartment -/
def s_X8_compartment_J60 (v1 : Int32) (v2 : Int32) (S : HS) : Option (Int32 × HS) :=
  Option.bind (s_X8_holds v1 v2 S) fun q3 =>
  some (q3, S)
def s_X8_compartment (v1 : Int32) (v2 : Int32) (S : HS) : Option (Int32 × HS) :=
  Option.bind (pf S 137 0 (0 : Int32)) fun S1 =>
  Option.bind (s_X8_isHold v1 S1) fun q2 =>
  if q2 ≠ (0 : Int32) then
    if v2 = (0 : Int32) then
      s_X8_compartment_J60 v1 v2 S1
    else if v2 = (1 : Int32) then
      s_X8_compartment_J60 v1 v2 S1
    else if v2 = (2 : Int32) then
      s_X8_compartment_J60 v1 v2 S1
    else if v2 = (3 : Int32) then
      Option.bind (s_X8_top v1 S1) fun q4 =>
      some (q4, S1)
    else if v2 = (4 : Int32) then
      Option.bind (s_X8_holds v1 (3 : Int32) S1) fun q5 =>
      some (q5, S1)
    else if v2 = (5 : Int32) then
      Option.bind (s_X8_holds v1 (4 : Int32) S1) fun q6 =>
      some ((q6 - (1 : Int32)), S1)
    else if v2 = (6 : Int32) then
      Option.bind (s_X8_lastIn v1 S1) fun q7 =>
      some (q7, S1)
    else 
      some ((-1 : Int32), S1)
  else
    some ((-1 : Int32), S1)
set_option maxRecDepth 100000 in
theorem rj_X8_compartment_J60 {e : Nat} (he : 2 ≤ e) {O : HS} (v1 : Int32) (v2 : Int32) {n : Nat} (S : HS) : Lm (oIW true O) (s_X8_compartment_J60 v1 v2 S) (run (CF e) (k_X8_compartment false) (n + 5) 60 [some (.ref 137), some (.int v1), some (.int v2)] [] (en true O S)) := by
  unfold s_X8_compartment_J60
  refine r_pure rfl rfl ?_
  refine r_pure rfl rfl ?_
  refine r_pure rfl rfl ?_
  refine r_callV_I rfl rfl (en_get (b := true) (k := 137) (L := 12) ⟨rfl, by decide⟩ rfl) (Nat.le_of_ble_eq_true rfl) (rf_X8_holds (by omega) v1 v2 S) (fun q3 => ?_)
  exact r_retI rfl rfl
set_option maxRecDepth 100000 in
theorem rf_X8_compartment {d : Nat} (hd : 3 ≤ d) {O : HS} (v1 : Int32) (v2 : Int32) (S : HS) : Lm (oIW true O) (s_X8_compartment v1 v2 S) (CF d 141 [.ref 137, .int v1, .int v2] (en true O S)) := by
  unfold s_X8_compartment
  obtain ⟨e, rfl⟩ : ∃ e, d = e + 1 := ⟨d - 1, by omega⟩
  refine rm_of (lv := [some (.ref 137), some (.int v1), some (.int v2)]) (k_X8_compartment false) (by omega) rfl rfl (Nat.le_of_ble_eq_true rfl) ?_
  refine lm_le (n := 16) (by omega) ?_
  show Lm _ _ (run (CF e) _ _ _ _ _ _)
  refine r_pure rfl rfl ?_
  refine r_pure rfl rfl ?_
  refine r_putI rfl ⟨rfl, by decide⟩ rfl rfl rfl (fun S1 => ?_)
  refine r_pure rfl rfl ?_
  refine r_pure rfl rfl ?_
  refine r_callV_I rfl rfl (en_get (b := true) (k := 137) (L := 12) ⟨rfl, by decide⟩ rfl) (Nat.le_of_ble_eq_true rfl) (rf_X8_isHold (by omega) v1 S1) (fun q2 => ?_)
  refine r_if1 rfl rfl ?_ ?_
  · refine r_pure rfl rfl ?_
    refine r_sw rfl ?_
    refine sw_one (t := 60) (by decide) ?_ (fun hx0 => ?_)
    · exact lm_le (by omega) (rj_X8_compartment_J60 (n := 0) (by omega) v1 v2 S1)
    refine sw_one (t := 60) (by decide) ?_ (fun hx1 => ?_)
    · exact lm_le (by omega) (rj_X8_compartment_J60 (n := 0) (by omega) v1 v2 S1)
    refine sw_one (t := 60) (by decide) ?_ (fun hx2 => ?_)
    · exact lm_le (by omega) (rj_X8_compartment_J60 (n := 0) (by omega) v1 v2 S1)
    refine sw_one (t := 67) (by decide) ?_ (fun hx3 => ?_)
    · refine r_pure rfl rfl ?_
      refine r_pure rfl rfl ?_
      refine r_callV_I rfl rfl (en_get (b := true) (k := 137) (L := 12) ⟨rfl, by decide⟩ rfl) (Nat.le_of_ble_eq_true rfl) (rf_X8_top (by omega) v1 S1) (fun q4 => ?_)
      exact r_retI rfl rfl
    refine sw_one (t := 73) (by decide) ?_ (fun hx4 => ?_)
    · refine r_pure rfl rfl ?_
      refine r_pure rfl rfl ?_
      refine r_pure rfl rfl ?_
      refine r_callV_I rfl rfl (en_get (b := true) (k := 137) (L := 12) ⟨rfl, by decide⟩ rfl) (Nat.le_of_ble_eq_true rfl) (rf_X8_holds (by omega) v1 (3 : Int32) S1) (fun q5 => ?_)
      exact r_retI rfl rfl
    refine sw_one (t := 80) (by decide) ?_ (fun hx5 => ?_)
    · refine r_pure rfl rfl ?_
      refine r_pure rfl rfl ?_
      refine r_pure rfl rfl ?_
      refine r_callV_I rfl rfl (en_get (b := true) (k := 137) (L := 12) ⟨rfl, by decide⟩ rfl) (Nat.le_of_ble_eq_true rfl) (rf_X8_holds (by omega) v1 (4 : Int32) S1) (fun q6 => ?_)
      refine r_pure rfl rfl ?_
      refine r_pure rfl rfl ?_
      exact r_retI rfl rfl
    refine sw_one (t := 89) (by decide) ?_ (fun hx6 => ?_)
    · refine r_pure rfl rfl ?_
      refine r_pure rfl rfl ?_
      refine r_callV_I rfl rfl (en_get (b := true) (k := 137) (L := 12) ⟨rfl, by decide⟩ rfl) (Nat.le_of_ble_eq_true rfl) (rf_X8_lastIn (by omega) v1 S1) (fun q7 => ?_)
      exact r_retI rfl rfl
    refine sw_def (sw_out (m := 7) rfl (by decide) (fun k hk => (by
        match k, hk with
        | 0, _ => exact hx0
        | 1, _ => exact hx1
        | 2, _ => exact hx2
        | 3, _ => exact hx3
        | 4, _ => exact hx4
        | 5, _ => exact hx5
        | 6, _ => exact hx6
        | k + 7, hk => exact absurd hk (by omega)))) ?_
    refine r_pure rfl rfl ?_
    exact r_retI rfl rfl
  · refine r_pure rfl rfl ?_
    exact r_retI rfl rfl
/-! X8_isDrop -/
def s_X8_isDrop (v1 : Int32) (S : HS) : Option Int32 :=
  Option.bind (ag (ga S 139) (13 : Int32)) fun a1 =>
  Option.bind (s_X8_isIn v1 (0 : Int32) (a1 - (1 : Int32))) fun q2 =>
  Option.bind (gz q2) fun _ =>
  some q2
set_option maxRecDepth 100000 in
theorem rf_X8_isDrop {d : Nat} (hd : 2 ≤ d) {O : HS} (v1 : Int32) (S : HS) : Lm (oI (en true O S)) (s_X8_isDrop v1 S) (CF d 123 [.ref 137, .int v1] (en true O S)) := by
  unfold s_X8_isDrop
  obtain ⟨e, rfl⟩ : ∃ e, d = e + 1 := ⟨d - 1, by omega⟩
  refine rm_of (lv := [some (.ref 137), some (.int v1)]) (k_X8_isDrop false) (by omega) rfl rfl (Nat.le_of_ble_eq_true rfl) ?_
  refine lm_le (n := 10) (by omega) ?_
  show Lm _ _ (run (CF e) _ _ _ _ _ _)
  refine r_pure rfl rfl ?_
  refine r_pure rfl rfl ?_
  refine r_pure rfl rfl ?_
  refine r_get rfl (en_get (b := true) (k := 137) (L := 12) ⟨rfl, by decide⟩ rfl) (fo_get (S := S) rfl) ?_
  refine r_pure rfl rfl ?_
  refine r_iald rfl (en_get (b := true) (k := 139) (L := 0) ⟨rfl, by decide⟩ rfl) (fun a1 => ?_)
  refine r_pure rfl rfl ?_
  refine r_pure rfl rfl ?_
  refine r_callS_I rfl (Nat.le_of_ble_eq_true rfl) (Nat.le_of_ble_eq_true rfl) (rf_X8_isIn (by omega) v1 (0 : Int32) (a1 - (1 : Int32))) (fun q2 => ?_)
  exact r_retG rfl rfl rfl
/-! X8_refuse -/
def s_X8_refuse (S : HS) : Option (Int32 × HS) :=
  Option.bind (pf S 137 0 (1 : Int32)) fun S1 =>
  some ((0 : Int32), S1)
set_option maxRecDepth 100000 in
theorem rf_X8_refuse {d : Nat} (hd : 1 ≤ d) {O : HS} (S : HS) : Lm (oIW true O) (s_X8_refuse S) (CF d 93 [.ref 137] (en true O S)) := by
  unfold s_X8_refuse
  obtain ⟨e, rfl⟩ : ∃ e, d = e + 1 := ⟨d - 1, by omega⟩
  refine rm_of (lv := [some (.ref 137)]) (k_X8_refuse false) (by omega) rfl rfl (Nat.le_of_ble_eq_true rfl) ?_
  refine lm_le (n := 5) (by omega) ?_
  show Lm _ _ (run (CF e) _ _ _ _ _ _)
  refine r_pure rfl rfl ?_
  refine r_pure rfl rfl ?_
  refine r_putI rfl ⟨rfl, by decide⟩ rfl rfl rfl (fun S1 => ?_)
  refine r_pure rfl rfl ?_
  exact r_retI rfl rfl
/-! X8_loadedOf -/
def s_X8_loadedOf_L4 (v1 : Int32) (S : HS) : Nat → Int32 → Int32 → Option Int32
  | 0, _, _ => none
  | K + 1, v2, v3 =>
    Option.bind (ag (ga S 139) (9 : Int32)) fun a1 =>
    if a1 ≤ v3 then
      some v2
    else
      Option.bind (s_X8_holds v3 (4 : Int32) S) fun q2 =>
      if q2 ≠ (v1 + (1 : Int32)) then
        s_X8_loadedOf_L4 v1 S K v2 (v3 + (1 : Int32))
      else
        Option.bind (s_X8_holds v3 (3 : Int32) S) fun q3 =>
        s_X8_loadedOf_L4 v1 S K (v2 + q3) (v3 + (1 : Int32))
def s_X8_loadedOf (v1 : Int32) (S : HS) : Option Int32 :=
  s_X8_loadedOf_L4 v1 S 40 (0 : Int32) (0 : Int32)
set_option maxRecDepth 100000 in
theorem rl_X8_loadedOf_L4 {e : Nat} (he : 1 ≤ e) {O : HS} (v1 : Int32) (S : HS) {n : Nat} : ∀ (K : Nat) (v2 : Int32) (v3 : Int32), Lm (oI (en true O S)) (s_X8_loadedOf_L4 v1 S K v2 v3) (run (CF e) (k_X8_loadedOf false) (n + (23 * K + 0)) 4 [some (.ref 137), some (.int v1), some (.int v2), some (.int v3)] [] (en true O S)) := by
  intro K
  induction K with
  | zero =>
    intros
    exact lm_none
  | succ K ih =>
    intro v2 v3
    rw [show n + (23 * (K + 1) + 0) = n + (23 * K + 0) + 23 by omega]
    rw [s_X8_loadedOf_L4]
    refine r_pure rfl rfl ?_
    refine r_pure rfl rfl ?_
    refine r_get rfl (en_get (b := true) (k := 137) (L := 12) ⟨rfl, by decide⟩ rfl) (fo_get (S := S) rfl) ?_
    refine r_pure rfl rfl ?_
    refine r_iald rfl (en_get (b := true) (k := 139) (L := 0) ⟨rfl, by decide⟩ rfl) (fun a1 => ?_)
    refine r_if2 rfl rfl ?_ ?_
    · refine r_pure rfl rfl ?_
      exact r_retI rfl rfl
    · refine r_pure rfl rfl ?_
      refine r_pure rfl rfl ?_
      refine r_pure rfl rfl ?_
      refine r_callV_I rfl rfl (en_get (b := true) (k := 137) (L := 12) ⟨rfl, by decide⟩ rfl) (Nat.le_of_ble_eq_true rfl) (rf_X8_holds (by omega) v3 (4 : Int32) S) (fun q2 => ?_)
      refine r_pure rfl rfl ?_
      refine r_pure rfl rfl ?_
      refine r_pure rfl rfl ?_
      refine r_if2 rfl rfl ?_ ?_
      · refine r_pure (lv' := [some (.ref 137), some (.int v1), some (.int v2), some (.int (v3 + (1 : Int32)))]) rfl rfl ?_
        refine r_pure rfl rfl ?_
        exact lm_le (by omega) (ih v2 (v3 + (1 : Int32)))
      · refine r_pure rfl rfl ?_
        refine r_pure rfl rfl ?_
        refine r_pure rfl rfl ?_
        refine r_pure rfl rfl ?_
        refine r_callV_I rfl rfl (en_get (b := true) (k := 137) (L := 12) ⟨rfl, by decide⟩ rfl) (Nat.le_of_ble_eq_true rfl) (rf_X8_holds (by omega) v3 (3 : Int32) S) (fun q3 => ?_)
        refine r_pure rfl rfl ?_
        refine r_pure (lv' := [some (.ref 137), some (.int v1), some (.int (v2 + q3)), some (.int v3)]) rfl rfl ?_
        refine r_pure (lv' := [some (.ref 137), some (.int v1), some (.int (v2 + q3)), some (.int (v3 + (1 : Int32)))]) rfl rfl ?_
        refine r_pure rfl rfl ?_
        exact lm_le (by omega) (ih (v2 + q3) (v3 + (1 : Int32)))
set_option maxRecDepth 100000 in
theorem rf_X8_loadedOf {d : Nat} (hd : 2 ≤ d) {O : HS} (v1 : Int32) (S : HS) : Lm (oI (en true O S)) (s_X8_loadedOf v1 S) (CF d 129 [.ref 137, .int v1] (en true O S)) := by
  unfold s_X8_loadedOf
  obtain ⟨e, rfl⟩ : ∃ e, d = e + 1 := ⟨d - 1, by omega⟩
  refine rm_of (lv := [some (.ref 137), some (.int v1), none, none]) (k_X8_loadedOf false) (by omega) rfl rfl (Nat.le_of_ble_eq_true rfl) ?_
  refine lm_le (n := 924) (by omega) ?_
  show Lm _ _ (run (CF e) _ _ _ _ _ _)
  refine r_pure rfl rfl ?_
  refine r_pure (lv' := [some (.ref 137), some (.int v1), some (.int (0 : Int32)), none]) rfl rfl ?_
  refine r_pure rfl rfl ?_
  refine r_pure (lv' := [some (.ref 137), some (.int v1), some (.int (0 : Int32)), some (.int (0 : Int32))]) rfl rfl ?_
  exact lm_le (by omega) (rl_X8_loadedOf_L4 (n := 0) (by omega) v1 S 40 (0 : Int32) (0 : Int32))
/-! X8_drop -/
def s_X8_drop (v1 : Int32) (v2 : Int32) (S : HS) : Option (Int32 × HS) :=
  Option.bind (pf S 137 0 (0 : Int32)) fun S1 =>
  Option.bind (s_X8_isDrop v1 S1) fun q2 =>
  if q2 = (0 : Int32) then
    Option.bind (s_X8_refuse S1) fun q3 =>
    some (q3.1, q3.2)
  else
    Option.bind (s_X8_isIn v2 (0 : Int32) (5 : Int32)) fun q4 =>
    if q4 ≠ (0 : Int32) then
      if v2 ≠ (2 : Int32) then
        if (2 : Int32) ≤ v2 then
          Option.bind (s_X8_its v1 (v2 - (1 : Int32)) S1) fun q5 =>
          some (q5, S1)
        else
          Option.bind (s_X8_its v1 v2 S1) fun q6 =>
          some (q6, S1)
      else
        Option.bind (s_X8_loadedOf v1 S1) fun q7 =>
        some (q7, S1)
    else
      Option.bind (s_X8_refuse S1) fun q8 =>
      some (q8.1, q8.2)
set_option maxRecDepth 100000 in
theorem rf_X8_drop {d : Nat} (hd : 3 ≤ d) {O : HS} (v1 : Int32) (v2 : Int32) (S : HS) : Lm (oIW true O) (s_X8_drop v1 v2 S) (CF d 142 [.ref 137, .int v1, .int v2] (en true O S)) := by
  unfold s_X8_drop
  obtain ⟨e, rfl⟩ : ∃ e, d = e + 1 := ⟨d - 1, by omega⟩
  refine rm_of (lv := [some (.ref 137), some (.int v1), some (.int v2)]) (k_X8_drop false) (by omega) rfl rfl (Nat.le_of_ble_eq_true rfl) ?_
  refine lm_le (n := 25) (by omega) ?_
  show Lm _ _ (run (CF e) _ _ _ _ _ _)
  refine r_pure rfl rfl ?_
  refine r_pure rfl rfl ?_
  refine r_putI rfl ⟨rfl, by decide⟩ rfl rfl rfl (fun S1 => ?_)
  refine r_pure rfl rfl ?_
  refine r_pure rfl rfl ?_
  refine r_callV_I rfl rfl (en_get (b := true) (k := 137) (L := 12) ⟨rfl, by decide⟩ rfl) (Nat.le_of_ble_eq_true rfl) (rf_X8_isDrop (by omega) v1 S1) (fun q2 => ?_)
  refine r_if1 rfl rfl ?_ ?_
  · refine r_pure rfl rfl ?_
    refine r_callV_IW rfl rfl (en_get (b := true) (k := 137) (L := 12) ⟨rfl, by decide⟩ rfl) (Nat.le_of_ble_eq_true rfl) (rf_X8_refuse (by omega) S1) (fun q3 => ?_)
    exact r_retI rfl rfl
  · refine r_pure rfl rfl ?_
    refine r_pure rfl rfl ?_
    refine r_pure rfl rfl ?_
    refine r_callS_I rfl (Nat.le_of_ble_eq_true rfl) (Nat.le_of_ble_eq_true rfl) (rf_X8_isIn (by omega) v2 (0 : Int32) (5 : Int32)) (fun q4 => ?_)
    refine r_if1 rfl rfl ?_ ?_
    · refine r_pure rfl rfl ?_
      refine r_pure rfl rfl ?_
      refine r_if2 rfl rfl ?_ ?_
      · refine r_pure rfl rfl ?_
        refine r_pure rfl rfl ?_
        refine r_if2 rfl rfl ?_ ?_
        · refine r_pure rfl rfl ?_
          refine r_pure rfl rfl ?_
          refine r_pure rfl rfl ?_
          refine r_pure rfl rfl ?_
          refine r_pure rfl rfl ?_
          refine r_callV_I rfl rfl (en_get (b := true) (k := 137) (L := 12) ⟨rfl, by decide⟩ rfl) (Nat.le_of_ble_eq_true rfl) (rf_X8_its (by omega) v1 (v2 - (1 : Int32)) S1) (fun q5 => ?_)
          exact r_retI rfl rfl
        · refine r_pure rfl rfl ?_
          refine r_pure rfl rfl ?_
          refine r_pure rfl rfl ?_
          refine r_callV_I rfl rfl (en_get (b := true) (k := 137) (L := 12) ⟨rfl, by decide⟩ rfl) (Nat.le_of_ble_eq_true rfl) (rf_X8_its (by omega) v1 v2 S1) (fun q6 => ?_)
          refine r_pure rfl rfl ?_
          exact r_retI rfl rfl
      · refine r_pure rfl rfl ?_
        refine r_pure rfl rfl ?_
        refine r_callV_I rfl rfl (en_get (b := true) (k := 137) (L := 12) ⟨rfl, by decide⟩ rfl) (Nat.le_of_ble_eq_true rfl) (rf_X8_loadedOf (by omega) v1 S1) (fun q7 => ?_)
        refine r_pure rfl rfl ?_
        exact r_retI rfl rfl
    · refine r_pure rfl rfl ?_
      refine r_callV_IW rfl rfl (en_get (b := true) (k := 137) (L := 12) ⟨rfl, by decide⟩ rfl) (Nat.le_of_ble_eq_true rfl) (rf_X8_refuse (by omega) S1) (fun q8 => ?_)
      exact r_retI rfl rfl
/-! X8_isLiquid -/
def s_X8_isLiquid (v1 : Int32) (S : HS) : Option Int32 :=
  Option.bind (ag (ga S 139) (10 : Int32)) fun a1 =>
  Option.bind (s_X8_isIn v1 (0 : Int32) (a1 - (1 : Int32))) fun q2 =>
  Option.bind (gz q2) fun _ =>
  some q2
set_option maxRecDepth 100000 in
theorem rf_X8_isLiquid {d : Nat} (hd : 2 ≤ d) {O : HS} (v1 : Int32) (S : HS) : Lm (oI (en true O S)) (s_X8_isLiquid v1 S) (CF d 122 [.ref 137, .int v1] (en true O S)) := by
  unfold s_X8_isLiquid
  obtain ⟨e, rfl⟩ : ∃ e, d = e + 1 := ⟨d - 1, by omega⟩
  refine rm_of (lv := [some (.ref 137), some (.int v1)]) (k_X8_isLiquid false) (by omega) rfl rfl (Nat.le_of_ble_eq_true rfl) ?_
  refine lm_le (n := 10) (by omega) ?_
  show Lm _ _ (run (CF e) _ _ _ _ _ _)
  refine r_pure rfl rfl ?_
  refine r_pure rfl rfl ?_
  refine r_pure rfl rfl ?_
  refine r_get rfl (en_get (b := true) (k := 137) (L := 12) ⟨rfl, by decide⟩ rfl) (fo_get (S := S) rfl) ?_
  refine r_pure rfl rfl ?_
  refine r_iald rfl (en_get (b := true) (k := 139) (L := 0) ⟨rfl, by decide⟩ rfl) (fun a1 => ?_)
  refine r_pure rfl rfl ?_
  refine r_pure rfl rfl ?_
  refine r_callS_I rfl (Nat.le_of_ble_eq_true rfl) (Nat.le_of_ble_eq_true rfl) (rf_X8_isIn (by omega) v1 (0 : Int32) (a1 - (1 : Int32))) (fun q2 => ?_)
  exact r_retG rfl rfl rfl
/-! X8_mayCome -/
def s_X8_mayCome (v1 : Int32) (v2 : Int32) (v3 : Int32) (S : HS) : Option Int32 :=
  Option.bind (s_X8_has v3 v1) fun q1 =>
  if q1 ≠ (0 : Int32) then
    some (1 : Int32)
  else
    Option.bind (s_X8_lastIn v1 S) fun q2 =>
    if q2 = (-1 : Int32) then
      some (1 : Int32)
    else
      Option.bind (s_X8_lastIn v1 S) fun q3 =>
      Option.bind (ag (ga S 139) ((21 : Int32) + q3)) fun a4 =>
      Option.bind (s_X8_has a4 v2) fun q5 =>
      if q5 ≠ (0 : Int32) then
        some (0 : Int32)
      else
        some (1 : Int32)
set_option maxRecDepth 100000 in
theorem rf_X8_mayCome {d : Nat} (hd : 3 ≤ d) {O : HS} (v1 : Int32) (v2 : Int32) (v3 : Int32) (S : HS) : Lm (oI (en true O S)) (s_X8_mayCome v1 v2 v3 S) (CF d 128 [.ref 137, .int v1, .int v2, .int v3] (en true O S)) := by
  unfold s_X8_mayCome
  obtain ⟨e, rfl⟩ : ∃ e, d = e + 1 := ⟨d - 1, by omega⟩
  refine rm_of (lv := [some (.ref 137), some (.int v1), some (.int v2), some (.int v3)]) (k_X8_mayCome false) (by omega) rfl rfl (Nat.le_of_ble_eq_true rfl) ?_
  refine lm_le (n := 23) (by omega) ?_
  show Lm _ _ (run (CF e) _ _ _ _ _ _)
  refine r_pure rfl rfl ?_
  refine r_pure rfl rfl ?_
  refine r_callS_I rfl (Nat.le_of_ble_eq_true rfl) (Nat.le_of_ble_eq_true rfl) (rf_X8_has (by omega) v3 v1) (fun q1 => ?_)
  refine r_if1 rfl rfl ?_ ?_
  · refine r_pure rfl rfl ?_
    refine r_pure rfl rfl ?_
    exact r_retZ rfl (Or.inr rfl) rfl
  · refine r_pure rfl rfl ?_
    refine r_pure rfl rfl ?_
    refine r_callV_I rfl rfl (en_get (b := true) (k := 137) (L := 12) ⟨rfl, by decide⟩ rfl) (Nat.le_of_ble_eq_true rfl) (rf_X8_lastIn (by omega) v1 S) (fun q2 => ?_)
    refine r_pure rfl rfl ?_
    refine r_if2 rfl rfl ?_ ?_
    · refine r_pure rfl rfl ?_
      refine r_pure rfl rfl ?_
      exact r_retZ rfl (Or.inr rfl) rfl
    · refine r_pure rfl rfl ?_
      refine r_get rfl (en_get (b := true) (k := 137) (L := 12) ⟨rfl, by decide⟩ rfl) (fo_get (S := S) rfl) ?_
      refine r_pure rfl rfl ?_
      refine r_pure rfl rfl ?_
      refine r_pure rfl rfl ?_
      refine r_callV_I rfl rfl (en_get (b := true) (k := 137) (L := 12) ⟨rfl, by decide⟩ rfl) (Nat.le_of_ble_eq_true rfl) (rf_X8_lastIn (by omega) v1 S) (fun q3 => ?_)
      refine r_pure rfl rfl ?_
      refine r_iald rfl (en_get (b := true) (k := 139) (L := 0) ⟨rfl, by decide⟩ rfl) (fun a4 => ?_)
      refine r_pure rfl rfl ?_
      refine r_callS_I rfl (Nat.le_of_ble_eq_true rfl) (Nat.le_of_ble_eq_true rfl) (rf_X8_has (by omega) a4 v2) (fun q5 => ?_)
      refine r_if1 rfl rfl ?_ ?_
      · refine r_pure rfl rfl ?_
        exact r_retZ rfl (Or.inl rfl) rfl
      · refine r_pure rfl rfl ?_
        refine r_pure rfl rfl ?_
        exact r_retZ rfl (Or.inr rfl) rfl
/-! X8_may -/
def s_X8_may (v1 : Int32) (v2 : Int32) (S : HS) : Option (Int32 × HS) :=
  Option.bind (pf S 137 0 (0 : Int32)) fun S1 =>
  Option.bind (s_X8_isHold v1 S1) fun q2 =>
  if q2 = (0 : Int32) then
    some ((0 : Int32), S1)
  else
    Option.bind (s_X8_isLiquid v2 S1) fun q3 =>
    if q3 = (0 : Int32) then
      some ((0 : Int32), S1)
    else
      Option.bind (s_X8_mayCome v1 v2 (0 : Int32) S1) fun q4 =>
      if q4 = (0 : Int32) then
        some ((0 : Int32), S1)
      else
        some ((1 : Int32), S1)
set_option maxRecDepth 100000 in
theorem rf_X8_may {d : Nat} (hd : 4 ≤ d) {O : HS} (v1 : Int32) (v2 : Int32) (S : HS) : Lm (oIW true O) (s_X8_may v1 v2 S) (CF d 143 [.ref 137, .int v1, .int v2] (en true O S)) := by
  unfold s_X8_may
  obtain ⟨e, rfl⟩ : ∃ e, d = e + 1 := ⟨d - 1, by omega⟩
  refine rm_of (lv := [some (.ref 137), some (.int v1), some (.int v2)]) (k_X8_may false) (by omega) rfl rfl (Nat.le_of_ble_eq_true rfl) ?_
  refine lm_le (n := 20) (by omega) ?_
  show Lm _ _ (run (CF e) _ _ _ _ _ _)
  refine r_pure rfl rfl ?_
  refine r_pure rfl rfl ?_
  refine r_putI rfl ⟨rfl, by decide⟩ rfl rfl rfl (fun S1 => ?_)
  refine r_pure rfl rfl ?_
  refine r_pure rfl rfl ?_
  refine r_callV_I rfl rfl (en_get (b := true) (k := 137) (L := 12) ⟨rfl, by decide⟩ rfl) (Nat.le_of_ble_eq_true rfl) (rf_X8_isHold (by omega) v1 S1) (fun q2 => ?_)
  refine r_if1 rfl rfl ?_ ?_
  · refine r_pure rfl rfl ?_
    exact r_retZ rfl (Or.inl rfl) rfl
  · refine r_pure rfl rfl ?_
    refine r_pure rfl rfl ?_
    refine r_callV_I rfl rfl (en_get (b := true) (k := 137) (L := 12) ⟨rfl, by decide⟩ rfl) (Nat.le_of_ble_eq_true rfl) (rf_X8_isLiquid (by omega) v2 S1) (fun q3 => ?_)
    refine r_if1 rfl rfl ?_ ?_
    · refine r_pure rfl rfl ?_
      exact r_retZ rfl (Or.inl rfl) rfl
    · refine r_pure rfl rfl ?_
      refine r_pure rfl rfl ?_
      refine r_pure rfl rfl ?_
      refine r_pure rfl rfl ?_
      refine r_callV_I rfl rfl (en_get (b := true) (k := 137) (L := 12) ⟨rfl, by decide⟩ rfl) (Nat.le_of_ble_eq_true rfl) (rf_X8_mayCome (by omega) v1 v2 (0 : Int32) S1) (fun q4 => ?_)
      refine r_if1 rfl rfl ?_ ?_
      · refine r_pure rfl rfl ?_
        exact r_retZ rfl (Or.inl rfl) rfl
      · refine r_pure rfl rfl ?_
        refine r_pure rfl rfl ?_
        exact r_retZ rfl (Or.inr rfl) rfl
/-! X8_would -/
def s_X8_would (v1 : Int32) (v2 : Int32) (v3 : Int32) (S : HS) : Option (Int32 × HS) :=
  Option.bind (pf S 137 0 (0 : Int32)) fun S1 =>
  Option.bind (s_X8_isHold v1 S1) fun q2 =>
  if q2 = (0 : Int32) then
    some ((-1 : Int32), S1)
  else
    Option.bind (s_X8_isLiquid v2 S1) fun q3 =>
    if q3 = (0 : Int32) then
      some ((-1 : Int32), S1)
    else
      Option.bind (s_X8_holds v1 (0 : Int32) S1) fun q4 =>
      Option.bind (s_X8_isIn v3 (0 : Int32) q4) fun q5 =>
      if q5 ≠ (0 : Int32) then
        Option.bind (s_X8_laysNow S1) fun q6 =>
        Option.bind (wa q6 142 v1 v3) fun S7 =>
        Option.bind (wa S7 143 v1 v2) fun S8 =>
        Option.bind (wa S8 144 v1 (-1 : Int32)) fun S9 =>
        Option.bind (s_X8_stands (0 : Int32) S9) fun q10 =>
        some (q10, S9)
      else
        some ((-1 : Int32), S1)
set_option maxRecDepth 100000 in
theorem rf_X8_would {d : Nat} (hd : 5 ≤ d) {O : HS} (v1 : Int32) (v2 : Int32) (v3 : Int32) (S : HS) : Lm (oIW true O) (s_X8_would v1 v2 v3 S) (CF d 144 [.ref 137, .int v1, .int v2, .int v3] (en true O S)) := by
  unfold s_X8_would
  obtain ⟨e, rfl⟩ : ∃ e, d = e + 1 := ⟨d - 1, by omega⟩
  refine rm_of (lv := [some (.ref 137), some (.int v1), some (.int v2), some (.int v3)]) (k_X8_would false) (by omega) rfl rfl (Nat.le_of_ble_eq_true rfl) ?_
  refine lm_le (n := 40) (by omega) ?_
  show Lm _ _ (run (CF e) _ _ _ _ _ _)
  refine r_pure rfl rfl ?_
  refine r_pure rfl rfl ?_
  refine r_putI rfl ⟨rfl, by decide⟩ rfl rfl rfl (fun S1 => ?_)
  refine r_pure rfl rfl ?_
  refine r_pure rfl rfl ?_
  refine r_callV_I rfl rfl (en_get (b := true) (k := 137) (L := 12) ⟨rfl, by decide⟩ rfl) (Nat.le_of_ble_eq_true rfl) (rf_X8_isHold (by omega) v1 S1) (fun q2 => ?_)
  refine r_if1 rfl rfl ?_ ?_
  · refine r_pure rfl rfl ?_
    exact r_retI rfl rfl
  · refine r_pure rfl rfl ?_
    refine r_pure rfl rfl ?_
    refine r_callV_I rfl rfl (en_get (b := true) (k := 137) (L := 12) ⟨rfl, by decide⟩ rfl) (Nat.le_of_ble_eq_true rfl) (rf_X8_isLiquid (by omega) v2 S1) (fun q3 => ?_)
    refine r_if1 rfl rfl ?_ ?_
    · refine r_pure rfl rfl ?_
      exact r_retI rfl rfl
    · refine r_pure rfl rfl ?_
      refine r_pure rfl rfl ?_
      refine r_pure rfl rfl ?_
      refine r_pure rfl rfl ?_
      refine r_pure rfl rfl ?_
      refine r_callV_I rfl rfl (en_get (b := true) (k := 137) (L := 12) ⟨rfl, by decide⟩ rfl) (Nat.le_of_ble_eq_true rfl) (rf_X8_holds (by omega) v1 (0 : Int32) S1) (fun q4 => ?_)
      refine r_callS_I rfl (Nat.le_of_ble_eq_true rfl) (Nat.le_of_ble_eq_true rfl) (rf_X8_isIn (by omega) v3 (0 : Int32) q4) (fun q5 => ?_)
      refine r_if1 rfl rfl ?_ ?_
      · refine r_pure rfl rfl ?_
        refine r_callV_VW rfl rfl (en_get (b := true) (k := 137) (L := 12) ⟨rfl, by decide⟩ rfl) (Nat.le_of_ble_eq_true rfl) (rf_X8_laysNow (by omega) S1) (fun q6 => ?_)
        refine r_pure rfl rfl ?_
        refine r_get rfl (en_get (b := true) (k := 137) (L := 12) ⟨rfl, by decide⟩ rfl) (fo_get (S := q6) rfl) ?_
        refine r_pure rfl rfl ?_
        refine r_pure rfl rfl ?_
        refine r_iastI rfl ⟨rfl, by decide⟩ rfl (fun S7 => ?_)
        refine r_pure rfl rfl ?_
        refine r_get rfl (en_get (b := true) (k := 137) (L := 12) ⟨rfl, by decide⟩ rfl) (fo_get (S := S7) rfl) ?_
        refine r_pure rfl rfl ?_
        refine r_pure rfl rfl ?_
        refine r_iastI rfl ⟨rfl, by decide⟩ rfl (fun S8 => ?_)
        refine r_pure rfl rfl ?_
        refine r_get rfl (en_get (b := true) (k := 137) (L := 12) ⟨rfl, by decide⟩ rfl) (fo_get (S := S8) rfl) ?_
        refine r_pure rfl rfl ?_
        refine r_pure rfl rfl ?_
        refine r_iastI rfl ⟨rfl, by decide⟩ rfl (fun S9 => ?_)
        refine r_pure rfl rfl ?_
        refine r_pure rfl rfl ?_
        refine r_callV_I rfl rfl (en_get (b := true) (k := 137) (L := 12) ⟨rfl, by decide⟩ rfl) (Nat.le_of_ble_eq_true rfl) (rf_X8_stands (by omega) (0 : Int32) S9) (fun q10 => ?_)
        exact r_retI rfl rfl
      · refine r_pure rfl rfl ?_
        exact r_retI rfl rfl
/-! X8_aboardNow -/
def s_X8_aboardNow_L4 (S : HS) : Nat → Int32 → Int32 → Option Int32
  | 0, _, _ => none
  | K + 1, v1, v2 =>
    Option.bind (ag (ga S 139) (13 : Int32)) fun a1 =>
    if a1 ≤ v2 then
      some v1
    else
      Option.bind (s_X8_its v2 (2 : Int32) S) fun q2 =>
      if q2 ≠ (1 : Int32) then
        s_X8_aboardNow_L4 S K v1 (v2 + (1 : Int32))
      else
        s_X8_aboardNow_L4 S K (v1 ||| ((1 : Int32) <<< (v2 &&& (31 : Int32)))) (v2 + (1 : Int32))
def s_X8_aboardNow (S : HS) : Option Int32 :=
  s_X8_aboardNow_L4 S 40 (0 : Int32) (0 : Int32)
set_option maxRecDepth 100000 in
theorem rl_X8_aboardNow_L4 {e : Nat} (he : 1 ≤ e) {O : HS} (S : HS) {n : Nat} : ∀ (K : Nat) (v1 : Int32) (v2 : Int32), Lm (oI (en true O S)) (s_X8_aboardNow_L4 S K v1 v2) (run (CF e) (k_X8_aboardNow false) (n + (20 * K + 0)) 4 [some (.ref 137), some (.int v1), some (.int v2)] [] (en true O S)) := by
  intro K
  induction K with
  | zero =>
    intros
    exact lm_none
  | succ K ih =>
    intro v1 v2
    rw [show n + (20 * (K + 1) + 0) = n + (20 * K + 0) + 20 by omega]
    rw [s_X8_aboardNow_L4]
    refine r_pure rfl rfl ?_
    refine r_pure rfl rfl ?_
    refine r_get rfl (en_get (b := true) (k := 137) (L := 12) ⟨rfl, by decide⟩ rfl) (fo_get (S := S) rfl) ?_
    refine r_pure rfl rfl ?_
    refine r_iald rfl (en_get (b := true) (k := 139) (L := 0) ⟨rfl, by decide⟩ rfl) (fun a1 => ?_)
    refine r_if2 rfl rfl ?_ ?_
    · refine r_pure rfl rfl ?_
      exact r_retI rfl rfl
    · refine r_pure rfl rfl ?_
      refine r_pure rfl rfl ?_
      refine r_pure rfl rfl ?_
      refine r_callV_I rfl rfl (en_get (b := true) (k := 137) (L := 12) ⟨rfl, by decide⟩ rfl) (Nat.le_of_ble_eq_true rfl) (rf_X8_its (by omega) v2 (2 : Int32) S) (fun q2 => ?_)
      refine r_pure rfl rfl ?_
      refine r_if2 rfl rfl ?_ ?_
      · refine r_pure (lv' := [some (.ref 137), some (.int v1), some (.int (v2 + (1 : Int32)))]) rfl rfl ?_
        refine r_pure rfl rfl ?_
        exact lm_le (by omega) (ih v1 (v2 + (1 : Int32)))
      · refine r_pure rfl rfl ?_
        refine r_pure rfl rfl ?_
        refine r_pure rfl rfl ?_
        refine r_pure rfl rfl ?_
        refine r_pure rfl rfl ?_
        refine r_pure (lv' := [some (.ref 137), some (.int (v1 ||| ((1 : Int32) <<< (v2 &&& (31 : Int32))))), some (.int v2)]) rfl rfl ?_
        refine r_pure (lv' := [some (.ref 137), some (.int (v1 ||| ((1 : Int32) <<< (v2 &&& (31 : Int32))))), some (.int (v2 + (1 : Int32)))]) rfl rfl ?_
        refine r_pure rfl rfl ?_
        exact lm_le (by omega) (ih (v1 ||| ((1 : Int32) <<< (v2 &&& (31 : Int32)))) (v2 + (1 : Int32)))
set_option maxRecDepth 100000 in
theorem rf_X8_aboardNow {d : Nat} (hd : 2 ≤ d) {O : HS} (S : HS) : Lm (oI (en true O S)) (s_X8_aboardNow S) (CF d 138 [.ref 137] (en true O S)) := by
  unfold s_X8_aboardNow
  obtain ⟨e, rfl⟩ : ∃ e, d = e + 1 := ⟨d - 1, by omega⟩
  refine rm_of (lv := [some (.ref 137), none, none]) (k_X8_aboardNow false) (by omega) rfl rfl (Nat.le_of_ble_eq_true rfl) ?_
  refine lm_le (n := 804) (by omega) ?_
  show Lm _ _ (run (CF e) _ _ _ _ _ _)
  refine r_pure rfl rfl ?_
  refine r_pure (lv' := [some (.ref 137), some (.int (0 : Int32)), none]) rfl rfl ?_
  refine r_pure rfl rfl ?_
  refine r_pure (lv' := [some (.ref 137), some (.int (0 : Int32)), some (.int (0 : Int32))]) rfl rfl ?_
  exact lm_le (by omega) (rl_X8_aboardNow_L4 (n := 0) (by omega) S 40 (0 : Int32) (0 : Int32))
/-! X8_ordersFrom -/
def s_X8_ordersFrom_L55 (self : Int32 → Int32 → Int32 → HS → Option (Int32 × HS)) (v1 : Int32) (v2 : Int32) (v3 : Int32) : Nat → Int32 → Int32 → HS → Option (Int32 × HS)
  | 0, _, _, _ => none
  | K + 1, v4, v5, S =>
    Option.bind (ag (ga S 139) (13 : Int32)) fun a1 =>
    if a1 ≤ v5 then
      some (v4, S)
    else
      Option.bind (s_X8_has v1 v5) fun q2 =>
      if q2 = (0 : Int32) then
        s_X8_ordersFrom_L55 self v1 v2 v3 K v4 (v5 + (1 : Int32)) S
      else
        Option.bind (s_X8_has v2 v5) fun q3 =>
        if q3 ≠ (0 : Int32) then
          s_X8_ordersFrom_L55 self v1 v2 v3 K v4 (v5 + (1 : Int32)) S
        else
          Option.bind (s_X8_stands (v2 ||| ((1 : Int32) <<< (v5 &&& (31 : Int32)))) S) fun q4 =>
          if q4 = (0 : Int32) then
            Option.bind (wa S 146 v3 v5) fun S5 =>
            Option.bind (self v1 (v2 ||| ((1 : Int32) <<< (v5 &&& (31 : Int32)))) (v3 + (1 : Int32)) S5) fun q6 =>
            s_X8_ordersFrom_L55 self v1 v2 v3 K (v4 + q6.1) (v5 + (1 : Int32)) q6.2
          else
            s_X8_ordersFrom_L55 self v1 v2 v3 K v4 (v5 + (1 : Int32)) S
def s_X8_ordersFrom_L21 (self : Int32 → Int32 → Int32 → HS → Option (Int32 × HS)) (v3 : Int32) : Nat → Int32 → HS → Option (Int32 × HS)
  | 0, _, _ => none
  | K + 1, v4, S =>
    if v3 ≤ v4 then
      some ((1 : Int32), S)
    else
      Option.bind (ag (ga S 146) v4) fun a8 =>
      Option.bind (wa S 145 v4 a8) fun S9 =>
      s_X8_ordersFrom_L21 self v3 K (v4 + (1 : Int32)) S9
def s_X8_ordersFrom_B (self : Int32 → Int32 → Int32 → HS → Option (Int32 × HS)) (v1 : Int32) (v2 : Int32) (v3 : Int32) (S : HS) : Option (Int32 × HS) :=
  if v2 ≠ v1 then
    s_X8_ordersFrom_L55 self v1 v2 v3 40 (0 : Int32) (0 : Int32) S
  else
    if (gf S 137 21) ≠ (-1 : Int32) then
      some ((1 : Int32), S)
    else
      Option.bind (pf S 137 21 v3) fun S7 =>
      s_X8_ordersFrom_L21 self v3 40 (0 : Int32) S7
def s_X8_ordersFrom : Nat → Int32 → Int32 → Int32 → HS → Option (Int32 × HS)
  | 0, _, _, _, _ => none
  | r + 1, v1, v2, v3, S => s_X8_ordersFrom_B (s_X8_ordersFrom r) v1 v2 v3 S
set_option maxRecDepth 100000 in
theorem rl_X8_ordersFrom_L55 {e : Nat} (he : 4 ≤ e) {O : HS} (self : Int32 → Int32 → Int32 → HS → Option (Int32 × HS)) (hself : ∀ (v1 : Int32) (v2 : Int32) (v3 : Int32) (S : HS), Lm (oIW true O) (self v1 v2 v3 S) (CF e 136 [.ref 137, .int v1, .int v2, .int v3] (en true O S))) (v1 : Int32) (v2 : Int32) (v3 : Int32) {n : Nat} : ∀ (K : Nat) (v4 : Int32) (v5 : Int32) (S : HS), Lm (oIW true O) (s_X8_ordersFrom_L55 self v1 v2 v3 K v4 v5 S) (run (CF e) (k_X8_ordersFrom false) (n + (43 * K + 0)) 55 [some (.ref 137), some (.int v1), some (.int v2), some (.int v3), some (.int v4), some (.int v5)] [] (en true O S)) := by
  intro K
  induction K with
  | zero =>
    intros
    exact lm_none
  | succ K ih =>
    intro v4 v5 S
    rw [show n + (43 * (K + 1) + 0) = n + (43 * K + 0) + 43 by omega]
    rw [s_X8_ordersFrom_L55]
    refine r_pure rfl rfl ?_
    refine r_pure rfl rfl ?_
    refine r_get rfl (en_get (b := true) (k := 137) (L := 12) ⟨rfl, by decide⟩ rfl) (fo_get (S := S) rfl) ?_
    refine r_pure rfl rfl ?_
    refine r_iald rfl (en_get (b := true) (k := 139) (L := 0) ⟨rfl, by decide⟩ rfl) (fun a1 => ?_)
    refine r_if2 rfl rfl ?_ ?_
    · refine r_pure rfl rfl ?_
      exact r_retI rfl rfl
    · refine r_pure rfl rfl ?_
      refine r_pure rfl rfl ?_
      refine r_callS_I rfl (Nat.le_of_ble_eq_true rfl) (Nat.le_of_ble_eq_true rfl) (rf_X8_has (by omega) v1 v5) (fun q2 => ?_)
      refine r_if1 rfl rfl ?_ ?_
      · refine r_pure (lv' := [some (.ref 137), some (.int v1), some (.int v2), some (.int v3), some (.int v4), some (.int (v5 + (1 : Int32)))]) rfl rfl ?_
        refine r_pure rfl rfl ?_
        exact lm_le (by omega) (ih v4 (v5 + (1 : Int32)) S)
      · refine r_pure rfl rfl ?_
        refine r_pure rfl rfl ?_
        refine r_callS_I rfl (Nat.le_of_ble_eq_true rfl) (Nat.le_of_ble_eq_true rfl) (rf_X8_has (by omega) v2 v5) (fun q3 => ?_)
        refine r_if1 rfl rfl ?_ ?_
        · refine r_pure (lv' := [some (.ref 137), some (.int v1), some (.int v2), some (.int v3), some (.int v4), some (.int (v5 + (1 : Int32)))]) rfl rfl ?_
          refine r_pure rfl rfl ?_
          exact lm_le (by omega) (ih v4 (v5 + (1 : Int32)) S)
        · refine r_pure rfl rfl ?_
          refine r_pure rfl rfl ?_
          refine r_pure rfl rfl ?_
          refine r_pure rfl rfl ?_
          refine r_pure rfl rfl ?_
          refine r_pure rfl rfl ?_
          refine r_callV_I rfl rfl (en_get (b := true) (k := 137) (L := 12) ⟨rfl, by decide⟩ rfl) (Nat.le_of_ble_eq_true rfl) (rf_X8_stands (by omega) (v2 ||| ((1 : Int32) <<< (v5 &&& (31 : Int32)))) S) (fun q4 => ?_)
          refine r_if1 rfl rfl ?_ ?_
          · refine r_pure rfl rfl ?_
            refine r_get rfl (en_get (b := true) (k := 137) (L := 12) ⟨rfl, by decide⟩ rfl) (fo_get (S := S) rfl) ?_
            refine r_pure rfl rfl ?_
            refine r_pure rfl rfl ?_
            refine r_iastI rfl ⟨rfl, by decide⟩ rfl (fun S5 => ?_)
            refine r_pure rfl rfl ?_
            refine r_pure rfl rfl ?_
            refine r_pure rfl rfl ?_
            refine r_pure rfl rfl ?_
            refine r_pure rfl rfl ?_
            refine r_pure rfl rfl ?_
            refine r_pure rfl rfl ?_
            refine r_pure rfl rfl ?_
            refine r_pure rfl rfl ?_
            refine r_pure rfl rfl ?_
            refine r_pure rfl rfl ?_
            refine r_callV_IW rfl rfl (en_get (b := true) (k := 137) (L := 12) ⟨rfl, by decide⟩ rfl) (Nat.le_of_ble_eq_true rfl) (hself v1 (v2 ||| ((1 : Int32) <<< (v5 &&& (31 : Int32)))) (v3 + (1 : Int32)) S5) (fun q6 => ?_)
            refine r_pure rfl rfl ?_
            refine r_pure (lv' := [some (.ref 137), some (.int v1), some (.int v2), some (.int v3), some (.int (v4 + q6.1)), some (.int v5)]) rfl rfl ?_
            refine r_pure (lv' := [some (.ref 137), some (.int v1), some (.int v2), some (.int v3), some (.int (v4 + q6.1)), some (.int (v5 + (1 : Int32)))]) rfl rfl ?_
            refine r_pure rfl rfl ?_
            exact lm_le (by omega) (ih (v4 + q6.1) (v5 + (1 : Int32)) q6.2)
          · refine r_pure rfl rfl ?_
            refine r_pure (lv' := [some (.ref 137), some (.int v1), some (.int v2), some (.int v3), some (.int v4), some (.int (v5 + (1 : Int32)))]) rfl rfl ?_
            refine r_pure rfl rfl ?_
            exact lm_le (by omega) (ih v4 (v5 + (1 : Int32)) S)
set_option maxRecDepth 100000 in
theorem rl_X8_ordersFrom_L21 {e : Nat} (he : 4 ≤ e) {O : HS} (self : Int32 → Int32 → Int32 → HS → Option (Int32 × HS)) (hself : ∀ (v1 : Int32) (v2 : Int32) (v3 : Int32) (S : HS), Lm (oIW true O) (self v1 v2 v3 S) (CF e 136 [.ref 137, .int v1, .int v2, .int v3] (en true O S))) (v3 : Int32) {n : Nat} : ∀ (K : Nat) (v4 : Int32) (S : HS) (j1 : Option Value) (j2 : Option Value) (j5 : Option Value), Lm (oIW true O) (s_X8_ordersFrom_L21 self v3 K v4 S) (run (CF e) (k_X8_ordersFrom false) (n + (13 * K + 0)) 21 [some (.ref 137), j1, j2, some (.int v3), some (.int v4), j5] [] (en true O S)) := by
  intro K
  induction K with
  | zero =>
    intros
    exact lm_none
  | succ K ih =>
    intro v4 S j1 j2 j5
    rw [show n + (13 * (K + 1) + 0) = n + (13 * K + 0) + 13 by omega]
    rw [s_X8_ordersFrom_L21]
    refine r_pure rfl rfl ?_
    refine r_pure rfl rfl ?_
    refine r_if2 rfl rfl ?_ ?_
    · refine r_pure rfl rfl ?_
      exact r_retI rfl rfl
    · refine r_pure rfl rfl ?_
      refine r_get rfl (en_get (b := true) (k := 137) (L := 12) ⟨rfl, by decide⟩ rfl) (fo_get (S := S) rfl) ?_
      refine r_pure rfl rfl ?_
      refine r_pure rfl rfl ?_
      refine r_get rfl (en_get (b := true) (k := 137) (L := 12) ⟨rfl, by decide⟩ rfl) (fo_get (S := S) rfl) ?_
      refine r_pure rfl rfl ?_
      refine r_iald rfl (en_get (b := true) (k := 146) (L := 0) ⟨rfl, by decide⟩ rfl) (fun a8 => ?_)
      refine r_iastI rfl ⟨rfl, by decide⟩ rfl (fun S9 => ?_)
      refine r_pure (lv' := [some (.ref 137), _, _, some (.int v3), some (.int (v4 + (1 : Int32))), _]) rfl rfl ?_
      refine r_pure rfl rfl ?_
      exact lm_le (by omega) (ih (v4 + (1 : Int32)) S9 _ _ _)
set_option maxRecDepth 100000 in
theorem rb_X8_ordersFrom {e : Nat} (he : 4 ≤ e) {O : HS} (self : Int32 → Int32 → Int32 → HS → Option (Int32 × HS)) (hself : ∀ (v1 : Int32) (v2 : Int32) (v3 : Int32) (S : HS), Lm (oIW true O) (self v1 v2 v3 S) (CF e 136 [.ref 137, .int v1, .int v2, .int v3] (en true O S))) (v1 : Int32) (v2 : Int32) (v3 : Int32) (S : HS) : Lm (oIW true O) (s_X8_ordersFrom_B self v1 v2 v3 S) (CF (e + 1) 136 [.ref 137, .int v1, .int v2, .int v3] (en true O S)) := by
  unfold s_X8_ordersFrom_B
  refine rm_of (lv := [some (.ref 137), some (.int v1), some (.int v2), some (.int v3), none, none]) (k_X8_ordersFrom false) (by omega) rfl rfl (Nat.le_of_ble_eq_true rfl) ?_
  refine lm_le (n := 1727) (by omega) ?_
  show Lm _ _ (run (CF e) _ _ _ _ _ _)
  refine r_pure rfl rfl ?_
  refine r_pure rfl rfl ?_
  refine r_if2 rfl rfl ?_ ?_
  · refine r_pure rfl rfl ?_
    refine r_pure (lv' := [some (.ref 137), some (.int v1), some (.int v2), some (.int v3), some (.int (0 : Int32)), none]) rfl rfl ?_
    refine r_pure rfl rfl ?_
    refine r_pure (lv' := [some (.ref 137), some (.int v1), some (.int v2), some (.int v3), some (.int (0 : Int32)), some (.int (0 : Int32))]) rfl rfl ?_
    exact lm_le (by omega) (rl_X8_ordersFrom_L55 (n := 0) (by omega) self hself v1 v2 v3 40 (0 : Int32) (0 : Int32) S)
  · refine r_pure rfl rfl ?_
    refine r_get rfl (en_get (b := true) (k := 137) (L := 12) ⟨rfl, by decide⟩ rfl) (fo_get (S := S) rfl) ?_
    refine r_pure rfl rfl ?_
    refine r_if2 rfl rfl ?_ ?_
    · refine r_pure rfl rfl ?_
      exact r_retI rfl rfl
    · refine r_pure rfl rfl ?_
      refine r_pure rfl rfl ?_
      refine r_putI rfl ⟨rfl, by decide⟩ rfl rfl rfl (fun S7 => ?_)
      refine r_pure rfl rfl ?_
      refine r_pure (lv' := [some (.ref 137), some (.int v1), some (.int v2), some (.int v3), some (.int (0 : Int32)), none]) rfl rfl ?_
      exact lm_le (by omega) (rl_X8_ordersFrom_L21 (n := 0) (by omega) self hself v3 40 (0 : Int32) S7 _ _ _)
set_option maxRecDepth 100000 in
theorem rf_X8_ordersFrom : ∀ (r : Nat) {d : Nat} (_ : 5 + r ≤ d) {O : HS} (v1 : Int32) (v2 : Int32) (v3 : Int32) (S : HS), Lm (oIW true O) (s_X8_ordersFrom r v1 v2 v3 S) (CF d 136 [.ref 137, .int v1, .int v2, .int v3] (en true O S)) := by
  intro r
  induction r with
  | zero =>
    intros
    exact lm_none
  | succ r ih =>
    intro d hd O v1 v2 v3 S
    obtain ⟨e, rfl⟩ : ∃ e, d = e + 1 := ⟨d - 1, by omega⟩
    rw [s_X8_ordersFrom]
    exact rb_X8_ordersFrom (by omega) _ (fun v1 v2 v3 S => ih (by omega) v1 v2 v3 S) v1 v2 v3 S
/-! X8_ordersOf -/
def s_X8_ordersOf (v1 : Int32) (S : HS) : Option (Int32 × HS) :=
  Option.bind (pf S 137 21 (-1 : Int32)) fun S1 =>
  Option.bind (s_X8_ordersFrom 8 v1 (0 : Int32) (0 : Int32) S1) fun q2 =>
  some (q2.1, q2.2)
set_option maxRecDepth 100000 in
theorem rf_X8_ordersOf {d : Nat} (hd : 14 ≤ d) {O : HS} (v1 : Int32) (S : HS) : Lm (oIW true O) (s_X8_ordersOf v1 S) (CF d 137 [.ref 137, .int v1] (en true O S)) := by
  unfold s_X8_ordersOf
  obtain ⟨e, rfl⟩ : ∃ e, d = e + 1 := ⟨d - 1, by omega⟩
  refine rm_of (lv := [some (.ref 137), some (.int v1)]) (k_X8_ordersOf false) (by omega) rfl rfl (Nat.le_of_ble_eq_true rfl) ?_
  refine lm_le (n := 9) (by omega) ?_
  show Lm _ _ (run (CF e) _ _ _ _ _ _)
  refine r_pure rfl rfl ?_
  refine r_pure rfl rfl ?_
  refine r_putI rfl ⟨rfl, by decide⟩ rfl rfl rfl (fun S1 => ?_)
  refine r_pure rfl rfl ?_
  refine r_pure rfl rfl ?_
  refine r_pure rfl rfl ?_
  refine r_pure rfl rfl ?_
  refine r_callV_IW rfl rfl (en_get (b := true) (k := 137) (L := 12) ⟨rfl, by decide⟩ rfl) (Nat.le_of_ble_eq_true rfl) (rf_X8_ordersFrom 8 (by omega) v1 (0 : Int32) (0 : Int32) S1) (fun q2 => ?_)
  exact r_retI rfl rfl
/-! X8_orders -/
def s_X8_orders (S : HS) : Option (Int32 × HS) :=
  Option.bind (pf S 137 0 (0 : Int32)) fun S1 =>
  Option.bind (s_X8_laysNow S1) fun q2 =>
  Option.bind (s_X8_aboardNow q2) fun q3 =>
  Option.bind (s_X8_ordersOf q3 q2) fun q4 =>
  some (q4.1, q4.2)
set_option maxRecDepth 100000 in
theorem rf_X8_orders {d : Nat} (hd : 15 ≤ d) {O : HS} (S : HS) : Lm (oIW true O) (s_X8_orders S) (CF d 145 [.ref 137] (en true O S)) := by
  unfold s_X8_orders
  obtain ⟨e, rfl⟩ : ∃ e, d = e + 1 := ⟨d - 1, by omega⟩
  refine rm_of (lv := [some (.ref 137)]) (k_X8_orders false) (by omega) rfl rfl (Nat.le_of_ble_eq_true rfl) ?_
  refine lm_le (n := 10) (by omega) ?_
  show Lm _ _ (run (CF e) _ _ _ _ _ _)
  refine r_pure rfl rfl ?_
  refine r_pure rfl rfl ?_
  refine r_putI rfl ⟨rfl, by decide⟩ rfl rfl rfl (fun S1 => ?_)
  refine r_pure rfl rfl ?_
  refine r_callV_VW rfl rfl (en_get (b := true) (k := 137) (L := 12) ⟨rfl, by decide⟩ rfl) (Nat.le_of_ble_eq_true rfl) (rf_X8_laysNow (by omega) S1) (fun q2 => ?_)
  refine r_pure rfl rfl ?_
  refine r_pure rfl rfl ?_
  refine r_callV_I rfl rfl (en_get (b := true) (k := 137) (L := 12) ⟨rfl, by decide⟩ rfl) (Nat.le_of_ble_eq_true rfl) (rf_X8_aboardNow (by omega) q2) (fun q3 => ?_)
  refine r_callV_IW rfl rfl (en_get (b := true) (k := 137) (L := 12) ⟨rfl, by decide⟩ rfl) (Nat.le_of_ble_eq_true rfl) (rf_X8_ordersOf (by omega) q3 q2) (fun q4 => ?_)
  exact r_retI rfl rfl
/-! X8_ordered -/
def s_X8_ordered (v1 : Int32) (S : HS) : Option (Int32 × HS) :=
  Option.bind (pf S 137 0 (0 : Int32)) fun S1 =>
  Option.bind (s_X8_laysNow S1) fun q2 =>
  Option.bind (s_X8_aboardNow q2) fun q3 =>
  Option.bind (s_X8_ordersOf q3 q2) fun q4 =>
  Option.bind (s_X8_isIn v1 (0 : Int32) ((gf q4.2 137 21) - (1 : Int32))) fun q5 =>
  if q5 = (0 : Int32) then
    some ((-1 : Int32), q4.2)
  else
    Option.bind (ag (ga q4.2 145) v1) fun a6 =>
    some (a6, q4.2)
set_option maxRecDepth 100000 in
theorem rf_X8_ordered {d : Nat} (hd : 15 ≤ d) {O : HS} (v1 : Int32) (S : HS) : Lm (oIW true O) (s_X8_ordered v1 S) (CF d 146 [.ref 137, .int v1] (en true O S)) := by
  unfold s_X8_ordered
  obtain ⟨e, rfl⟩ : ∃ e, d = e + 1 := ⟨d - 1, by omega⟩
  refine rm_of (lv := [some (.ref 137), some (.int v1)]) (k_X8_ordered false) (by omega) rfl rfl (Nat.le_of_ble_eq_true rfl) ?_
  refine lm_le (n := 24) (by omega) ?_
  show Lm _ _ (run (CF e) _ _ _ _ _ _)
  refine r_pure rfl rfl ?_
  refine r_pure rfl rfl ?_
  refine r_putI rfl ⟨rfl, by decide⟩ rfl rfl rfl (fun S1 => ?_)
  refine r_pure rfl rfl ?_
  refine r_callV_VW rfl rfl (en_get (b := true) (k := 137) (L := 12) ⟨rfl, by decide⟩ rfl) (Nat.le_of_ble_eq_true rfl) (rf_X8_laysNow (by omega) S1) (fun q2 => ?_)
  refine r_pure rfl rfl ?_
  refine r_pure rfl rfl ?_
  refine r_callV_I rfl rfl (en_get (b := true) (k := 137) (L := 12) ⟨rfl, by decide⟩ rfl) (Nat.le_of_ble_eq_true rfl) (rf_X8_aboardNow (by omega) q2) (fun q3 => ?_)
  refine r_callV_IW rfl rfl (en_get (b := true) (k := 137) (L := 12) ⟨rfl, by decide⟩ rfl) (Nat.le_of_ble_eq_true rfl) (rf_X8_ordersOf (by omega) q3 q2) (fun q4 => ?_)
  refine r_pure rfl rfl ?_
  refine r_pure rfl rfl ?_
  refine r_pure rfl rfl ?_
  refine r_pure rfl rfl ?_
  refine r_get rfl (en_get (b := true) (k := 137) (L := 12) ⟨rfl, by decide⟩ rfl) (fo_get (S := q4.2) rfl) ?_
  refine r_pure rfl rfl ?_
  refine r_pure rfl rfl ?_
  refine r_callS_I rfl (Nat.le_of_ble_eq_true rfl) (Nat.le_of_ble_eq_true rfl) (rf_X8_isIn (by omega) v1 (0 : Int32) ((gf q4.2 137 21) - (1 : Int32))) (fun q5 => ?_)
  refine r_if1 rfl rfl ?_ ?_
  · refine r_pure rfl rfl ?_
    exact r_retI rfl rfl
  · refine r_pure rfl rfl ?_
    refine r_get rfl (en_get (b := true) (k := 137) (L := 12) ⟨rfl, by decide⟩ rfl) (fo_get (S := q4.2) rfl) ?_
    refine r_pure rfl rfl ?_
    refine r_iald rfl (en_get (b := true) (k := 145) (L := 0) ⟨rfl, by decide⟩ rfl) (fun a6 => ?_)
    refine r_pure rfl rfl ?_
    exact r_retI rfl rfl
