/-! X8_fault -/
def s_X8_fault (S : HS) : Option (Int32 × HS) :=
  Option.bind (pf S 137 0 (0 : Int32)) fun S1 =>
  some ((gf S1 137 8), S1)
set_option maxRecDepth 100000 in
theorem rf_X8_fault {d : Nat} (hd : 1 ≤ d) {O : HS} (S : HS) : Lm (oIW true O) (s_X8_fault S) (CF d 120 [.ref 137] (en true O S)) := by
  unfold s_X8_fault
  obtain ⟨e, rfl⟩ : ∃ e, d = e + 1 := ⟨d - 1, by omega⟩
  refine rm_of (lv := [some (.ref 137)]) (k_X8_fault false) (by omega) rfl rfl (Nat.le_of_ble_eq_true rfl) ?_
  refine lm_le (n := 6) (by omega) ?_
  show Lm _ _ (run (CF e) _ _ _ _ _ _)
  refine r_pure rfl rfl ?_
  refine r_pure rfl rfl ?_
  refine r_putI rfl ⟨rfl, by decide⟩ rfl rfl rfl (fun S1 => ?_)
  refine r_pure rfl rfl ?_
  refine r_get rfl (en_get (b := true) (k := 137) (L := 12) ⟨rfl, by decide⟩ rfl) (fo_get (S := S1) rfl) ?_
  exact r_retI rfl rfl
/-! X8_holds -/
def s_X8_holds (v1 : Int32) (v2 : Int32) (S : HS) : Option Int32 :=
  Option.bind (ag (ga S 139) (((27 : Int32) + ((6 : Int32) * v1)) + v2)) fun a1 =>
  some a1
set_option maxRecDepth 100000 in
theorem rf_X8_holds {d : Nat} (hd : 1 ≤ d) {O : HS} (v1 : Int32) (v2 : Int32) (S : HS) : Lm (oI (en true O S)) (s_X8_holds v1 v2 S) (CF d 124 [.ref 137, .int v1, .int v2] (en true O S)) := by
  unfold s_X8_holds
  obtain ⟨e, rfl⟩ : ∃ e, d = e + 1 := ⟨d - 1, by omega⟩
  refine rm_of (lv := [some (.ref 137), some (.int v1), some (.int v2)]) (k_X8_holds false) (by omega) rfl rfl (Nat.le_of_ble_eq_true rfl) ?_
  refine lm_le (n := 11) (by omega) ?_
  show Lm _ _ (run (CF e) _ _ _ _ _ _)
  refine r_pure rfl rfl ?_
  refine r_get rfl (en_get (b := true) (k := 137) (L := 12) ⟨rfl, by decide⟩ rfl) (fo_get (S := S) rfl) ?_
  refine r_pure rfl rfl ?_
  refine r_pure rfl rfl ?_
  refine r_pure rfl rfl ?_
  refine r_pure rfl rfl ?_
  refine r_pure rfl rfl ?_
  refine r_pure rfl rfl ?_
  refine r_pure rfl rfl ?_
  refine r_iald rfl (en_get (b := true) (k := 139) (L := 0) ⟨rfl, by decide⟩ rfl) (fun a1 => ?_)
  exact r_retI rfl rfl
/-! X8_its -/
def s_X8_its (v1 : Int32) (v2 : Int32) (S : HS) : Option Int32 :=
  Option.bind (ag (ga S 139) (((57 : Int32) + ((5 : Int32) * v1)) + v2)) fun a1 =>
  some a1
set_option maxRecDepth 100000 in
theorem rf_X8_its {d : Nat} (hd : 1 ≤ d) {O : HS} (v1 : Int32) (v2 : Int32) (S : HS) : Lm (oI (en true O S)) (s_X8_its v1 v2 S) (CF d 125 [.ref 137, .int v1, .int v2] (en true O S)) := by
  unfold s_X8_its
  obtain ⟨e, rfl⟩ : ∃ e, d = e + 1 := ⟨d - 1, by omega⟩
  refine rm_of (lv := [some (.ref 137), some (.int v1), some (.int v2)]) (k_X8_its false) (by omega) rfl rfl (Nat.le_of_ble_eq_true rfl) ?_
  refine lm_le (n := 11) (by omega) ?_
  show Lm _ _ (run (CF e) _ _ _ _ _ _)
  refine r_pure rfl rfl ?_
  refine r_get rfl (en_get (b := true) (k := 137) (L := 12) ⟨rfl, by decide⟩ rfl) (fo_get (S := S) rfl) ?_
  refine r_pure rfl rfl ?_
  refine r_pure rfl rfl ?_
  refine r_pure rfl rfl ?_
  refine r_pure rfl rfl ?_
  refine r_pure rfl rfl ?_
  refine r_pure rfl rfl ?_
  refine r_pure rfl rfl ?_
  refine r_iald rfl (en_get (b := true) (k := 139) (L := 0) ⟨rfl, by decide⟩ rfl) (fun a1 => ?_)
  exact r_retI rfl rfl
/-! X8_laysNow -/
def s_X8_laysNow_L2 : Nat → Int32 → HS → Option HS
  | 0, _, _ => none
  | K + 1, v1, S =>
    Option.bind (ag (ga S 139) (9 : Int32)) fun a1 =>
    if a1 ≤ v1 then
      some S
    else
      Option.bind (s_X8_holds v1 (3 : Int32) S) fun q2 =>
      Option.bind (wa S 142 v1 q2) fun S3 =>
      Option.bind (s_X8_holds v1 (4 : Int32) S3) fun q4 =>
      Option.bind (wa S3 144 v1 (q4 - (1 : Int32))) fun S5 =>
      Option.bind (ag (ga S5 144) v1) fun a6 =>
      if a6 ≠ (-1 : Int32) then
        Option.bind (ag (ga S5 144) v1) fun a7 =>
        Option.bind (s_X8_its a7 (0 : Int32) S5) fun q8 =>
        Option.bind (wa S5 143 v1 q8) fun S9 =>
        s_X8_laysNow_L2 K (v1 + (1 : Int32)) S9
      else
        Option.bind (wa S5 143 v1 (0 : Int32)) fun S10 =>
        s_X8_laysNow_L2 K (v1 + (1 : Int32)) S10
def s_X8_laysNow (S : HS) : Option HS :=
  s_X8_laysNow_L2 40 (0 : Int32) S
set_option maxRecDepth 100000 in
theorem rl_X8_laysNow_L2 {e : Nat} (he : 1 ≤ e) {O : HS} {n : Nat} : ∀ (K : Nat) (v1 : Int32) (S : HS), Lm (oV true O) (s_X8_laysNow_L2 K v1 S) (run (CF e) (k_X8_laysNow false) (n + (43 * K + 0)) 2 [some (.ref 137), some (.int v1)] [] (en true O S)) := by
  intro K
  induction K with
  | zero =>
    intros
    exact lm_none
  | succ K ih =>
    intro v1 S
    rw [show n + (43 * (K + 1) + 0) = n + (43 * K + 0) + 43 by omega]
    rw [s_X8_laysNow_L2]
    refine r_pure rfl rfl ?_
    refine r_pure rfl rfl ?_
    refine r_get rfl (en_get (b := true) (k := 137) (L := 12) ⟨rfl, by decide⟩ rfl) (fo_get (S := S) rfl) ?_
    refine r_pure rfl rfl ?_
    refine r_iald rfl (en_get (b := true) (k := 139) (L := 0) ⟨rfl, by decide⟩ rfl) (fun a1 => ?_)
    refine r_if2 rfl rfl ?_ ?_
    · exact r_retV rfl rfl
    · refine r_pure rfl rfl ?_
      refine r_get rfl (en_get (b := true) (k := 137) (L := 12) ⟨rfl, by decide⟩ rfl) (fo_get (S := S) rfl) ?_
      refine r_pure rfl rfl ?_
      refine r_pure rfl rfl ?_
      refine r_pure rfl rfl ?_
      refine r_pure rfl rfl ?_
      refine r_callV_I rfl rfl (en_get (b := true) (k := 137) (L := 12) ⟨rfl, by decide⟩ rfl) (Nat.le_of_ble_eq_true rfl) (rf_X8_holds (by omega) v1 (3 : Int32) S) (fun q2 => ?_)
      refine r_iastI rfl ⟨rfl, by decide⟩ rfl (fun S3 => ?_)
      refine r_pure rfl rfl ?_
      refine r_get rfl (en_get (b := true) (k := 137) (L := 12) ⟨rfl, by decide⟩ rfl) (fo_get (S := S3) rfl) ?_
      refine r_pure rfl rfl ?_
      refine r_pure rfl rfl ?_
      refine r_pure rfl rfl ?_
      refine r_pure rfl rfl ?_
      refine r_callV_I rfl rfl (en_get (b := true) (k := 137) (L := 12) ⟨rfl, by decide⟩ rfl) (Nat.le_of_ble_eq_true rfl) (rf_X8_holds (by omega) v1 (4 : Int32) S3) (fun q4 => ?_)
      refine r_pure rfl rfl ?_
      refine r_pure rfl rfl ?_
      refine r_iastI rfl ⟨rfl, by decide⟩ rfl (fun S5 => ?_)
      refine r_pure rfl rfl ?_
      refine r_get rfl (en_get (b := true) (k := 137) (L := 12) ⟨rfl, by decide⟩ rfl) (fo_get (S := S5) rfl) ?_
      refine r_pure rfl rfl ?_
      refine r_pure rfl rfl ?_
      refine r_get rfl (en_get (b := true) (k := 137) (L := 12) ⟨rfl, by decide⟩ rfl) (fo_get (S := S5) rfl) ?_
      refine r_pure rfl rfl ?_
      refine r_iald rfl (en_get (b := true) (k := 144) (L := 0) ⟨rfl, by decide⟩ rfl) (fun a6 => ?_)
      refine r_pure rfl rfl ?_
      refine r_if2 rfl rfl ?_ ?_
      · refine r_pure rfl rfl ?_
        refine r_pure rfl rfl ?_
        refine r_get rfl (en_get (b := true) (k := 137) (L := 12) ⟨rfl, by decide⟩ rfl) (fo_get (S := S5) rfl) ?_
        refine r_pure rfl rfl ?_
        refine r_iald rfl (en_get (b := true) (k := 144) (L := 0) ⟨rfl, by decide⟩ rfl) (fun a7 => ?_)
        refine r_pure rfl rfl ?_
        refine r_callV_I rfl rfl (en_get (b := true) (k := 137) (L := 12) ⟨rfl, by decide⟩ rfl) (Nat.le_of_ble_eq_true rfl) (rf_X8_its (by omega) a7 (0 : Int32) S5) (fun q8 => ?_)
        refine r_iastI rfl ⟨rfl, by decide⟩ rfl (fun S9 => ?_)
        refine r_pure (lv' := [some (.ref 137), some (.int (v1 + (1 : Int32)))]) rfl rfl ?_
        refine r_pure rfl rfl ?_
        exact lm_le (by omega) (ih (v1 + (1 : Int32)) S9)
      · refine r_pure rfl rfl ?_
        refine r_pure rfl rfl ?_
        refine r_iastI rfl ⟨rfl, by decide⟩ rfl (fun S10 => ?_)
        refine r_pure (lv' := [some (.ref 137), some (.int (v1 + (1 : Int32)))]) rfl rfl ?_
        refine r_pure rfl rfl ?_
        exact lm_le (by omega) (ih (v1 + (1 : Int32)) S10)
set_option maxRecDepth 100000 in
theorem rf_X8_laysNow {d : Nat} (hd : 2 ≤ d) {O : HS} (S : HS) : Lm (oV true O) (s_X8_laysNow S) (CF d 131 [.ref 137] (en true O S)) := by
  unfold s_X8_laysNow
  obtain ⟨e, rfl⟩ : ∃ e, d = e + 1 := ⟨d - 1, by omega⟩
  refine rm_of (lv := [some (.ref 137), none]) (k_X8_laysNow false) (by omega) rfl rfl (Nat.le_of_ble_eq_true rfl) ?_
  refine lm_le (n := 1722) (by omega) ?_
  show Lm _ _ (run (CF e) _ _ _ _ _ _)
  refine r_pure rfl rfl ?_
  refine r_pure (lv' := [some (.ref 137), some (.int (0 : Int32))]) rfl rfl ?_
  exact lm_le (by omega) (rl_X8_laysNow_L2 (n := 0) (by omega) 40 (0 : Int32) S)
/-! X8_has -/
def s_X8_has (v0 : Int32) (v1 : Int32) : Option Int32 :=
  if ((v0 >>> (v1 &&& (31 : Int32))) &&& (1 : Int32)) ≠ (1 : Int32) then
    some (0 : Int32)
  else
    some (1 : Int32)
set_option maxRecDepth 100000 in
theorem rf_X8_has {d : Nat} (hd : 1 ≤ d) {hh : List AC} (v0 : Int32) (v1 : Int32) : Lm (oI hh) (s_X8_has v0 v1) (CF d 95 [.int v0, .int v1] hh) := by
  unfold s_X8_has
  obtain ⟨e, rfl⟩ : ∃ e, d = e + 1 := ⟨d - 1, by omega⟩
  refine rm_of (lv := [some (.int v0), some (.int v1)]) (k_X8_has false) (by omega) rfl rfl (Nat.le_of_ble_eq_true rfl) ?_
  refine lm_le (n := 10) (by omega) ?_
  show Lm _ _ (run (CF e) _ _ _ _ _ _)
  refine r_pure rfl rfl ?_
  refine r_pure rfl rfl ?_
  refine r_pure rfl rfl ?_
  refine r_pure rfl rfl ?_
  refine r_pure rfl rfl ?_
  refine r_pure rfl rfl ?_
  refine r_if2 rfl rfl ?_ ?_
  · refine r_pure rfl rfl ?_
    exact r_retZ rfl (Or.inl rfl) rfl
  · refine r_pure rfl rfl ?_
    refine r_pure rfl rfl ?_
    exact r_retZ rfl (Or.inr rfl) rfl
/-! X8_bars -/
def s_X8_bars_L12 (rc4 : Int32 → Int32 → Option Int32) (v2 : Int32) (S : HS) : Nat → Int32 → Int32 → Option Int32
  | 0, _, _ => none
  | K + 1, v1, v3 =>
    if (6 : Int32) ≤ v3 then
      rc4 v1 (v2 + (1 : Int32))
    else
      Option.bind (ag (ga S 139) ((21 : Int32) + v2)) fun a1 =>
      Option.bind (s_X8_has a1 v3) fun q2 =>
      if q2 = (0 : Int32) then
        s_X8_bars_L12 rc4 v2 S K v1 (v3 + (1 : Int32))
      else
        s_X8_bars_L12 rc4 v2 S K (v1 + (1 : Int32)) (v3 + (1 : Int32))
def s_X8_bars_L4 (S : HS) : Nat → Int32 → Int32 → Option Int32
  | 0, _, _ => none
  | K + 1, v1, v2 =>
    if (6 : Int32) ≤ v2 then
      some v1
    else
      s_X8_bars_L12 (s_X8_bars_L4 S K) v2 S 40 v1 (0 : Int32)
def s_X8_bars (S : HS) : Option Int32 :=
  s_X8_bars_L4 S 40 (0 : Int32) (0 : Int32)
set_option maxRecDepth 100000 in
theorem rl_X8_bars_L12 {e : Nat} (he : 1 ≤ e) {O : HS} (rc4 : Int32 → Int32 → Option Int32) (v2 : Int32) (S : HS) {n : Nat} (hrc4 : ∀ (v1 : Int32) (v2 : Int32) (j3 : Option Value), Lm (oI (en true O S)) (rc4 v1 v2) (run (CF e) (k_X8_bars false) n 4 [some (.ref 137), some (.int v1), some (.int v2), j3] [] (en true O S))) : ∀ (K : Nat) (v1 : Int32) (v3 : Int32), Lm (oI (en true O S)) (s_X8_bars_L12 rc4 v2 S K v1 v3) (run (CF e) (k_X8_bars false) (n + (15 * K + 0)) 12 [some (.ref 137), some (.int v1), some (.int v2), some (.int v3)] [] (en true O S)) := by
  intro K
  induction K with
  | zero =>
    intros
    exact lm_none
  | succ K ih =>
    intro v1 v3
    rw [show n + (15 * (K + 1) + 0) = n + (15 * K + 0) + 15 by omega]
    have hrc4x := fun (v1 : Int32) (v2 : Int32) (j3 : Option Value) => lm_le (m := n + (15 * K + 0)) (by omega) (hrc4 v1 v2 j3)
    rw [s_X8_bars_L12]
    refine r_pure rfl rfl ?_
    refine r_pure rfl rfl ?_
    refine r_if2 rfl rfl ?_ ?_
    · refine r_pure (lv' := [some (.ref 137), some (.int v1), some (.int (v2 + (1 : Int32))), some (.int v3)]) rfl rfl ?_
      refine r_pure rfl rfl ?_
      exact lm_le (by omega) (hrc4 v1 (v2 + (1 : Int32)) _)
    · refine r_pure rfl rfl ?_
      refine r_get rfl (en_get (b := true) (k := 137) (L := 12) ⟨rfl, by decide⟩ rfl) (fo_get (S := S) rfl) ?_
      refine r_pure rfl rfl ?_
      refine r_pure rfl rfl ?_
      refine r_pure rfl rfl ?_
      refine r_iald rfl (en_get (b := true) (k := 139) (L := 0) ⟨rfl, by decide⟩ rfl) (fun a1 => ?_)
      refine r_pure rfl rfl ?_
      refine r_callS_I rfl (Nat.le_of_ble_eq_true rfl) (Nat.le_of_ble_eq_true rfl) (rf_X8_has (by omega) a1 v3) (fun q2 => ?_)
      refine r_if1 rfl rfl ?_ ?_
      · refine r_pure (lv' := [some (.ref 137), some (.int v1), some (.int v2), some (.int (v3 + (1 : Int32)))]) rfl rfl ?_
        refine r_pure rfl rfl ?_
        exact lm_le (by omega) (ih v1 (v3 + (1 : Int32)))
      · refine r_pure (lv' := [some (.ref 137), some (.int (v1 + (1 : Int32))), some (.int v2), some (.int v3)]) rfl rfl ?_
        refine r_pure (lv' := [some (.ref 137), some (.int (v1 + (1 : Int32))), some (.int v2), some (.int (v3 + (1 : Int32)))]) rfl rfl ?_
        refine r_pure rfl rfl ?_
        exact lm_le (by omega) (ih (v1 + (1 : Int32)) (v3 + (1 : Int32)))
set_option maxRecDepth 100000 in
theorem rl_X8_bars_L4 {e : Nat} (he : 1 ≤ e) {O : HS} (S : HS) {n : Nat} : ∀ (K : Nat) (v1 : Int32) (v2 : Int32) (j3 : Option Value), Lm (oI (en true O S)) (s_X8_bars_L4 S K v1 v2) (run (CF e) (k_X8_bars false) (n + (605 * K + 0)) 4 [some (.ref 137), some (.int v1), some (.int v2), j3] [] (en true O S)) := by
  intro K
  induction K with
  | zero =>
    intros
    exact lm_none
  | succ K ih =>
    intro v1 v2 j3
    rw [show n + (605 * (K + 1) + 0) = n + (605 * K + 0) + 605 by omega]
    rw [s_X8_bars_L4]
    refine r_pure rfl rfl ?_
    refine r_pure rfl rfl ?_
    refine r_if2 rfl rfl ?_ ?_
    · refine r_pure rfl rfl ?_
      exact r_retI rfl rfl
    · refine r_pure rfl rfl ?_
      refine r_pure (lv' := [some (.ref 137), some (.int v1), some (.int v2), some (.int (0 : Int32))]) rfl rfl ?_
      exact lm_le (by omega) (rl_X8_bars_L12 (by omega) (s_X8_bars_L4 S K) v2 S ih 40 v1 (0 : Int32))
set_option maxRecDepth 100000 in
theorem rf_X8_bars {d : Nat} (hd : 2 ≤ d) {O : HS} (S : HS) : Lm (oI (en true O S)) (s_X8_bars S) (CF d 140 [.ref 137] (en true O S)) := by
  unfold s_X8_bars
  obtain ⟨e, rfl⟩ : ∃ e, d = e + 1 := ⟨d - 1, by omega⟩
  refine rm_of (lv := [some (.ref 137), none, none, none]) (k_X8_bars false) (by omega) rfl rfl (Nat.le_of_ble_eq_true rfl) ?_
  refine lm_le (n := 24204) (by omega) ?_
  show Lm _ _ (run (CF e) _ _ _ _ _ _)
  refine r_pure rfl rfl ?_
  refine r_pure (lv' := [some (.ref 137), some (.int (0 : Int32)), none, none]) rfl rfl ?_
  refine r_pure rfl rfl ?_
  refine r_pure (lv' := [some (.ref 137), some (.int (0 : Int32)), some (.int (0 : Int32)), none]) rfl rfl ?_
  exact lm_le (by omega) (rl_X8_bars_L4 (n := 0) (by omega) S 40 (0 : Int32) (0 : Int32) _)
/-! X8_muchBut -/
def s_X8_muchBut (v1 : Int32) (v2 : Int32) (S : HS) : Option Int32 :=
  Option.bind (ag (ga S 144) v1) fun a1 =>
  if a1 = (-1 : Int32) then
    Option.bind (ag (ga S 142) v1) fun a2 =>
    some a2
  else
    Option.bind (ag (ga S 144) v1) fun a3 =>
    Option.bind (s_X8_has v2 a3) fun q4 =>
    if q4 = (0 : Int32) then
      Option.bind (ag (ga S 142) v1) fun a5 =>
      some a5
    else
      some (0 : Int32)
set_option maxRecDepth 100000 in
theorem rf_X8_muchBut {d : Nat} (hd : 2 ≤ d) {O : HS} (v1 : Int32) (v2 : Int32) (S : HS) : Lm (oI (en true O S)) (s_X8_muchBut v1 v2 S) (CF d 132 [.ref 137, .int v1, .int v2] (en true O S)) := by
  unfold s_X8_muchBut
  obtain ⟨e, rfl⟩ : ∃ e, d = e + 1 := ⟨d - 1, by omega⟩
  refine rm_of (lv := [some (.ref 137), some (.int v1), some (.int v2)]) (k_X8_muchBut false) (by omega) rfl rfl (Nat.le_of_ble_eq_true rfl) ?_
  refine lm_le (n := 18) (by omega) ?_
  show Lm _ _ (run (CF e) _ _ _ _ _ _)
  refine r_pure rfl rfl ?_
  refine r_get rfl (en_get (b := true) (k := 137) (L := 12) ⟨rfl, by decide⟩ rfl) (fo_get (S := S) rfl) ?_
  refine r_pure rfl rfl ?_
  refine r_iald rfl (en_get (b := true) (k := 144) (L := 0) ⟨rfl, by decide⟩ rfl) (fun a1 => ?_)
  refine r_pure rfl rfl ?_
  refine r_if2 rfl rfl ?_ ?_
  · refine r_pure rfl rfl ?_
    refine r_get rfl (en_get (b := true) (k := 137) (L := 12) ⟨rfl, by decide⟩ rfl) (fo_get (S := S) rfl) ?_
    refine r_pure rfl rfl ?_
    refine r_iald rfl (en_get (b := true) (k := 142) (L := 0) ⟨rfl, by decide⟩ rfl) (fun a2 => ?_)
    exact r_retI rfl rfl
  · refine r_pure rfl rfl ?_
    refine r_pure rfl rfl ?_
    refine r_get rfl (en_get (b := true) (k := 137) (L := 12) ⟨rfl, by decide⟩ rfl) (fo_get (S := S) rfl) ?_
    refine r_pure rfl rfl ?_
    refine r_iald rfl (en_get (b := true) (k := 144) (L := 0) ⟨rfl, by decide⟩ rfl) (fun a3 => ?_)
    refine r_callS_I rfl (Nat.le_of_ble_eq_true rfl) (Nat.le_of_ble_eq_true rfl) (rf_X8_has (by omega) v2 a3) (fun q4 => ?_)
    refine r_if1 rfl rfl ?_ ?_
    · refine r_pure rfl rfl ?_
      refine r_get rfl (en_get (b := true) (k := 137) (L := 12) ⟨rfl, by decide⟩ rfl) (fo_get (S := S) rfl) ?_
      refine r_pure rfl rfl ?_
      refine r_iald rfl (en_get (b := true) (k := 142) (L := 0) ⟨rfl, by decide⟩ rfl) (fun a5 => ?_)
      exact r_retI rfl rfl
    · refine r_pure rfl rfl ?_
      refine r_pure rfl rfl ?_
      exact r_retI rfl rfl
/-! X8_front -/
def s_X8_front_L16 (v1 : Int32) (S : HS) : Nat → Int32 → Int32 → Option Int32
  | 0, _, _ => none
  | K + 1, v2, v3 =>
    Option.bind (ag (ga S 139) (9 : Int32)) fun a3 =>
    if a3 ≤ v3 then
      some v2
    else
      Option.bind (s_X8_muchBut v3 v1 S) fun q4 =>
      Option.bind (ag (ga S 143) v3) fun a5 =>
      Option.bind (ag (ga S 139) ((15 : Int32) + a5)) fun a6 =>
      Option.bind (ag (ga S 139) (0 : Int32)) fun a7 =>
      Option.bind (s_X8_holds v3 (1 : Int32) S) fun q8 =>
      s_X8_front_L16 v1 S K (v2 + ((q4 * a6) * (a7 - q8))) (v3 + (1 : Int32))
def s_X8_front (v1 : Int32) (S : HS) : Option Int32 :=
  Option.bind (ag (ga S 139) (1 : Int32)) fun a1 =>
  Option.bind (ag (ga S 139) (0 : Int32)) fun a2 =>
  s_X8_front_L16 v1 S 40 (a1 * a2) (0 : Int32)
set_option maxRecDepth 100000 in
theorem rl_X8_front_L16 {e : Nat} (he : 2 ≤ e) {O : HS} (v1 : Int32) (S : HS) {n : Nat} : ∀ (K : Nat) (v2 : Int32) (v3 : Int32), Lm (oI (en true O S)) (s_X8_front_L16 v1 S K v2 v3) (run (CF e) (k_X8_front false) (n + (35 * K + 0)) 16 [some (.ref 137), some (.int v1), some (.int v2), some (.int v3)] [] (en true O S)) := by
  intro K
  induction K with
  | zero =>
    intros
    exact lm_none
  | succ K ih =>
    intro v2 v3
    rw [show n + (35 * (K + 1) + 0) = n + (35 * K + 0) + 35 by omega]
    rw [s_X8_front_L16]
    refine r_pure rfl rfl ?_
    refine r_pure rfl rfl ?_
    refine r_get rfl (en_get (b := true) (k := 137) (L := 12) ⟨rfl, by decide⟩ rfl) (fo_get (S := S) rfl) ?_
    refine r_pure rfl rfl ?_
    refine r_iald rfl (en_get (b := true) (k := 139) (L := 0) ⟨rfl, by decide⟩ rfl) (fun a3 => ?_)
    refine r_if2 rfl rfl ?_ ?_
    · refine r_pure rfl rfl ?_
      exact r_retI rfl rfl
    · refine r_pure rfl rfl ?_
      refine r_pure rfl rfl ?_
      refine r_pure rfl rfl ?_
      refine r_pure rfl rfl ?_
      refine r_callV_I rfl rfl (en_get (b := true) (k := 137) (L := 12) ⟨rfl, by decide⟩ rfl) (Nat.le_of_ble_eq_true rfl) (rf_X8_muchBut (by omega) v3 v1 S) (fun q4 => ?_)
      refine r_pure rfl rfl ?_
      refine r_get rfl (en_get (b := true) (k := 137) (L := 12) ⟨rfl, by decide⟩ rfl) (fo_get (S := S) rfl) ?_
      refine r_pure rfl rfl ?_
      refine r_pure rfl rfl ?_
      refine r_get rfl (en_get (b := true) (k := 137) (L := 12) ⟨rfl, by decide⟩ rfl) (fo_get (S := S) rfl) ?_
      refine r_pure rfl rfl ?_
      refine r_iald rfl (en_get (b := true) (k := 143) (L := 0) ⟨rfl, by decide⟩ rfl) (fun a5 => ?_)
      refine r_pure rfl rfl ?_
      refine r_iald rfl (en_get (b := true) (k := 139) (L := 0) ⟨rfl, by decide⟩ rfl) (fun a6 => ?_)
      refine r_pure rfl rfl ?_
      refine r_pure rfl rfl ?_
      refine r_get rfl (en_get (b := true) (k := 137) (L := 12) ⟨rfl, by decide⟩ rfl) (fo_get (S := S) rfl) ?_
      refine r_pure rfl rfl ?_
      refine r_iald rfl (en_get (b := true) (k := 139) (L := 0) ⟨rfl, by decide⟩ rfl) (fun a7 => ?_)
      refine r_pure rfl rfl ?_
      refine r_pure rfl rfl ?_
      refine r_pure rfl rfl ?_
      refine r_callV_I rfl rfl (en_get (b := true) (k := 137) (L := 12) ⟨rfl, by decide⟩ rfl) (Nat.le_of_ble_eq_true rfl) (rf_X8_holds (by omega) v3 (1 : Int32) S) (fun q8 => ?_)
      refine r_pure rfl rfl ?_
      refine r_pure rfl rfl ?_
      refine r_pure rfl rfl ?_
      refine r_pure (lv' := [some (.ref 137), some (.int v1), some (.int (v2 + ((q4 * a6) * (a7 - q8)))), some (.int v3)]) rfl rfl ?_
      refine r_pure (lv' := [some (.ref 137), some (.int v1), some (.int (v2 + ((q4 * a6) * (a7 - q8)))), some (.int (v3 + (1 : Int32)))]) rfl rfl ?_
      refine r_pure rfl rfl ?_
      exact lm_le (by omega) (ih (v2 + ((q4 * a6) * (a7 - q8))) (v3 + (1 : Int32)))
set_option maxRecDepth 100000 in
theorem rf_X8_front {d : Nat} (hd : 3 ≤ d) {O : HS} (v1 : Int32) (S : HS) : Lm (oI (en true O S)) (s_X8_front v1 S) (CF d 133 [.ref 137, .int v1] (en true O S)) := by
  unfold s_X8_front
  obtain ⟨e, rfl⟩ : ∃ e, d = e + 1 := ⟨d - 1, by omega⟩
  refine rm_of (lv := [some (.ref 137), some (.int v1), none, none]) (k_X8_front false) (by omega) rfl rfl (Nat.le_of_ble_eq_true rfl) ?_
  refine lm_le (n := 1412) (by omega) ?_
  show Lm _ _ (run (CF e) _ _ _ _ _ _)
  refine r_pure rfl rfl ?_
  refine r_get rfl (en_get (b := true) (k := 137) (L := 12) ⟨rfl, by decide⟩ rfl) (fo_get (S := S) rfl) ?_
  refine r_pure rfl rfl ?_
  refine r_iald rfl (en_get (b := true) (k := 139) (L := 0) ⟨rfl, by decide⟩ rfl) (fun a1 => ?_)
  refine r_pure rfl rfl ?_
  refine r_get rfl (en_get (b := true) (k := 137) (L := 12) ⟨rfl, by decide⟩ rfl) (fo_get (S := S) rfl) ?_
  refine r_pure rfl rfl ?_
  refine r_iald rfl (en_get (b := true) (k := 139) (L := 0) ⟨rfl, by decide⟩ rfl) (fun a2 => ?_)
  refine r_pure rfl rfl ?_
  refine r_pure (lv' := [some (.ref 137), some (.int v1), some (.int (a1 * a2)), none]) rfl rfl ?_
  refine r_pure rfl rfl ?_
  refine r_pure (lv' := [some (.ref 137), some (.int v1), some (.int (a1 * a2)), some (.int (0 : Int32))]) rfl rfl ?_
  exact lm_le (by omega) (rl_X8_front_L16 (n := 0) (by omega) v1 S 40 (a1 * a2) (0 : Int32))
/-! X8_rear -/
def s_X8_rear_L16 (v1 : Int32) (S : HS) : Nat → Int32 → Int32 → Option Int32
  | 0, _, _ => none
  | K + 1, v2, v3 =>
    Option.bind (ag (ga S 139) (9 : Int32)) fun a3 =>
    if a3 ≤ v3 then
      some v2
    else
      Option.bind (s_X8_muchBut v3 v1 S) fun q4 =>
      Option.bind (ag (ga S 143) v3) fun a5 =>
      Option.bind (ag (ga S 139) ((15 : Int32) + a5)) fun a6 =>
      Option.bind (s_X8_holds v3 (1 : Int32) S) fun q7 =>
      s_X8_rear_L16 v1 S K (v2 + ((q4 * a6) * q7)) (v3 + (1 : Int32))
def s_X8_rear (v1 : Int32) (S : HS) : Option Int32 :=
  Option.bind (ag (ga S 139) (2 : Int32)) fun a1 =>
  Option.bind (ag (ga S 139) (0 : Int32)) fun a2 =>
  s_X8_rear_L16 v1 S 40 (a1 * a2) (0 : Int32)
set_option maxRecDepth 100000 in
theorem rl_X8_rear_L16 {e : Nat} (he : 2 ≤ e) {O : HS} (v1 : Int32) (S : HS) {n : Nat} : ∀ (K : Nat) (v2 : Int32) (v3 : Int32), Lm (oI (en true O S)) (s_X8_rear_L16 v1 S K v2 v3) (run (CF e) (k_X8_rear false) (n + (30 * K + 0)) 16 [some (.ref 137), some (.int v1), some (.int v2), some (.int v3)] [] (en true O S)) := by
  intro K
  induction K with
  | zero =>
    intros
    exact lm_none
  | succ K ih =>
    intro v2 v3
    rw [show n + (30 * (K + 1) + 0) = n + (30 * K + 0) + 30 by omega]
    rw [s_X8_rear_L16]
    refine r_pure rfl rfl ?_
    refine r_pure rfl rfl ?_
    refine r_get rfl (en_get (b := true) (k := 137) (L := 12) ⟨rfl, by decide⟩ rfl) (fo_get (S := S) rfl) ?_
    refine r_pure rfl rfl ?_
    refine r_iald rfl (en_get (b := true) (k := 139) (L := 0) ⟨rfl, by decide⟩ rfl) (fun a3 => ?_)
    refine r_if2 rfl rfl ?_ ?_
    · refine r_pure rfl rfl ?_
      exact r_retI rfl rfl
    · refine r_pure rfl rfl ?_
      refine r_pure rfl rfl ?_
      refine r_pure rfl rfl ?_
      refine r_pure rfl rfl ?_
      refine r_callV_I rfl rfl (en_get (b := true) (k := 137) (L := 12) ⟨rfl, by decide⟩ rfl) (Nat.le_of_ble_eq_true rfl) (rf_X8_muchBut (by omega) v3 v1 S) (fun q4 => ?_)
      refine r_pure rfl rfl ?_
      refine r_get rfl (en_get (b := true) (k := 137) (L := 12) ⟨rfl, by decide⟩ rfl) (fo_get (S := S) rfl) ?_
      refine r_pure rfl rfl ?_
      refine r_pure rfl rfl ?_
      refine r_get rfl (en_get (b := true) (k := 137) (L := 12) ⟨rfl, by decide⟩ rfl) (fo_get (S := S) rfl) ?_
      refine r_pure rfl rfl ?_
      refine r_iald rfl (en_get (b := true) (k := 143) (L := 0) ⟨rfl, by decide⟩ rfl) (fun a5 => ?_)
      refine r_pure rfl rfl ?_
      refine r_iald rfl (en_get (b := true) (k := 139) (L := 0) ⟨rfl, by decide⟩ rfl) (fun a6 => ?_)
      refine r_pure rfl rfl ?_
      refine r_pure rfl rfl ?_
      refine r_pure rfl rfl ?_
      refine r_pure rfl rfl ?_
      refine r_callV_I rfl rfl (en_get (b := true) (k := 137) (L := 12) ⟨rfl, by decide⟩ rfl) (Nat.le_of_ble_eq_true rfl) (rf_X8_holds (by omega) v3 (1 : Int32) S) (fun q7 => ?_)
      refine r_pure rfl rfl ?_
      refine r_pure rfl rfl ?_
      refine r_pure (lv' := [some (.ref 137), some (.int v1), some (.int (v2 + ((q4 * a6) * q7))), some (.int v3)]) rfl rfl ?_
      refine r_pure (lv' := [some (.ref 137), some (.int v1), some (.int (v2 + ((q4 * a6) * q7))), some (.int (v3 + (1 : Int32)))]) rfl rfl ?_
      refine r_pure rfl rfl ?_
      exact lm_le (by omega) (ih (v2 + ((q4 * a6) * q7)) (v3 + (1 : Int32)))
set_option maxRecDepth 100000 in
theorem rf_X8_rear {d : Nat} (hd : 3 ≤ d) {O : HS} (v1 : Int32) (S : HS) : Lm (oI (en true O S)) (s_X8_rear v1 S) (CF d 134 [.ref 137, .int v1] (en true O S)) := by
  unfold s_X8_rear
  obtain ⟨e, rfl⟩ : ∃ e, d = e + 1 := ⟨d - 1, by omega⟩
  refine rm_of (lv := [some (.ref 137), some (.int v1), none, none]) (k_X8_rear false) (by omega) rfl rfl (Nat.le_of_ble_eq_true rfl) ?_
  refine lm_le (n := 1212) (by omega) ?_
  show Lm _ _ (run (CF e) _ _ _ _ _ _)
  refine r_pure rfl rfl ?_
  refine r_get rfl (en_get (b := true) (k := 137) (L := 12) ⟨rfl, by decide⟩ rfl) (fo_get (S := S) rfl) ?_
  refine r_pure rfl rfl ?_
  refine r_iald rfl (en_get (b := true) (k := 139) (L := 0) ⟨rfl, by decide⟩ rfl) (fun a1 => ?_)
  refine r_pure rfl rfl ?_
  refine r_get rfl (en_get (b := true) (k := 137) (L := 12) ⟨rfl, by decide⟩ rfl) (fo_get (S := S) rfl) ?_
  refine r_pure rfl rfl ?_
  refine r_iald rfl (en_get (b := true) (k := 139) (L := 0) ⟨rfl, by decide⟩ rfl) (fun a2 => ?_)
  refine r_pure rfl rfl ?_
  refine r_pure (lv' := [some (.ref 137), some (.int v1), some (.int (a1 * a2)), none]) rfl rfl ?_
  refine r_pure rfl rfl ?_
  refine r_pure (lv' := [some (.ref 137), some (.int v1), some (.int (a1 * a2)), some (.int (0 : Int32))]) rfl rfl ?_
  exact lm_le (by omega) (rl_X8_rear_L16 (n := 0) (by omega) v1 S 40 (a1 * a2) (0 : Int32))
/-! X8_stands -/
def s_X8_stands_L2 (v1 : Int32) (S : HS) : Nat → Int32 → Option Int32
  | 0, _ => none
  | K + 1, v2 =>
    Option.bind (ag (ga S 139) (9 : Int32)) fun a1 =>
    if a1 ≤ v2 then
      Option.bind (s_X8_front v1 S) fun q2 =>
      Option.bind (ag (ga S 139) (4 : Int32)) fun a3 =>
      Option.bind (ag (ga S 139) (0 : Int32)) fun a4 =>
      if q2 ≤ (a3 * a4) then
        Option.bind (s_X8_front v1 S) fun q5 =>
        Option.bind (ag (ga S 139) (3 : Int32)) fun a6 =>
        Option.bind (ag (ga S 139) (0 : Int32)) fun a7 =>
        if (a6 * a7) ≤ q5 then
          Option.bind (s_X8_rear v1 S) fun q8 =>
          Option.bind (ag (ga S 139) (5 : Int32)) fun a9 =>
          Option.bind (ag (ga S 139) (0 : Int32)) fun a10 =>
          if q8 ≤ (a9 * a10) then
            some (0 : Int32)
          else
            some (4 : Int32)
        else
          some (3 : Int32)
      else
        some (2 : Int32)
    else
      Option.bind (s_X8_muchBut v2 v1 S) fun q11 =>
      Option.bind (s_X8_holds v2 (2 : Int32) S) fun q12 =>
      if q12 ≠ (1 : Int32) then
        s_X8_stands_L2 v1 S K (v2 + (1 : Int32))
      else
        if ((100 : Int32) * q11) ≤ (0 : Int32) then
          s_X8_stands_L2 v1 S K (v2 + (1 : Int32))
        else
          Option.bind (ag (ga S 139) (7 : Int32)) fun a13 =>
          Option.bind (s_X8_holds v2 (0 : Int32) S) fun q14 =>
          if ((100 : Int32) * q11) ≤ (a13 * q14) then
            s_X8_stands_L2 v1 S K (v2 + (1 : Int32))
          else
            Option.bind (ag (ga S 139) (8 : Int32)) fun a15 =>
            Option.bind (s_X8_holds v2 (0 : Int32) S) fun q16 =>
            if (a15 * q16) ≤ ((100 : Int32) * q11) then
              s_X8_stands_L2 v1 S K (v2 + (1 : Int32))
            else
              some (1 : Int32)
def s_X8_stands (v1 : Int32) (S : HS) : Option Int32 :=
  s_X8_stands_L2 v1 S 40 (0 : Int32)
set_option maxRecDepth 100000 in
theorem rl_X8_stands_L2 {e : Nat} (he : 3 ≤ e) {O : HS} (v1 : Int32) (S : HS) {n : Nat} : ∀ (K : Nat) (v2 : Int32) (j3 : Option Value), Lm (oI (en true O S)) (s_X8_stands_L2 v1 S K v2) (run (CF e) (k_X8_stands false) (n + (48 * K + 0)) 2 [some (.ref 137), some (.int v1), some (.int v2), j3] [] (en true O S)) := by
  intro K
  induction K with
  | zero =>
    intros
    exact lm_none
  | succ K ih =>
    intro v2 j3
    rw [show n + (48 * (K + 1) + 0) = n + (48 * K + 0) + 48 by omega]
    rw [s_X8_stands_L2]
    refine r_pure rfl rfl ?_
    refine r_pure rfl rfl ?_
    refine r_get rfl (en_get (b := true) (k := 137) (L := 12) ⟨rfl, by decide⟩ rfl) (fo_get (S := S) rfl) ?_
    refine r_pure rfl rfl ?_
    refine r_iald rfl (en_get (b := true) (k := 139) (L := 0) ⟨rfl, by decide⟩ rfl) (fun a1 => ?_)
    refine r_if2 rfl rfl ?_ ?_
    · refine r_pure rfl rfl ?_
      refine r_pure rfl rfl ?_
      refine r_callV_I rfl rfl (en_get (b := true) (k := 137) (L := 12) ⟨rfl, by decide⟩ rfl) (Nat.le_of_ble_eq_true rfl) (rf_X8_front (by omega) v1 S) (fun q2 => ?_)
      refine r_pure rfl rfl ?_
      refine r_get rfl (en_get (b := true) (k := 137) (L := 12) ⟨rfl, by decide⟩ rfl) (fo_get (S := S) rfl) ?_
      refine r_pure rfl rfl ?_
      refine r_iald rfl (en_get (b := true) (k := 139) (L := 0) ⟨rfl, by decide⟩ rfl) (fun a3 => ?_)
      refine r_pure rfl rfl ?_
      refine r_get rfl (en_get (b := true) (k := 137) (L := 12) ⟨rfl, by decide⟩ rfl) (fo_get (S := S) rfl) ?_
      refine r_pure rfl rfl ?_
      refine r_iald rfl (en_get (b := true) (k := 139) (L := 0) ⟨rfl, by decide⟩ rfl) (fun a4 => ?_)
      refine r_pure rfl rfl ?_
      refine r_if2 rfl rfl ?_ ?_
      · refine r_pure rfl rfl ?_
        refine r_pure rfl rfl ?_
        refine r_callV_I rfl rfl (en_get (b := true) (k := 137) (L := 12) ⟨rfl, by decide⟩ rfl) (Nat.le_of_ble_eq_true rfl) (rf_X8_front (by omega) v1 S) (fun q5 => ?_)
        refine r_pure rfl rfl ?_
        refine r_get rfl (en_get (b := true) (k := 137) (L := 12) ⟨rfl, by decide⟩ rfl) (fo_get (S := S) rfl) ?_
        refine r_pure rfl rfl ?_
        refine r_iald rfl (en_get (b := true) (k := 139) (L := 0) ⟨rfl, by decide⟩ rfl) (fun a6 => ?_)
        refine r_pure rfl rfl ?_
        refine r_get rfl (en_get (b := true) (k := 137) (L := 12) ⟨rfl, by decide⟩ rfl) (fo_get (S := S) rfl) ?_
        refine r_pure rfl rfl ?_
        refine r_iald rfl (en_get (b := true) (k := 139) (L := 0) ⟨rfl, by decide⟩ rfl) (fun a7 => ?_)
        refine r_pure rfl rfl ?_
        refine r_if2 rfl rfl ?_ ?_
        · refine r_pure rfl rfl ?_
          refine r_pure rfl rfl ?_
          refine r_callV_I rfl rfl (en_get (b := true) (k := 137) (L := 12) ⟨rfl, by decide⟩ rfl) (Nat.le_of_ble_eq_true rfl) (rf_X8_rear (by omega) v1 S) (fun q8 => ?_)
          refine r_pure rfl rfl ?_
          refine r_get rfl (en_get (b := true) (k := 137) (L := 12) ⟨rfl, by decide⟩ rfl) (fo_get (S := S) rfl) ?_
          refine r_pure rfl rfl ?_
          refine r_iald rfl (en_get (b := true) (k := 139) (L := 0) ⟨rfl, by decide⟩ rfl) (fun a9 => ?_)
          refine r_pure rfl rfl ?_
          refine r_get rfl (en_get (b := true) (k := 137) (L := 12) ⟨rfl, by decide⟩ rfl) (fo_get (S := S) rfl) ?_
          refine r_pure rfl rfl ?_
          refine r_iald rfl (en_get (b := true) (k := 139) (L := 0) ⟨rfl, by decide⟩ rfl) (fun a10 => ?_)
          refine r_pure rfl rfl ?_
          refine r_if2 rfl rfl ?_ ?_
          · refine r_pure rfl rfl ?_
            exact r_retI rfl rfl
          · refine r_pure rfl rfl ?_
            refine r_pure rfl rfl ?_
            exact r_retI rfl rfl
        · refine r_pure rfl rfl ?_
          exact r_retI rfl rfl
      · refine r_pure rfl rfl ?_
        exact r_retI rfl rfl
    · refine r_pure rfl rfl ?_
      refine r_pure rfl rfl ?_
      refine r_pure rfl rfl ?_
      refine r_pure rfl rfl ?_
      refine r_callV_I rfl rfl (en_get (b := true) (k := 137) (L := 12) ⟨rfl, by decide⟩ rfl) (Nat.le_of_ble_eq_true rfl) (rf_X8_muchBut (by omega) v2 v1 S) (fun q11 => ?_)
      refine r_pure rfl rfl ?_
      refine r_pure (lv' := [some (.ref 137), some (.int v1), some (.int v2), some (.int ((100 : Int32) * q11))]) rfl rfl ?_
      refine r_pure rfl rfl ?_
      refine r_pure rfl rfl ?_
      refine r_pure rfl rfl ?_
      refine r_callV_I rfl rfl (en_get (b := true) (k := 137) (L := 12) ⟨rfl, by decide⟩ rfl) (Nat.le_of_ble_eq_true rfl) (rf_X8_holds (by omega) v2 (2 : Int32) S) (fun q12 => ?_)
      refine r_pure rfl rfl ?_
      refine r_if2 rfl rfl ?_ ?_
      · refine r_pure (lv' := [some (.ref 137), some (.int v1), some (.int (v2 + (1 : Int32))), some (.int ((100 : Int32) * q11))]) rfl rfl ?_
        refine r_pure rfl rfl ?_
        exact lm_le (by omega) (ih (v2 + (1 : Int32)) _)
      · refine r_pure rfl rfl ?_
        refine r_if1 rfl rfl ?_ ?_
        · refine r_pure (lv' := [some (.ref 137), some (.int v1), some (.int (v2 + (1 : Int32))), some (.int ((100 : Int32) * q11))]) rfl rfl ?_
          refine r_pure rfl rfl ?_
          exact lm_le (by omega) (ih (v2 + (1 : Int32)) _)
        · refine r_pure rfl rfl ?_
          refine r_pure rfl rfl ?_
          refine r_get rfl (en_get (b := true) (k := 137) (L := 12) ⟨rfl, by decide⟩ rfl) (fo_get (S := S) rfl) ?_
          refine r_pure rfl rfl ?_
          refine r_iald rfl (en_get (b := true) (k := 139) (L := 0) ⟨rfl, by decide⟩ rfl) (fun a13 => ?_)
          refine r_pure rfl rfl ?_
          refine r_pure rfl rfl ?_
          refine r_pure rfl rfl ?_
          refine r_callV_I rfl rfl (en_get (b := true) (k := 137) (L := 12) ⟨rfl, by decide⟩ rfl) (Nat.le_of_ble_eq_true rfl) (rf_X8_holds (by omega) v2 (0 : Int32) S) (fun q14 => ?_)
          refine r_pure rfl rfl ?_
          refine r_if2 rfl rfl ?_ ?_
          · refine r_pure (lv' := [some (.ref 137), some (.int v1), some (.int (v2 + (1 : Int32))), some (.int ((100 : Int32) * q11))]) rfl rfl ?_
            refine r_pure rfl rfl ?_
            exact lm_le (by omega) (ih (v2 + (1 : Int32)) _)
          · refine r_pure rfl rfl ?_
            refine r_pure rfl rfl ?_
            refine r_get rfl (en_get (b := true) (k := 137) (L := 12) ⟨rfl, by decide⟩ rfl) (fo_get (S := S) rfl) ?_
            refine r_pure rfl rfl ?_
            refine r_iald rfl (en_get (b := true) (k := 139) (L := 0) ⟨rfl, by decide⟩ rfl) (fun a15 => ?_)
            refine r_pure rfl rfl ?_
            refine r_pure rfl rfl ?_
            refine r_pure rfl rfl ?_
            refine r_callV_I rfl rfl (en_get (b := true) (k := 137) (L := 12) ⟨rfl, by decide⟩ rfl) (Nat.le_of_ble_eq_true rfl) (rf_X8_holds (by omega) v2 (0 : Int32) S) (fun q16 => ?_)
            refine r_pure rfl rfl ?_
            refine r_if2 rfl rfl ?_ ?_
            · refine r_pure (lv' := [some (.ref 137), some (.int v1), some (.int (v2 + (1 : Int32))), some (.int ((100 : Int32) * q11))]) rfl rfl ?_
              refine r_pure rfl rfl ?_
              exact lm_le (by omega) (ih (v2 + (1 : Int32)) _)
            · refine r_pure rfl rfl ?_
              exact r_retI rfl rfl
set_option maxRecDepth 100000 in
theorem rf_X8_stands {d : Nat} (hd : 4 ≤ d) {O : HS} (v1 : Int32) (S : HS) : Lm (oI (en true O S)) (s_X8_stands v1 S) (CF d 135 [.ref 137, .int v1] (en true O S)) := by
  unfold s_X8_stands
  obtain ⟨e, rfl⟩ : ∃ e, d = e + 1 := ⟨d - 1, by omega⟩
  refine rm_of (lv := [some (.ref 137), some (.int v1), none, none]) (k_X8_stands false) (by omega) rfl rfl (Nat.le_of_ble_eq_true rfl) ?_
  refine lm_le (n := 1922) (by omega) ?_
  show Lm _ _ (run (CF e) _ _ _ _ _ _)
  refine r_pure rfl rfl ?_
  refine r_pure (lv' := [some (.ref 137), some (.int v1), some (.int (0 : Int32)), none]) rfl rfl ?_
  exact lm_le (by omega) (rl_X8_stands_L2 (n := 0) (by omega) v1 S 40 (0 : Int32) _)
/-! X8_now -/
def s_X8_now (v1 : Int32) (S : HS) : Option (Int32 × HS) :=
  Option.bind (pf S 137 0 (0 : Int32)) fun S1 =>
  Option.bind (s_X8_laysNow S1) fun q2 =>
  if v1 = (0 : Int32) then
    Option.bind (ag (ga q2 139) (9 : Int32)) fun a3 =>
    some (a3, q2)
  else if v1 = (1 : Int32) then
    Option.bind (ag (ga q2 139) (10 : Int32)) fun a4 =>
    some (a4, q2)
  else if v1 = (2 : Int32) then
    Option.bind (ag (ga q2 139) (13 : Int32)) fun a5 =>
    some (a5, q2)
  else if v1 = (3 : Int32) then
    Option.bind (s_X8_bars q2) fun q6 =>
    some (q6, q2)
  else if v1 = (4 : Int32) then
    Option.bind (s_X8_front (0 : Int32) q2) fun q7 =>
    some (q7, q2)
  else if v1 = (5 : Int32) then
    Option.bind (s_X8_rear (0 : Int32) q2) fun q8 =>
    some (q8, q2)
  else if v1 = (6 : Int32) then
    Option.bind (s_X8_stands (0 : Int32) q2) fun q9 =>
    some (q9, q2)
  else if v1 = (7 : Int32) then
    Option.bind (ag (ga q2 139) (14 : Int32)) fun a10 =>
    some (a10, q2)
  else if v1 = (8 : Int32) then
    some ((gf q2 137 14), q2)
  else if v1 = (9 : Int32) then
    some ((gf q2 137 2), q2)
  else 
    some ((-100000000 : Int32), q2)
set_option maxRecDepth 100000 in
theorem rf_X8_now {d : Nat} (hd : 5 ≤ d) {O : HS} (v1 : Int32) (S : HS) : Lm (oIW true O) (s_X8_now v1 S) (CF d 139 [.ref 137, .int v1] (en true O S)) := by
  unfold s_X8_now
  obtain ⟨e, rfl⟩ : ∃ e, d = e + 1 := ⟨d - 1, by omega⟩
  refine rm_of (lv := [some (.ref 137), some (.int v1)]) (k_X8_now false) (by omega) rfl rfl (Nat.le_of_ble_eq_true rfl) ?_
  refine lm_le (n := 12) (by omega) ?_
  show Lm _ _ (run (CF e) _ _ _ _ _ _)
  refine r_pure rfl rfl ?_
  refine r_pure rfl rfl ?_
  refine r_putI rfl ⟨rfl, by decide⟩ rfl rfl rfl (fun S1 => ?_)
  refine r_pure rfl rfl ?_
  refine r_callV_VW rfl rfl (en_get (b := true) (k := 137) (L := 12) ⟨rfl, by decide⟩ rfl) (Nat.le_of_ble_eq_true rfl) (rf_X8_laysNow (by omega) S1) (fun q2 => ?_)
  refine r_pure rfl rfl ?_
  refine r_sw rfl ?_
  refine sw_one (t := 64) (by decide) ?_ (fun hx0 => ?_)
  · refine r_pure rfl rfl ?_
    refine r_get rfl (en_get (b := true) (k := 137) (L := 12) ⟨rfl, by decide⟩ rfl) (fo_get (S := q2) rfl) ?_
    refine r_pure rfl rfl ?_
    refine r_iald rfl (en_get (b := true) (k := 139) (L := 0) ⟨rfl, by decide⟩ rfl) (fun a3 => ?_)
    exact r_retI rfl rfl
  refine sw_one (t := 72) (by decide) ?_ (fun hx1 => ?_)
  · refine r_pure rfl rfl ?_
    refine r_get rfl (en_get (b := true) (k := 137) (L := 12) ⟨rfl, by decide⟩ rfl) (fo_get (S := q2) rfl) ?_
    refine r_pure rfl rfl ?_
    refine r_iald rfl (en_get (b := true) (k := 139) (L := 0) ⟨rfl, by decide⟩ rfl) (fun a4 => ?_)
    exact r_retI rfl rfl
  refine sw_one (t := 80) (by decide) ?_ (fun hx2 => ?_)
  · refine r_pure rfl rfl ?_
    refine r_get rfl (en_get (b := true) (k := 137) (L := 12) ⟨rfl, by decide⟩ rfl) (fo_get (S := q2) rfl) ?_
    refine r_pure rfl rfl ?_
    refine r_iald rfl (en_get (b := true) (k := 139) (L := 0) ⟨rfl, by decide⟩ rfl) (fun a5 => ?_)
    exact r_retI rfl rfl
  refine sw_one (t := 88) (by decide) ?_ (fun hx3 => ?_)
  · refine r_pure rfl rfl ?_
    refine r_callV_I rfl rfl (en_get (b := true) (k := 137) (L := 12) ⟨rfl, by decide⟩ rfl) (Nat.le_of_ble_eq_true rfl) (rf_X8_bars (by omega) q2) (fun q6 => ?_)
    exact r_retI rfl rfl
  refine sw_one (t := 93) (by decide) ?_ (fun hx4 => ?_)
  · refine r_pure rfl rfl ?_
    refine r_pure rfl rfl ?_
    refine r_callV_I rfl rfl (en_get (b := true) (k := 137) (L := 12) ⟨rfl, by decide⟩ rfl) (Nat.le_of_ble_eq_true rfl) (rf_X8_front (by omega) (0 : Int32) q2) (fun q7 => ?_)
    exact r_retI rfl rfl
  refine sw_one (t := 99) (by decide) ?_ (fun hx5 => ?_)
  · refine r_pure rfl rfl ?_
    refine r_pure rfl rfl ?_
    refine r_callV_I rfl rfl (en_get (b := true) (k := 137) (L := 12) ⟨rfl, by decide⟩ rfl) (Nat.le_of_ble_eq_true rfl) (rf_X8_rear (by omega) (0 : Int32) q2) (fun q8 => ?_)
    exact r_retI rfl rfl
  refine sw_one (t := 105) (by decide) ?_ (fun hx6 => ?_)
  · refine r_pure rfl rfl ?_
    refine r_pure rfl rfl ?_
    refine r_callV_I rfl rfl (en_get (b := true) (k := 137) (L := 12) ⟨rfl, by decide⟩ rfl) (Nat.le_of_ble_eq_true rfl) (rf_X8_stands (by omega) (0 : Int32) q2) (fun q9 => ?_)
    exact r_retI rfl rfl
  refine sw_one (t := 111) (by decide) ?_ (fun hx7 => ?_)
  · refine r_pure rfl rfl ?_
    refine r_get rfl (en_get (b := true) (k := 137) (L := 12) ⟨rfl, by decide⟩ rfl) (fo_get (S := q2) rfl) ?_
    refine r_pure rfl rfl ?_
    refine r_iald rfl (en_get (b := true) (k := 139) (L := 0) ⟨rfl, by decide⟩ rfl) (fun a10 => ?_)
    exact r_retI rfl rfl
  refine sw_one (t := 119) (by decide) ?_ (fun hx8 => ?_)
  · refine r_pure rfl rfl ?_
    refine r_get rfl (en_get (b := true) (k := 137) (L := 12) ⟨rfl, by decide⟩ rfl) (fo_get (S := q2) rfl) ?_
    exact r_retI rfl rfl
  refine sw_one (t := 124) (by decide) ?_ (fun hx9 => ?_)
  · refine r_pure rfl rfl ?_
    refine r_get rfl (en_get (b := true) (k := 137) (L := 12) ⟨rfl, by decide⟩ rfl) (fo_get (S := q2) rfl) ?_
    exact r_retI rfl rfl
  refine sw_def (sw_out (m := 10) rfl (by decide) (fun k hk => (by
      match k, hk with
      | 0, _ => exact hx0
      | 1, _ => exact hx1
      | 2, _ => exact hx2
      | 3, _ => exact hx3
      | 4, _ => exact hx4
      | 5, _ => exact hx5
      | 6, _ => exact hx6
      | 7, _ => exact hx7
      | 8, _ => exact hx8
      | 9, _ => exact hx9
      | k + 10, hk => exact absurd hk (by omega)))) ?_
  refine r_pure rfl rfl ?_
  exact r_retI rfl rfl
/-! X8_isHold -/
def s_X8_isHold (v1 : Int32) (S : HS) : Option Int32 :=
  Option.bind (ag (ga S 139) (9 : Int32)) fun a1 =>
  Option.bind (s_X8_isIn v1 (0 : Int32) (a1 - (1 : Int32))) fun q2 =>
  Option.bind (gz q2) fun _ =>
  some q2
set_option maxRecDepth 100000 in
theorem rf_X8_isHold {d : Nat} (hd : 2 ≤ d) {O : HS} (v1 : Int32) (S : HS) : Lm (oI (en true O S)) (s_X8_isHold v1 S) (CF d 121 [.ref 137, .int v1] (en true O S)) := by
  unfold s_X8_isHold
  obtain ⟨e, rfl⟩ : ∃ e, d = e + 1 := ⟨d - 1, by omega⟩
  refine rm_of (lv := [some (.ref 137), some (.int v1)]) (k_X8_isHold false) (by omega) rfl rfl (Nat.le_of_ble_eq_true rfl) ?_
  refine lm_le (n := 10) (by omega) ?_
  show Lm _ _ (run (CF e) _ _ _ _ _ _)
  refine r_pure rfl rfl ?_
  refine r_pure rfl rfl ?_
  refine r_pure rfl rfl ?_
  refine r_get rfl (en_get (b := true) (k := 137) (L := 12) ⟨rfl, by decide⟩ rfl) (fo_get (S := S) rfl) ?_
  refine r_pure rfl rfl ?_
  refine r_iald rfl (en_get (b := true) (k := 139) (L := 0) ⟨rfl, by decide⟩ rfl) (fun a1 => ?_)
  refine r_pure rfl rfl ?_
  refine r_pure rfl rfl ?_
  refine r_callS_I rfl (Nat.le_of_ble_eq_true rfl) (Nat.le_of_ble_eq_true rfl) (rf_X8_isIn (by omega) v1 (0 : Int32) (a1 - (1 : Int32))) (fun q2 => ?_)
  exact r_retG rfl rfl rfl
/-! X8_top -/
def s_X8_top (v1 : Int32) (S : HS) : Option Int32 :=
  Option.bind (s_X8_holds v1 (0 : Int32) S) fun q1 =>
  Option.bind (ag (ga S 139) (6 : Int32)) fun a2 =>
  some ((q1 * a2) / (100 : Int32))
set_option maxRecDepth 100000 in
theorem rf_X8_top {d : Nat} (hd : 2 ≤ d) {O : HS} (v1 : Int32) (S : HS) : Lm (oI (en true O S)) (s_X8_top v1 S) (CF d 126 [.ref 137, .int v1] (en true O S)) := by
  unfold s_X8_top
  obtain ⟨e, rfl⟩ : ∃ e, d = e + 1 := ⟨d - 1, by omega⟩
  refine rm_of (lv := [some (.ref 137), some (.int v1)]) (k_X8_top false) (by omega) rfl rfl (Nat.le_of_ble_eq_true rfl) ?_
  refine lm_le (n := 12) (by omega) ?_
  show Lm _ _ (run (CF e) _ _ _ _ _ _)
  refine r_pure rfl rfl ?_
  refine r_pure rfl rfl ?_
  refine r_pure rfl rfl ?_
  refine r_callV_I rfl rfl (en_get (b := true) (k := 137) (L := 12) ⟨rfl, by decide⟩ rfl) (Nat.le_of_ble_eq_true rfl) (rf_X8_holds (by omega) v1 (0 : Int32) S) (fun q1 => ?_)
  refine r_pure rfl rfl ?_
  refine r_get rfl (en_get (b := true) (k := 137) (L := 12) ⟨rfl, by decide⟩ rfl) (fo_get (S := S) rfl) ?_
  refine r_pure rfl rfl ?_
  refine r_iald rfl (en_get (b := true) (k := 139) (L := 0) ⟨rfl, by decide⟩ rfl) (fun a2 => ?_)
  refine r_pure rfl rfl ?_
  refine r_pure rfl rfl ?_
  refine r_div rfl (by decide) ?_
  exact r_retI rfl rfl
