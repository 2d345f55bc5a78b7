/-! X3_fewestWashes -/
def s_X3_fewestWashes (t : Nat) (S : HS) : Option (Int32 × HS) :=
  Option.bind (s_X3_prepare t (1 : Int32) S) fun q1 =>
  Option.bind (s_X3_deal 8 (0 : Int32) q1) fun q2 =>
  if (gf q2 121 12) = (0 : Int32) then
    some ((-1 : Int32), q2)
  else
    some ((gf q2 121 13), q2)
set_option maxRecDepth 100000 in
theorem rf_X3_fewestWashes {d : Nat} (hd : 15 ≤ d) {O : HS} (t : Nat) (ht : isT t) (S : HS) : Lm (oIW false O) (s_X3_fewestWashes t S) (CF d 26 [.ref 121, .ref t, .ref 22] (en false O S)) := by
  unfold s_X3_fewestWashes
  obtain ⟨e, rfl⟩ : ∃ e, d = e + 1 := ⟨d - 1, by omega⟩
  refine rm_of (lv := [some (.ref 121), some (.ref t), some (.ref 22)]) (k_X3_fewestWashes false) (by omega) rfl rfl (Nat.le_of_ble_eq_true rfl) ?_
  refine lm_le (n := 15) (by omega) ?_
  show Lm _ _ (run (CF e) _ _ _ _ _ _)
  refine r_pure rfl rfl ?_
  refine r_pure rfl rfl ?_
  refine r_pure rfl rfl ?_
  refine r_pure rfl rfl ?_
  refine r_callV_VW rfl rfl (en_get (b := false) (k := 121) (L := 7) ⟨rfl, by decide⟩ rfl) (Nat.le_of_ble_eq_true rfl) (rf_X3_prepare (by omega) t ht (1 : Int32) S) (fun q1 => ?_)
  refine r_pure rfl rfl ?_
  refine r_pure rfl rfl ?_
  refine r_callS_VW rfl (Nat.le_of_ble_eq_true rfl) (Nat.le_of_ble_eq_true rfl) (rf_X3_deal 8 (by omega) (0 : Int32) q1) (fun q2 => ?_)
  refine r_pure rfl rfl ?_
  refine r_get rfl (en_get (b := false) (k := 121) (L := 7) ⟨rfl, by decide⟩ rfl) (fo_get (S := q2) rfl) ?_
  refine r_if1 rfl rfl ?_ ?_
  · refine r_pure rfl rfl ?_
    exact r_retI rfl rfl
  · refine r_pure rfl rfl ?_
    refine r_get rfl (en_get (b := false) (k := 121) (L := 7) ⟨rfl, by decide⟩ rfl) (fo_get (S := q2) rfl) ?_
    refine r_pure rfl rfl ?_
    exact r_retI rfl rfl
/-! X7_washes -/
def s_X7_washes (S : HS) : Option (Int32 × HS) :=
  Option.bind (tl (gr S 0 4)) fun t1 =>
  Option.bind (s_X3_fewestWashes t1 S) fun q2 =>
  if q2.1 ≠ (-1 : Int32) then
    some (q2.1, q2.2)
  else
    some ((-2 : Int32), q2.2)
set_option maxRecDepth 100000 in
theorem rf_X7_washes {d : Nat} (hd : 16 ≤ d) {O : HS} (S : HS) : Lm (oIW false O) (s_X7_washes S) (CF d 82 [.ref 0] (en false O S)) := by
  unfold s_X7_washes
  obtain ⟨e, rfl⟩ : ∃ e, d = e + 1 := ⟨d - 1, by omega⟩
  refine rm_of (lv := [some (.ref 0), none]) (k_X7_washes false) (by omega) rfl rfl (Nat.le_of_ble_eq_true rfl) ?_
  refine lm_le (n := 14) (by omega) ?_
  show Lm _ _ (run (CF e) _ _ _ _ _ _)
  refine r_pure rfl rfl ?_
  refine r_get rfl (en_get (b := false) (k := 0) (L := 11) ⟨rfl, by decide⟩ rfl) (fo_get (S := S) rfl) ?_
  refine r_pure rfl rfl ?_
  refine r_getT rfl ⟨rfl, by decide⟩ rfl rfl (fun t1 ht1 => ?_)
  refine r_pure rfl rfl ?_
  refine r_get rfl (en_get (b := false) (k := 0) (L := 11) ⟨rfl, by decide⟩ rfl) (fo_get (S := S) rfl) ?_
  refine r_callV_IW rfl rfl (en_get (b := false) (k := 121) (L := 7) ⟨rfl, by decide⟩ rfl) (Nat.le_of_ble_eq_true rfl) (rf_X3_fewestWashes (by omega) t1 ht1 S) (fun q2 => ?_)
  refine r_pure (lv' := [some (.ref 0), some (.int q2.1)]) rfl rfl ?_
  refine r_pure rfl rfl ?_
  refine r_pure rfl rfl ?_
  refine r_if2 rfl rfl ?_ ?_
  · refine r_pure rfl rfl ?_
    exact r_retI rfl rfl
  · refine r_pure rfl rfl ?_
    refine r_pure rfl rfl ?_
    exact r_retI rfl rfl
/-! X5_waiting -/
def s_X5_waiting_L4 (t : Nat) (S : HS) : Nat → Int32 → Int32 → Option Int32
  | 0, _, _ => none
  | K + 1, v2, v3 =>
    if (gf S 22 1) ≤ v3 then
      some v2
    else
      Option.bind (s_X5_how t v3 S) fun q1 =>
      if q1 ≠ (0 : Int32) then
        s_X5_waiting_L4 t S K v2 (v3 + (1 : Int32))
      else
        s_X5_waiting_L4 t S K (v2 + (1 : Int32)) (v3 + (1 : Int32))
def s_X5_waiting (t : Nat) (S : HS) : Option Int32 :=
  s_X5_waiting_L4 t S 40 (0 : Int32) (0 : Int32)
set_option maxRecDepth 100000 in
theorem rl_X5_waiting_L4 {e : Nat} (he : 2 ≤ e) {O : HS} (t : Nat) (ht : isT t) (S : HS) {n : Nat} : ∀ (K : Nat) (v2 : Int32) (v3 : Int32), Lm (oI (en false O S)) (s_X5_waiting_L4 t S K v2 v3) (run (CF e) (k_X5_waiting false) (n + (12 * K + 0)) 4 [some (.ref 22), some (.ref t), some (.int v2), some (.int v3)] [] (en false O S)) := by
  intro K
  induction K with
  | zero =>
    intros
    exact lm_none
  | succ K ih =>
    intro v2 v3
    rw [show n + (12 * (K + 1) + 0) = n + (12 * K + 0) + 12 by omega]
    rw [s_X5_waiting_L4]
    refine r_pure rfl rfl ?_
    refine r_pure rfl rfl ?_
    refine r_get rfl (en_get (b := false) (k := 22) (L := 9) ⟨rfl, by decide⟩ rfl) (fo_get (S := S) rfl) ?_
    refine r_if2 rfl rfl ?_ ?_
    · refine r_pure rfl rfl ?_
      exact r_retI rfl rfl
    · refine r_pure rfl rfl ?_
      refine r_pure rfl rfl ?_
      refine r_pure rfl rfl ?_
      refine r_callV_I rfl rfl (en_get (b := false) (k := 22) (L := 9) ⟨rfl, by decide⟩ rfl) (Nat.le_of_ble_eq_true rfl) (rf_X5_how (by omega) t ht v3 S) (fun q1 => ?_)
      refine r_if1 rfl rfl ?_ ?_
      · refine r_pure (lv' := [some (.ref 22), some (.ref t), some (.int v2), some (.int (v3 + (1 : Int32)))]) rfl rfl ?_
        refine r_pure rfl rfl ?_
        exact lm_le (by omega) (ih v2 (v3 + (1 : Int32)))
      · refine r_pure (lv' := [some (.ref 22), some (.ref t), some (.int (v2 + (1 : Int32))), some (.int v3)]) rfl rfl ?_
        refine r_pure (lv' := [some (.ref 22), some (.ref t), some (.int (v2 + (1 : Int32))), some (.int (v3 + (1 : Int32)))]) rfl rfl ?_
        refine r_pure rfl rfl ?_
        exact lm_le (by omega) (ih (v2 + (1 : Int32)) (v3 + (1 : Int32)))
set_option maxRecDepth 100000 in
theorem rf_X5_waiting {d : Nat} (hd : 3 ≤ d) {O : HS} (t : Nat) (ht : isT t) (S : HS) : Lm (oI (en false O S)) (s_X5_waiting t S) (CF d 60 [.ref 22, .ref t] (en false O S)) := by
  unfold s_X5_waiting
  obtain ⟨e, rfl⟩ : ∃ e, d = e + 1 := ⟨d - 1, by omega⟩
  refine rm_of (lv := [some (.ref 22), some (.ref t), none, none]) (k_X5_waiting false) (by omega) rfl rfl (Nat.le_of_ble_eq_true rfl) ?_
  refine lm_le (n := 484) (by omega) ?_
  show Lm _ _ (run (CF e) _ _ _ _ _ _)
  refine r_pure rfl rfl ?_
  refine r_pure (lv' := [some (.ref 22), some (.ref t), some (.int (0 : Int32)), none]) rfl rfl ?_
  refine r_pure rfl rfl ?_
  refine r_pure (lv' := [some (.ref 22), some (.ref t), some (.int (0 : Int32)), some (.int (0 : Int32))]) rfl rfl ?_
  exact lm_le (by omega) (rl_X5_waiting_L4 (n := 0) (by omega) t ht S 40 (0 : Int32) (0 : Int32))
/-! X5_copyFrom -/
def s_X5_copyFrom (s : Nat) (sx : Nat) (S : HS) : Option HS :=
  Option.bind (s_X0_copyFrom (s + 1) (sx + 1) S) fun q1 =>
  Option.bind (pf q1 s 1 (gf q1 sx 1)) fun S2 =>
  Option.bind (wc S2 (s + 6) (sx + 6) (20 : Int32)) fun S3 =>
  Option.bind (wc S3 (s + 7) (sx + 7) (20 : Int32)) fun S4 =>
  Option.bind (pf S4 s 4 (gf S4 sx 4)) fun S5 =>
  some S5
set_option maxRecDepth 100000 in
theorem rf_X5_copyFrom {d : Nat} (hd : 2 ≤ d) {O : HS} (s : Nat) (sx : Nat) (hs : isS s) (hsx : isS sx) (S : HS) : Lm (oV false O) (s_X5_copyFrom s sx S) (CF d 56 [.ref s, .ref sx] (en false O S)) := by
  unfold s_X5_copyFrom
  obtain ⟨e, rfl⟩ : ∃ e, d = e + 1 := ⟨d - 1, by omega⟩
  refine rm_of (lv := [some (.ref s), some (.ref sx)]) (k_X5_copyFrom false) (by omega) rfl rfl (Nat.le_of_ble_eq_true rfl) ?_
  refine lm_le (n := 30) (by omega) ?_
  show Lm _ _ (run (CF e) _ _ _ _ _ _)
  refine r_pure rfl rfl ?_
  refine r_get rfl (en_get (b := false) (k := s) (L := 9) (zS0 hs) (lS0 hs)) (fo_get (S := S) rfl) ?_
  refine r_pure rfl rfl ?_
  refine r_get rfl (en_get (b := false) (k := sx) (L := 9) (zS0 hsx) (lS0 hsx)) (fo_get (S := S) rfl) ?_
  refine r_callV_VW rfl rfl (en_get (b := false) (k := (s + 1)) (L := 4) (zS1 hs) (lS1 hs)) (Nat.le_of_ble_eq_true rfl) (rf_X0_copyFrom (by omega) (s + 1) (sx + 1) (mSC hs) (mSC hsx) S) (fun q1 => ?_)
  refine r_pure rfl rfl ?_
  refine r_pure rfl rfl ?_
  refine r_get rfl (en_get (b := false) (k := sx) (L := 9) (zS0 hsx) (lS0 hsx)) (fo_get (S := q1) rfl) ?_
  refine r_putI rfl (zS0 hs) (lS0 hs) rfl rfl (fun S2 => ?_)
  refine r_pure rfl rfl ?_
  refine r_get rfl (en_get (b := false) (k := sx) (L := 9) (zS0 hsx) (lS0 hsx)) (fo_get (S := S2) rfl) ?_
  refine r_pure rfl rfl ?_
  refine r_pure rfl rfl ?_
  refine r_get rfl (en_get (b := false) (k := s) (L := 9) (zS0 hs) (lS0 hs)) (fo_get (S := S2) rfl) ?_
  refine r_pure rfl rfl ?_
  refine r_pure rfl rfl ?_
  refine r_copy rfl (zS6 hs) (zS6 hsx) (lS6 hs) (lS6 hsx) (Nat.le_of_ble_eq_true rfl) (fun S3 => ?_)
  refine r_pure rfl rfl ?_
  refine r_get rfl (en_get (b := false) (k := sx) (L := 9) (zS0 hsx) (lS0 hsx)) (fo_get (S := S3) rfl) ?_
  refine r_pure rfl rfl ?_
  refine r_pure rfl rfl ?_
  refine r_get rfl (en_get (b := false) (k := s) (L := 9) (zS0 hs) (lS0 hs)) (fo_get (S := S3) rfl) ?_
  refine r_pure rfl rfl ?_
  refine r_pure rfl rfl ?_
  refine r_copy rfl (zS7 hs) (zS7 hsx) (lS7 hs) (lS7 hsx) (Nat.le_of_ble_eq_true rfl) (fun S4 => ?_)
  refine r_pure rfl rfl ?_
  refine r_pure rfl rfl ?_
  refine r_get rfl (en_get (b := false) (k := sx) (L := 9) (zS0 hsx) (lS0 hsx)) (fo_get (S := S4) rfl) ?_
  refine r_putI rfl (zS0 hs) (lS0 hs) rfl rfl (fun S5 => ?_)
  exact r_retV rfl rfl
/-! X1_keep -/
def s_X1_keep_J35 (x1 : Int32) (S : HS) : Option HS :=
  Option.bind (pf S 30 1 x1) fun S3 =>
  Option.bind (pf S3 30 2 (mn ((gf S3 30 2) + (1 : Int32)) (10 : Int32))) fun S4 =>
  some S4
def s_X1_keep (S : HS) : Option HS :=
  Option.bind (rw_ (gf S 30 1)) fun s1 =>
  Option.bind (s_X5_copyFrom s1 22 S) fun q2 =>
  if (10 : Int32) ≤ ((gf q2 30 1) + (1 : Int32)) then
    s_X1_keep_J35 (0 : Int32) q2
  else
    s_X1_keep_J35 ((gf q2 30 1) + (1 : Int32)) q2
set_option maxRecDepth 100000 in
theorem rj_X1_keep_J35 {e : Nat} (he : 2 ≤ e) {O : HS} (x1 : Int32) {n : Nat} (S : HS) (j1 : Option Value) : Lm (oV false O) (s_X1_keep_J35 x1 S) (run (CF e) (k_X1_keep false) (n + 10) 35 [some (.ref 30), j1] [.int x1, .ref 30] (en false O S)) := by
  unfold s_X1_keep_J35
  refine r_putI rfl ⟨rfl, by decide⟩ rfl rfl rfl (fun S3 => ?_)
  refine r_pure rfl rfl ?_
  refine r_pure rfl rfl ?_
  refine r_get rfl (en_get (b := false) (k := 30) (L := 5) ⟨rfl, by decide⟩ rfl) (fo_get (S := S3) rfl) ?_
  refine r_pure rfl rfl ?_
  refine r_pure rfl rfl ?_
  refine r_pure rfl rfl ?_
  refine r_min rfl (Nat.le_of_ble_eq_true rfl) ?_
  refine r_putI rfl ⟨rfl, by decide⟩ rfl rfl rfl (fun S4 => ?_)
  exact r_retV rfl rfl
set_option maxRecDepth 100000 in
theorem rf_X1_keep {d : Nat} (hd : 3 ≤ d) {O : HS} (S : HS) : Lm (oV false O) (s_X1_keep S) (CF d 15 [.ref 30, .ref 22] (en false O S)) := by
  unfold s_X1_keep
  obtain ⟨e, rfl⟩ : ∃ e, d = e + 1 := ⟨d - 1, by omega⟩
  refine rm_of (lv := [some (.ref 30), some (.ref 22)]) (k_X1_keep false) (by omega) rfl rfl (Nat.le_of_ble_eq_true rfl) ?_
  refine lm_le (n := 29) (by omega) ?_
  show Lm _ _ (run (CF e) _ _ _ _ _ _)
  refine r_pure rfl rfl ?_
  refine r_get rfl (en_get (b := false) (k := 30) (L := 5) ⟨rfl, by decide⟩ rfl) (fo_get (S := S) rfl) ?_
  refine r_pure rfl rfl ?_
  refine r_get rfl (en_get (b := false) (k := 30) (L := 5) ⟨rfl, by decide⟩ rfl) (fo_get (S := S) rfl) ?_
  refine r_aald rfl (en_get (b := false) (k := 31) (L := 3) ⟨rfl, by decide⟩ rfl) (fun s1 hs1 => ?_)
  refine r_pure rfl rfl ?_
  refine r_callV_VW rfl rfl (en_get (b := false) (k := s1) (L := 9) (zS0 hs1) (lS0 hs1)) (Nat.le_of_ble_eq_true rfl) (rf_X5_copyFrom (by omega) s1 22 hs1 mS22 S) (fun q2 => ?_)
  refine r_pure rfl rfl ?_
  refine r_pure rfl rfl ?_
  refine r_get rfl (en_get (b := false) (k := 30) (L := 5) ⟨rfl, by decide⟩ rfl) (fo_get (S := q2) rfl) ?_
  refine r_pure rfl rfl ?_
  refine r_pure rfl rfl ?_
  refine r_pure rfl rfl ?_
  refine r_if2 rfl rfl ?_ ?_
  · refine r_pure rfl rfl ?_
    exact lm_le (by omega) (rj_X1_keep_J35 (n := 0) (by omega) (0 : Int32) q2 _)
  · refine r_pure rfl rfl ?_
    refine r_get rfl (en_get (b := false) (k := 30) (L := 5) ⟨rfl, by decide⟩ rfl) (fo_get (S := q2) rfl) ?_
    refine r_pure rfl rfl ?_
    refine r_pure rfl rfl ?_
    refine r_pure rfl rfl ?_
    exact lm_le (by omega) (rj_X1_keep_J35 (n := 0) (by omega) ((gf q2 30 1) + (1 : Int32)) q2 _)
/-! X7_asks -/
def s_X7_asks (v1 : Int32) (v2 : Int32) (S : HS) : Option (Int32 × HS) :=
  Option.bind (tl (gr S 0 4)) fun t1 =>
  Option.bind (s_X6_hasLiquid t1 v1 S) fun q2 =>
  if q2 = (0 : Int32) then
    some ((-1 : Int32), S)
  else
    if v2 < (1 : Int32) then
      some ((-1 : Int32), S)
    else
      if v2 ≤ (4995 : Int32) then
        Option.bind (tl (gr S 0 4)) fun t3 =>
        Option.bind (s_X5_waiting t3 S) fun q4 =>
        if q4 < (4 : Int32) then
          if (gf S 22 1) < (20 : Int32) then
            Option.bind (s_X1_keep S) fun q5 =>
            Option.bind (tl (gr q5 0 4)) fun t6 =>
            Option.bind (wa q5 (t6 + 7) (gf q5 22 1) v1) fun S7 =>
            Option.bind (tl (gr S7 0 4)) fun t8 =>
            Option.bind (wa S7 (t8 + 8) (gf q5 22 1) v2) fun S9 =>
            Option.bind (s_X5_addDrop S9) fun q10 =>
            some ((gf q5 22 1), q10)
          else
            some ((-3 : Int32), S)
        else
          some ((-2 : Int32), S)
      else
        some ((-1 : Int32), S)
set_option maxRecDepth 100000 in
theorem rf_X7_asks {d : Nat} (hd : 4 ≤ d) {O : HS} (v1 : Int32) (v2 : Int32) (S : HS) : Lm (oIW false O) (s_X7_asks v1 v2 S) (CF d 83 [.ref 0, .int v1, .int v2] (en false O S)) := by
  unfold s_X7_asks
  obtain ⟨e, rfl⟩ : ∃ e, d = e + 1 := ⟨d - 1, by omega⟩
  refine rm_of (lv := [some (.ref 0), some (.int v1), some (.int v2), none]) (k_X7_asks false) (by omega) rfl rfl (Nat.le_of_ble_eq_true rfl) ?_
  refine lm_le (n := 49) (by omega) ?_
  show Lm _ _ (run (CF e) _ _ _ _ _ _)
  refine r_pure rfl rfl ?_
  refine r_getT rfl ⟨rfl, by decide⟩ rfl rfl (fun t1 ht1 => ?_)
  refine r_pure rfl rfl ?_
  refine r_callV_I rfl rfl (en_get (b := false) (k := t1) (L := 10) (zT0 ht1) (lT0 ht1)) (Nat.le_of_ble_eq_true rfl) (rf_X6_hasLiquid (by omega) t1 ht1 v1 S) (fun q2 => ?_)
  refine r_if1 rfl rfl ?_ ?_
  · refine r_pure rfl rfl ?_
    exact r_retI rfl rfl
  · refine r_pure rfl rfl ?_
    refine r_pure rfl rfl ?_
    refine r_if2 rfl rfl ?_ ?_
    · refine r_pure rfl rfl ?_
      exact r_retI rfl rfl
    · refine r_pure rfl rfl ?_
      refine r_pure rfl rfl ?_
      refine r_if2 rfl rfl ?_ ?_
      · refine r_pure rfl rfl ?_
        refine r_get rfl (en_get (b := false) (k := 0) (L := 11) ⟨rfl, by decide⟩ rfl) (fo_get (S := S) rfl) ?_
        refine r_pure rfl rfl ?_
        refine r_getT rfl ⟨rfl, by decide⟩ rfl rfl (fun t3 ht3 => ?_)
        refine r_callV_I rfl rfl (en_get (b := false) (k := 22) (L := 9) ⟨rfl, by decide⟩ rfl) (Nat.le_of_ble_eq_true rfl) (rf_X5_waiting (by omega) t3 ht3 S) (fun q4 => ?_)
        refine r_pure rfl rfl ?_
        refine r_if2 rfl rfl ?_ ?_
        · refine r_pure rfl rfl ?_
          refine r_get rfl (en_get (b := false) (k := 0) (L := 11) ⟨rfl, by decide⟩ rfl) (fo_get (S := S) rfl) ?_
          refine r_get rfl (en_get (b := false) (k := 22) (L := 9) ⟨rfl, by decide⟩ rfl) (fo_get (S := S) rfl) ?_
          refine r_pure rfl rfl ?_
          refine r_if2 rfl rfl ?_ ?_
          · refine r_pure rfl rfl ?_
            refine r_get rfl (en_get (b := false) (k := 0) (L := 11) ⟨rfl, by decide⟩ rfl) (fo_get (S := S) rfl) ?_
            refine r_pure rfl rfl ?_
            refine r_get rfl (en_get (b := false) (k := 0) (L := 11) ⟨rfl, by decide⟩ rfl) (fo_get (S := S) rfl) ?_
            refine r_callV_VW rfl rfl (en_get (b := false) (k := 30) (L := 5) ⟨rfl, by decide⟩ rfl) (Nat.le_of_ble_eq_true rfl) (rf_X1_keep (by omega) S) (fun q5 => ?_)
            refine r_pure rfl rfl ?_
            refine r_get rfl (en_get (b := false) (k := 0) (L := 11) ⟨rfl, by decide⟩ rfl) (fo_get (S := q5) rfl) ?_
            refine r_get rfl (en_get (b := false) (k := 22) (L := 9) ⟨rfl, by decide⟩ rfl) (fo_get (S := q5) rfl) ?_
            refine r_pure (lv' := [some (.ref 0), some (.int v1), some (.int v2), some (.int (gf q5 22 1))]) rfl rfl ?_
            refine r_pure rfl rfl ?_
            refine r_getT rfl ⟨rfl, by decide⟩ rfl rfl (fun t6 ht6 => ?_)
            refine r_get rfl (en_get (b := false) (k := t6) (L := 10) (zT0 ht6) (lT0 ht6)) (fo_get (S := q5) rfl) ?_
            refine r_pure rfl rfl ?_
            refine r_pure rfl rfl ?_
            refine r_iastI rfl (zT7 ht6) (lT7 ht6) (fun S7 => ?_)
            refine r_pure rfl rfl ?_
            refine r_getT rfl ⟨rfl, by decide⟩ rfl rfl (fun t8 ht8 => ?_)
            refine r_get rfl (en_get (b := false) (k := t8) (L := 10) (zT0 ht8) (lT0 ht8)) (fo_get (S := S7) rfl) ?_
            refine r_pure rfl rfl ?_
            refine r_pure rfl rfl ?_
            refine r_iastI rfl (zT8 ht8) (lT8 ht8) (fun S9 => ?_)
            refine r_pure rfl rfl ?_
            refine r_get rfl (en_get (b := false) (k := 0) (L := 11) ⟨rfl, by decide⟩ rfl) (fo_get (S := S9) rfl) ?_
            refine r_callV_VW rfl rfl (en_get (b := false) (k := 22) (L := 9) ⟨rfl, by decide⟩ rfl) (Nat.le_of_ble_eq_true rfl) (rf_X5_addDrop (by omega) S9) (fun q10 => ?_)
            refine r_pure rfl rfl ?_
            exact r_retI rfl rfl
          · refine r_pure rfl rfl ?_
            exact r_retI rfl rfl
        · refine r_pure rfl rfl ?_
          exact r_retI rfl rfl
      · refine r_pure rfl rfl ?_
        exact r_retI rfl rfl
/-! X7_cancel -/
def s_X7_cancel (v1 : Int32) (S : HS) : Option (Int32 × HS) :=
  Option.bind (s_X7_isSo v1 (0 : Int32) S) fun q1 =>
  if q1 = (0 : Int32) then
    some ((0 : Int32), S)
  else
    Option.bind (s_X0_loaded 23 v1 S) fun q2 =>
    if q2 ≤ (0 : Int32) then
      Option.bind (s_X1_keep S) fun q3 =>
      Option.bind (wa q3 28 v1 (3 : Int32)) fun S4 =>
      some ((1 : Int32), S4)
    else
      some ((0 : Int32), S)
set_option maxRecDepth 100000 in
theorem rf_X7_cancel {d : Nat} (hd : 4 ≤ d) {O : HS} (v1 : Int32) (S : HS) : Lm (oIW false O) (s_X7_cancel v1 S) (CF d 84 [.ref 0, .int v1] (en false O S)) := by
  unfold s_X7_cancel
  obtain ⟨e, rfl⟩ : ∃ e, d = e + 1 := ⟨d - 1, by omega⟩
  refine rm_of (lv := [some (.ref 0), some (.int v1)]) (k_X7_cancel false) (by omega) rfl rfl (Nat.le_of_ble_eq_true rfl) ?_
  refine lm_le (n := 24) (by omega) ?_
  show Lm _ _ (run (CF e) _ _ _ _ _ _)
  refine r_pure rfl rfl ?_
  refine r_pure rfl rfl ?_
  refine r_pure rfl rfl ?_
  refine r_callV_I rfl rfl (en_get (b := false) (k := 0) (L := 11) ⟨rfl, by decide⟩ rfl) (Nat.le_of_ble_eq_true rfl) (rf_X7_isSo (by omega) v1 (0 : Int32) S) (fun q1 => ?_)
  refine r_if1 rfl rfl ?_ ?_
  · refine r_pure rfl rfl ?_
    exact r_retZ rfl (Or.inl rfl) rfl
  · refine r_pure rfl rfl ?_
    refine r_get rfl (en_get (b := false) (k := 0) (L := 11) ⟨rfl, by decide⟩ rfl) (fo_get (S := S) rfl) ?_
    refine r_get rfl (en_get (b := false) (k := 22) (L := 9) ⟨rfl, by decide⟩ rfl) (fo_get (S := S) rfl) ?_
    refine r_pure rfl rfl ?_
    refine r_callV_I rfl rfl (en_get (b := false) (k := 23) (L := 4) ⟨rfl, by decide⟩ rfl) (Nat.le_of_ble_eq_true rfl) (rf_X0_loaded (by omega) 23 mC23 v1 S) (fun q2 => ?_)
    refine r_if1 rfl rfl ?_ ?_
    · refine r_pure rfl rfl ?_
      refine r_get rfl (en_get (b := false) (k := 0) (L := 11) ⟨rfl, by decide⟩ rfl) (fo_get (S := S) rfl) ?_
      refine r_pure rfl rfl ?_
      refine r_get rfl (en_get (b := false) (k := 0) (L := 11) ⟨rfl, by decide⟩ rfl) (fo_get (S := S) rfl) ?_
      refine r_callV_VW rfl rfl (en_get (b := false) (k := 30) (L := 5) ⟨rfl, by decide⟩ rfl) (Nat.le_of_ble_eq_true rfl) (rf_X1_keep (by omega) S) (fun q3 => ?_)
      refine r_pure rfl rfl ?_
      refine r_get rfl (en_get (b := false) (k := 0) (L := 11) ⟨rfl, by decide⟩ rfl) (fo_get (S := q3) rfl) ?_
      refine r_get rfl (en_get (b := false) (k := 22) (L := 9) ⟨rfl, by decide⟩ rfl) (fo_get (S := q3) rfl) ?_
      refine r_pure rfl rfl ?_
      refine r_pure rfl rfl ?_
      refine r_iastI rfl ⟨rfl, by decide⟩ rfl (fun S4 => ?_)
      refine r_pure rfl rfl ?_
      exact r_retZ rfl (Or.inr rfl) rfl
    · refine r_pure rfl rfl ?_
      exact r_retZ rfl (Or.inl rfl) rfl
/-! X7_put -/
def s_X7_put (v1 : Int32) (v2 : Int32) (S : HS) : Option (Int32 × HS) :=
  Option.bind (tl (gr S 0 4)) fun t1 =>
  Option.bind (s_X6_hasCompartment t1 v1 S) fun q2 =>
  if q2 = (0 : Int32) then
    some ((-1 : Int32), S)
  else
    Option.bind (s_X7_isSo v2 (0 : Int32) S) fun q3 =>
    if q3 ≠ (0 : Int32) then
      Option.bind (ag (ga S 24) v1) fun a4 =>
      if a4 ≤ (0 : Int32) then
        Option.bind (tl (gr S 0 4)) fun t5 =>
        Option.bind (ag (ga S (t5 + 7)) v2) fun a6 =>
        Option.bind (tl (gr S 0 4)) fun t7 =>
        Option.bind (ag (ga S 26) v1) fun a8 =>
        Option.bind (s_X6_isBarred t7 a8 a6 S) fun q9 =>
        if q9 = (0 : Int32) then
          Option.bind (tl (gr S 0 4)) fun t10 =>
          Option.bind (s_X6_top t10 v1 S) fun q11 =>
          if q11 ≠ (0 : Int32) then
            Option.bind (s_X1_keep S) fun q12 =>
            Option.bind (tl (gr q12 0 4)) fun t13 =>
            Option.bind (ag (ga q12 (t13 + 8)) v2) fun a14 =>
            Option.bind (s_X0_loaded 23 v2 q12) fun q15 =>
            Option.bind (tl (gr q12 0 4)) fun t16 =>
            Option.bind (s_X0_lay 23 t16 v1 v2 a6 (mn q11 (a14 - q15)) q12) fun q17 =>
            some ((mn q11 (a14 - q15)), q17)
          else
            some ((-4 : Int32), S)
        else
          some ((-3 : Int32), S)
      else
        some ((-2 : Int32), S)
    else
      some ((-1 : Int32), S)
set_option maxRecDepth 100000 in
theorem rf_X7_put {d : Nat} (hd : 4 ≤ d) {O : HS} (v1 : Int32) (v2 : Int32) (S : HS) : Lm (oIW false O) (s_X7_put v1 v2 S) (CF d 85 [.ref 0, .int v1, .int v2] (en false O S)) := by
  unfold s_X7_put
  obtain ⟨e, rfl⟩ : ∃ e, d = e + 1 := ⟨d - 1, by omega⟩
  refine rm_of (lv := [some (.ref 0), some (.int v1), some (.int v2), none, none, none]) (k_X7_put false) (by omega) rfl rfl (Nat.le_of_ble_eq_true rfl) ?_
  refine lm_le (n := 72) (by omega) ?_
  show Lm _ _ (run (CF e) _ _ _ _ _ _)
  refine r_pure rfl rfl ?_
  refine r_getT rfl ⟨rfl, by decide⟩ rfl rfl (fun t1 ht1 => ?_)
  refine r_pure rfl rfl ?_
  refine r_callV_I rfl rfl (en_get (b := false) (k := t1) (L := 10) (zT0 ht1) (lT0 ht1)) (Nat.le_of_ble_eq_true rfl) (rf_X6_hasCompartment (by omega) t1 ht1 v1 S) (fun q2 => ?_)
  refine r_if1 rfl rfl ?_ ?_
  · refine r_pure rfl rfl ?_
    exact r_retI rfl rfl
  · refine r_pure rfl rfl ?_
    refine r_pure rfl rfl ?_
    refine r_pure rfl rfl ?_
    refine r_callV_I rfl rfl (en_get (b := false) (k := 0) (L := 11) ⟨rfl, by decide⟩ rfl) (Nat.le_of_ble_eq_true rfl) (rf_X7_isSo (by omega) v2 (0 : Int32) S) (fun q3 => ?_)
    refine r_if1 rfl rfl ?_ ?_
    · refine r_pure rfl rfl ?_
      refine r_get rfl (en_get (b := false) (k := 0) (L := 11) ⟨rfl, by decide⟩ rfl) (fo_get (S := S) rfl) ?_
      refine r_get rfl (en_get (b := false) (k := 22) (L := 9) ⟨rfl, by decide⟩ rfl) (fo_get (S := S) rfl) ?_
      refine r_get rfl (en_get (b := false) (k := 23) (L := 4) ⟨rfl, by decide⟩ rfl) (fo_get (S := S) rfl) ?_
      refine r_pure rfl rfl ?_
      refine r_iald rfl (en_get (b := false) (k := 24) (L := 0) ⟨rfl, by decide⟩ rfl) (fun a4 => ?_)
      refine r_if1 rfl rfl ?_ ?_
      · refine r_pure rfl rfl ?_
        refine r_getT rfl ⟨rfl, by decide⟩ rfl rfl (fun t5 ht5 => ?_)
        refine r_get rfl (en_get (b := false) (k := t5) (L := 10) (zT0 ht5) (lT0 ht5)) (fo_get (S := S) rfl) ?_
        refine r_pure rfl rfl ?_
        refine r_iald rfl (en_get (b := false) (k := (t5 + 7)) (L := 0) (zT7 ht5) (lT7 ht5)) (fun a6 => ?_)
        refine r_pure (lv' := [some (.ref 0), some (.int v1), some (.int v2), some (.int a6), none, none]) rfl rfl ?_
        refine r_pure rfl rfl ?_
        refine r_getT rfl ⟨rfl, by decide⟩ rfl rfl (fun t7 ht7 => ?_)
        refine r_pure rfl rfl ?_
        refine r_get rfl (en_get (b := false) (k := 0) (L := 11) ⟨rfl, by decide⟩ rfl) (fo_get (S := S) rfl) ?_
        refine r_get rfl (en_get (b := false) (k := 22) (L := 9) ⟨rfl, by decide⟩ rfl) (fo_get (S := S) rfl) ?_
        refine r_get rfl (en_get (b := false) (k := 23) (L := 4) ⟨rfl, by decide⟩ rfl) (fo_get (S := S) rfl) ?_
        refine r_pure rfl rfl ?_
        refine r_iald rfl (en_get (b := false) (k := 26) (L := 0) ⟨rfl, by decide⟩ rfl) (fun a8 => ?_)
        refine r_pure rfl rfl ?_
        refine r_callV_I rfl rfl (en_get (b := false) (k := t7) (L := 10) (zT0 ht7) (lT0 ht7)) (Nat.le_of_ble_eq_true rfl) (rf_X6_isBarred (by omega) t7 ht7 a8 a6 S) (fun q9 => ?_)
        refine r_if1 rfl rfl ?_ ?_
        · refine r_pure rfl rfl ?_
          refine r_getT rfl ⟨rfl, by decide⟩ rfl rfl (fun t10 ht10 => ?_)
          refine r_pure rfl rfl ?_
          refine r_callV_I rfl rfl (en_get (b := false) (k := t10) (L := 10) (zT0 ht10) (lT0 ht10)) (Nat.le_of_ble_eq_true rfl) (rf_X6_top (by omega) t10 ht10 v1 S) (fun q11 => ?_)
          refine r_pure (lv' := [some (.ref 0), some (.int v1), some (.int v2), some (.int a6), some (.int q11), none]) rfl rfl ?_
          refine r_pure rfl rfl ?_
          refine r_if1 rfl rfl ?_ ?_
          · refine r_pure rfl rfl ?_
            refine r_get rfl (en_get (b := false) (k := 0) (L := 11) ⟨rfl, by decide⟩ rfl) (fo_get (S := S) rfl) ?_
            refine r_pure rfl rfl ?_
            refine r_get rfl (en_get (b := false) (k := 0) (L := 11) ⟨rfl, by decide⟩ rfl) (fo_get (S := S) rfl) ?_
            refine r_callV_VW rfl rfl (en_get (b := false) (k := 30) (L := 5) ⟨rfl, by decide⟩ rfl) (Nat.le_of_ble_eq_true rfl) (rf_X1_keep (by omega) S) (fun q12 => ?_)
            refine r_pure rfl rfl ?_
            refine r_pure rfl rfl ?_
            refine r_getT rfl ⟨rfl, by decide⟩ rfl rfl (fun t13 ht13 => ?_)
            refine r_get rfl (en_get (b := false) (k := t13) (L := 10) (zT0 ht13) (lT0 ht13)) (fo_get (S := q12) rfl) ?_
            refine r_pure rfl rfl ?_
            refine r_iald rfl (en_get (b := false) (k := (t13 + 8)) (L := 0) (zT8 ht13) (lT8 ht13)) (fun a14 => ?_)
            refine r_pure rfl rfl ?_
            refine r_get rfl (en_get (b := false) (k := 0) (L := 11) ⟨rfl, by decide⟩ rfl) (fo_get (S := q12) rfl) ?_
            refine r_get rfl (en_get (b := false) (k := 22) (L := 9) ⟨rfl, by decide⟩ rfl) (fo_get (S := q12) rfl) ?_
            refine r_pure rfl rfl ?_
            refine r_callV_I rfl rfl (en_get (b := false) (k := 23) (L := 4) ⟨rfl, by decide⟩ rfl) (Nat.le_of_ble_eq_true rfl) (rf_X0_loaded (by omega) 23 mC23 v2 q12) (fun q15 => ?_)
            refine r_pure rfl rfl ?_
            refine r_min rfl (Nat.le_of_ble_eq_true rfl) ?_
            refine r_pure (lv' := [some (.ref 0), some (.int v1), some (.int v2), some (.int a6), some (.int q11), some (.int (mn q11 (a14 - q15)))]) rfl rfl ?_
            refine r_pure rfl rfl ?_
            refine r_get rfl (en_get (b := false) (k := 0) (L := 11) ⟨rfl, by decide⟩ rfl) (fo_get (S := q12) rfl) ?_
            refine r_get rfl (en_get (b := false) (k := 22) (L := 9) ⟨rfl, by decide⟩ rfl) (fo_get (S := q12) rfl) ?_
            refine r_pure rfl rfl ?_
            refine r_getT rfl ⟨rfl, by decide⟩ rfl rfl (fun t16 ht16 => ?_)
            refine r_pure rfl rfl ?_
            refine r_pure rfl rfl ?_
            refine r_pure rfl rfl ?_
            refine r_pure rfl rfl ?_
            refine r_callV_VW rfl rfl (en_get (b := false) (k := 23) (L := 4) ⟨rfl, by decide⟩ rfl) (Nat.le_of_ble_eq_true rfl) (rf_X0_lay (by omega) 23 t16 mC23 ht16 v1 v2 a6 (mn q11 (a14 - q15)) q12) (fun q17 => ?_)
            refine r_pure rfl rfl ?_
            exact r_retI rfl rfl
          · refine r_pure rfl rfl ?_
            exact r_retI rfl rfl
        · refine r_pure rfl rfl ?_
          exact r_retI rfl rfl
      · refine r_pure rfl rfl ?_
        exact r_retI rfl rfl
    · refine r_pure rfl rfl ?_
      exact r_retI rfl rfl
/-! X7_load -/
def s_X7_load_L46 : Nat → Int32 → HS → Option (Int32 × HS)
  | 0, _, _ => none
  | K + 1, v1, S =>
    Option.bind (tl (gr S 0 4)) fun t4 =>
    if (gf S t4 1) ≤ v1 then
      some ((gf S 121 14), S)
    else
      Option.bind (ag (ga S 135) v1) fun a5 =>
      Option.bind (s_X5_hasDrop a5 S) fun q6 =>
      if q6 = (0 : Int32) then
        s_X7_load_L46 K (v1 + (1 : Int32)) S
      else
        Option.bind (tl (gr S 0 4)) fun t7 =>
        Option.bind (tl (gr S 0 4)) fun t8 =>
        Option.bind (ag (ga S (t8 + 7)) a5) fun a9 =>
        Option.bind (ag (ga S 136) v1) fun a10 =>
        Option.bind (s_X0_lay 23 t7 v1 a5 a9 a10 S) fun q11 =>
        s_X7_load_L46 K (v1 + (1 : Int32)) q11
def s_X7_load (S : HS) : Option (Int32 × HS) :=
  Option.bind (tl (gr S 0 4)) fun t1 =>
  Option.bind (s_X3_findsPlan t1 S) fun q2 =>
  if q2.1 ≠ (0 : Int32) then
    if (gf q2.2 121 14) ≠ (0 : Int32) then
      Option.bind (s_X1_keep q2.2) fun q3 =>
      s_X7_load_L46 40 (0 : Int32) q3
    else
      some ((-1 : Int32), q2.2)
  else
    some ((-2 : Int32), q2.2)
set_option maxRecDepth 100000 in
theorem rl_X7_load_L46 {e : Nat} (he : 15 ≤ e) {O : HS} {n : Nat} : ∀ (K : Nat) (v1 : Int32) (S : HS) (j2 : Option Value), Lm (oIW false O) (s_X7_load_L46 K v1 S) (run (CF e) (k_X7_load false) (n + (36 * K + 0)) 46 [some (.ref 0), some (.int v1), j2] [] (en false O S)) := by
  intro K
  induction K with
  | zero =>
    intros
    exact lm_none
  | succ K ih =>
    intro v1 S j2
    rw [show n + (36 * (K + 1) + 0) = n + (36 * K + 0) + 36 by omega]
    rw [s_X7_load_L46]
    refine r_pure rfl rfl ?_
    refine r_pure rfl rfl ?_
    refine r_getT rfl ⟨rfl, by decide⟩ rfl rfl (fun t4 ht4 => ?_)
    refine r_get rfl (en_get (b := false) (k := t4) (L := 10) (zT0 ht4) (lT0 ht4)) (fo_get (S := S) rfl) ?_
    refine r_if2 rfl rfl ?_ ?_
    · refine r_pure rfl rfl ?_
      refine r_get rfl (en_get (b := false) (k := 0) (L := 11) ⟨rfl, by decide⟩ rfl) (fo_get (S := S) rfl) ?_
      refine r_get rfl (en_get (b := false) (k := 121) (L := 7) ⟨rfl, by decide⟩ rfl) (fo_get (S := S) rfl) ?_
      exact r_retI rfl rfl
    · refine r_pure rfl rfl ?_
      refine r_get rfl (en_get (b := false) (k := 0) (L := 11) ⟨rfl, by decide⟩ rfl) (fo_get (S := S) rfl) ?_
      refine r_get rfl (en_get (b := false) (k := 121) (L := 7) ⟨rfl, by decide⟩ rfl) (fo_get (S := S) rfl) ?_
      refine r_pure rfl rfl ?_
      refine r_iald rfl (en_get (b := false) (k := 135) (L := 0) ⟨rfl, by decide⟩ rfl) (fun a5 => ?_)
      refine r_pure (lv' := [some (.ref 0), some (.int v1), some (.int a5)]) rfl rfl ?_
      refine r_pure rfl rfl ?_
      refine r_get rfl (en_get (b := false) (k := 0) (L := 11) ⟨rfl, by decide⟩ rfl) (fo_get (S := S) rfl) ?_
      refine r_pure rfl rfl ?_
      refine r_callV_I rfl rfl (en_get (b := false) (k := 22) (L := 9) ⟨rfl, by decide⟩ rfl) (Nat.le_of_ble_eq_true rfl) (rf_X5_hasDrop (by omega) a5 S) (fun q6 => ?_)
      refine r_if1 rfl rfl ?_ ?_
      · refine r_pure (lv' := [some (.ref 0), some (.int (v1 + (1 : Int32))), some (.int a5)]) rfl rfl ?_
        refine r_pure rfl rfl ?_
        exact lm_le (by omega) (ih (v1 + (1 : Int32)) S _)
      · refine r_pure rfl rfl ?_
        refine r_get rfl (en_get (b := false) (k := 0) (L := 11) ⟨rfl, by decide⟩ rfl) (fo_get (S := S) rfl) ?_
        refine r_get rfl (en_get (b := false) (k := 22) (L := 9) ⟨rfl, by decide⟩ rfl) (fo_get (S := S) rfl) ?_
        refine r_pure rfl rfl ?_
        refine r_getT rfl ⟨rfl, by decide⟩ rfl rfl (fun t7 ht7 => ?_)
        refine r_pure rfl rfl ?_
        refine r_pure rfl rfl ?_
        refine r_pure rfl rfl ?_
        refine r_getT rfl ⟨rfl, by decide⟩ rfl rfl (fun t8 ht8 => ?_)
        refine r_get rfl (en_get (b := false) (k := t8) (L := 10) (zT0 ht8) (lT0 ht8)) (fo_get (S := S) rfl) ?_
        refine r_pure rfl rfl ?_
        refine r_iald rfl (en_get (b := false) (k := (t8 + 7)) (L := 0) (zT7 ht8) (lT7 ht8)) (fun a9 => ?_)
        refine r_pure rfl rfl ?_
        refine r_get rfl (en_get (b := false) (k := 0) (L := 11) ⟨rfl, by decide⟩ rfl) (fo_get (S := S) rfl) ?_
        refine r_get rfl (en_get (b := false) (k := 121) (L := 7) ⟨rfl, by decide⟩ rfl) (fo_get (S := S) rfl) ?_
        refine r_pure rfl rfl ?_
        refine r_iald rfl (en_get (b := false) (k := 136) (L := 0) ⟨rfl, by decide⟩ rfl) (fun a10 => ?_)
        refine r_callV_VW rfl rfl (en_get (b := false) (k := 23) (L := 4) ⟨rfl, by decide⟩ rfl) (Nat.le_of_ble_eq_true rfl) (rf_X0_lay (by omega) 23 t7 mC23 ht7 v1 a5 a9 a10 S) (fun q11 => ?_)
        refine r_pure (lv' := [some (.ref 0), some (.int (v1 + (1 : Int32))), some (.int a5)]) rfl rfl ?_
        refine r_pure rfl rfl ?_
        exact lm_le (by omega) (ih (v1 + (1 : Int32)) q11 _)
set_option maxRecDepth 100000 in
theorem rf_X7_load {d : Nat} (hd : 16 ≤ d) {O : HS} (S : HS) : Lm (oIW false O) (s_X7_load S) (CF d 86 [.ref 0] (en false O S)) := by
  unfold s_X7_load
  obtain ⟨e, rfl⟩ : ∃ e, d = e + 1 := ⟨d - 1, by omega⟩
  refine rm_of (lv := [some (.ref 0), none, none]) (k_X7_load false) (by omega) rfl rfl (Nat.le_of_ble_eq_true rfl) ?_
  refine lm_le (n := 1459) (by omega) ?_
  show Lm _ _ (run (CF e) _ _ _ _ _ _)
  refine r_pure rfl rfl ?_
  refine r_get rfl (en_get (b := false) (k := 0) (L := 11) ⟨rfl, by decide⟩ rfl) (fo_get (S := S) rfl) ?_
  refine r_pure rfl rfl ?_
  refine r_getT rfl ⟨rfl, by decide⟩ rfl rfl (fun t1 ht1 => ?_)
  refine r_pure rfl rfl ?_
  refine r_get rfl (en_get (b := false) (k := 0) (L := 11) ⟨rfl, by decide⟩ rfl) (fo_get (S := S) rfl) ?_
  refine r_callV_IW rfl rfl (en_get (b := false) (k := 121) (L := 7) ⟨rfl, by decide⟩ rfl) (Nat.le_of_ble_eq_true rfl) (rf_X3_findsPlan (by omega) t1 ht1 S) (fun q2 => ?_)
  refine r_if1 rfl rfl ?_ ?_
  · refine r_pure rfl rfl ?_
    refine r_get rfl (en_get (b := false) (k := 0) (L := 11) ⟨rfl, by decide⟩ rfl) (fo_get (S := q2.2) rfl) ?_
    refine r_get rfl (en_get (b := false) (k := 121) (L := 7) ⟨rfl, by decide⟩ rfl) (fo_get (S := q2.2) rfl) ?_
    refine r_if1 rfl rfl ?_ ?_
    · refine r_pure rfl rfl ?_
      refine r_get rfl (en_get (b := false) (k := 0) (L := 11) ⟨rfl, by decide⟩ rfl) (fo_get (S := q2.2) rfl) ?_
      refine r_pure rfl rfl ?_
      refine r_get rfl (en_get (b := false) (k := 0) (L := 11) ⟨rfl, by decide⟩ rfl) (fo_get (S := q2.2) rfl) ?_
      refine r_callV_VW rfl rfl (en_get (b := false) (k := 30) (L := 5) ⟨rfl, by decide⟩ rfl) (Nat.le_of_ble_eq_true rfl) (rf_X1_keep (by omega) q2.2) (fun q3 => ?_)
      refine r_pure rfl rfl ?_
      refine r_pure (lv' := [some (.ref 0), some (.int (0 : Int32)), none]) rfl rfl ?_
      exact lm_le (by omega) (rl_X7_load_L46 (n := 0) (by omega) 40 (0 : Int32) q3 _)
    · refine r_pure rfl rfl ?_
      exact r_retI rfl rfl
  · refine r_pure rfl rfl ?_
    exact r_retI rfl rfl
/-! X0_takeOutAll -/
def s_X0_takeOutAll_L2 (b : Nat) (v1 : Int32) : Nat → Int32 → HS → Option HS
  | 0, _, _ => none
  | K + 1, v2, S =>
    if (5 : Int32) ≤ v2 then
      some S
    else
      Option.bind (s_X0_isIn v1 v2) fun q1 =>
      if q1 = (0 : Int32) then
        s_X0_takeOutAll_L2 b v1 K (v2 + (1 : Int32)) S
      else
        Option.bind (s_X0_takeOut b v2 S) fun q2 =>
        s_X0_takeOutAll_L2 b v1 K (v2 + (1 : Int32)) q2
def s_X0_takeOutAll (b : Nat) (v1 : Int32) (S : HS) : Option HS :=
  s_X0_takeOutAll_L2 b v1 40 (0 : Int32) S
set_option maxRecDepth 100000 in
theorem rl_X0_takeOutAll_L2 {e : Nat} (he : 1 ≤ e) {O : HS} (b : Nat) (hb : isC b) (v1 : Int32) {n : Nat} : ∀ (K : Nat) (v2 : Int32) (S : HS), Lm (oV false O) (s_X0_takeOutAll_L2 b v1 K v2 S) (run (CF e) (k_X0_takeOutAll false) (n + (12 * K + 0)) 2 [some (.ref b), some (.int v1), some (.int v2)] [] (en false O S)) := by
  intro K
  induction K with
  | zero =>
    intros
    exact lm_none
  | succ K ih =>
    intro v2 S
    rw [show n + (12 * (K + 1) + 0) = n + (12 * K + 0) + 12 by omega]
    rw [s_X0_takeOutAll_L2]
    refine r_pure rfl rfl ?_
    refine r_pure rfl rfl ?_
    refine r_if2 rfl rfl ?_ ?_
    · exact r_retV rfl rfl
    · refine r_pure rfl rfl ?_
      refine r_pure rfl rfl ?_
      refine r_callS_I rfl (Nat.le_of_ble_eq_true rfl) (Nat.le_of_ble_eq_true rfl) (rf_X0_isIn (by omega) v1 v2) (fun q1 => ?_)
      refine r_if1 rfl rfl ?_ ?_
      · refine r_pure (lv' := [some (.ref b), some (.int v1), some (.int (v2 + (1 : Int32)))]) rfl rfl ?_
        refine r_pure rfl rfl ?_
        exact lm_le (by omega) (ih (v2 + (1 : Int32)) S)
      · refine r_pure rfl rfl ?_
        refine r_pure rfl rfl ?_
        refine r_callV_VW rfl rfl (en_get (b := false) (k := b) (L := 4) (zC0 hb) (lC0 hb)) (Nat.le_of_ble_eq_true rfl) (rf_X0_takeOut (by omega) b hb v2 S) (fun q2 => ?_)
        refine r_pure (lv' := [some (.ref b), some (.int v1), some (.int (v2 + (1 : Int32)))]) rfl rfl ?_
        refine r_pure rfl rfl ?_
        exact lm_le (by omega) (ih (v2 + (1 : Int32)) q2)
set_option maxRecDepth 100000 in
theorem rf_X0_takeOutAll {d : Nat} (hd : 2 ≤ d) {O : HS} (b : Nat) (hb : isC b) (v1 : Int32) (S : HS) : Lm (oV false O) (s_X0_takeOutAll b v1 S) (CF d 5 [.ref b, .int v1] (en false O S)) := by
  unfold s_X0_takeOutAll
  obtain ⟨e, rfl⟩ : ∃ e, d = e + 1 := ⟨d - 1, by omega⟩
  refine rm_of (lv := [some (.ref b), some (.int v1), none]) (k_X0_takeOutAll false) (by omega) rfl rfl (Nat.le_of_ble_eq_true rfl) ?_
  refine lm_le (n := 482) (by omega) ?_
  show Lm _ _ (run (CF e) _ _ _ _ _ _)
  refine r_pure rfl rfl ?_
  refine r_pure (lv' := [some (.ref b), some (.int v1), some (.int (0 : Int32))]) rfl rfl ?_
  exact lm_le (by omega) (rl_X0_takeOutAll_L2 (n := 0) (by omega) b hb v1 40 (0 : Int32) S)
/-! X7_unload -/
def s_X7_unload (v1 : Int32) (v2 : Int32) (S : HS) : Option (Int32 × HS) :=
  Option.bind (s_X7_isSo v1 (1 : Int32) S) fun q1 =>
  if q1 = (0 : Int32) then
    some ((-1 : Int32), S)
  else
    if v2 < (0 : Int32) then
      some ((-1 : Int32), S)
    else
      Option.bind (s_X0_loaded 23 v1 S) fun q2 =>
      if v2 ≤ q2 then
        Option.bind (s_X0_partsOf 23 v1 S) fun q3 =>
        Option.bind (tl (gr S 0 4)) fun t4 =>
        Option.bind (s_X0_standing 23 t4 q3 S) fun q5 =>
        if q5 = (0 : Int32) then
          Option.bind (s_X1_keep S) fun q6 =>
          Option.bind (s_X0_takeOutAll 23 q3 q6) fun q7 =>
          Option.bind (wa q7 28 v1 (2 : Int32)) fun S8 =>
          Option.bind (wa S8 29 v1 v2) fun S9 =>
          Option.bind (tl (gr S9 0 4)) fun t10 =>
          Option.bind (s_X5_shortOf t10 v1 S9) fun q11 =>
          some (q11, S9)
        else
          some ((-2 : Int32), S)
      else
        some ((-1 : Int32), S)
set_option maxRecDepth 100000 in
theorem rf_X7_unload {d : Nat} (hd : 4 ≤ d) {O : HS} (v1 : Int32) (v2 : Int32) (S : HS) : Lm (oIW false O) (s_X7_unload v1 v2 S) (CF d 87 [.ref 0, .int v1, .int v2] (en false O S)) := by
  unfold s_X7_unload
  obtain ⟨e, rfl⟩ : ∃ e, d = e + 1 := ⟨d - 1, by omega⟩
  refine rm_of (lv := [some (.ref 0), some (.int v1), some (.int v2), none]) (k_X7_unload false) (by omega) rfl rfl (Nat.le_of_ble_eq_true rfl) ?_
  refine lm_le (n := 57) (by omega) ?_
  show Lm _ _ (run (CF e) _ _ _ _ _ _)
  refine r_pure rfl rfl ?_
  refine r_pure rfl rfl ?_
  refine r_pure rfl rfl ?_
  refine r_callV_I rfl rfl (en_get (b := false) (k := 0) (L := 11) ⟨rfl, by decide⟩ rfl) (Nat.le_of_ble_eq_true rfl) (rf_X7_isSo (by omega) v1 (1 : Int32) S) (fun q1 => ?_)
  refine r_if1 rfl rfl ?_ ?_
  · refine r_pure rfl rfl ?_
    exact r_retI rfl rfl
  · refine r_pure rfl rfl ?_
    refine r_if1 rfl rfl ?_ ?_
    · refine r_pure rfl rfl ?_
      exact r_retI rfl rfl
    · refine r_pure rfl rfl ?_
      refine r_pure rfl rfl ?_
      refine r_get rfl (en_get (b := false) (k := 0) (L := 11) ⟨rfl, by decide⟩ rfl) (fo_get (S := S) rfl) ?_
      refine r_get rfl (en_get (b := false) (k := 22) (L := 9) ⟨rfl, by decide⟩ rfl) (fo_get (S := S) rfl) ?_
      refine r_pure rfl rfl ?_
      refine r_callV_I rfl rfl (en_get (b := false) (k := 23) (L := 4) ⟨rfl, by decide⟩ rfl) (Nat.le_of_ble_eq_true rfl) (rf_X0_loaded (by omega) 23 mC23 v1 S) (fun q2 => ?_)
      refine r_if2 rfl rfl ?_ ?_
      · refine r_pure rfl rfl ?_
        refine r_get rfl (en_get (b := false) (k := 0) (L := 11) ⟨rfl, by decide⟩ rfl) (fo_get (S := S) rfl) ?_
        refine r_get rfl (en_get (b := false) (k := 22) (L := 9) ⟨rfl, by decide⟩ rfl) (fo_get (S := S) rfl) ?_
        refine r_pure rfl rfl ?_
        refine r_callV_I rfl rfl (en_get (b := false) (k := 23) (L := 4) ⟨rfl, by decide⟩ rfl) (Nat.le_of_ble_eq_true rfl) (rf_X0_partsOf (by omega) 23 mC23 v1 S) (fun q3 => ?_)
        refine r_pure (lv' := [some (.ref 0), some (.int v1), some (.int v2), some (.int q3)]) rfl rfl ?_
        refine r_pure rfl rfl ?_
        refine r_get rfl (en_get (b := false) (k := 0) (L := 11) ⟨rfl, by decide⟩ rfl) (fo_get (S := S) rfl) ?_
        refine r_get rfl (en_get (b := false) (k := 22) (L := 9) ⟨rfl, by decide⟩ rfl) (fo_get (S := S) rfl) ?_
        refine r_pure rfl rfl ?_
        refine r_getT rfl ⟨rfl, by decide⟩ rfl rfl (fun t4 ht4 => ?_)
        refine r_pure rfl rfl ?_
        refine r_callV_I rfl rfl (en_get (b := false) (k := 23) (L := 4) ⟨rfl, by decide⟩ rfl) (Nat.le_of_ble_eq_true rfl) (rf_X0_standing (by omega) 23 t4 mC23 ht4 q3 S) (fun q5 => ?_)
        refine r_if1 rfl rfl ?_ ?_
        · refine r_pure rfl rfl ?_
          refine r_get rfl (en_get (b := false) (k := 0) (L := 11) ⟨rfl, by decide⟩ rfl) (fo_get (S := S) rfl) ?_
          refine r_pure rfl rfl ?_
          refine r_get rfl (en_get (b := false) (k := 0) (L := 11) ⟨rfl, by decide⟩ rfl) (fo_get (S := S) rfl) ?_
          refine r_callV_VW rfl rfl (en_get (b := false) (k := 30) (L := 5) ⟨rfl, by decide⟩ rfl) (Nat.le_of_ble_eq_true rfl) (rf_X1_keep (by omega) S) (fun q6 => ?_)
          refine r_pure rfl rfl ?_
          refine r_get rfl (en_get (b := false) (k := 0) (L := 11) ⟨rfl, by decide⟩ rfl) (fo_get (S := q6) rfl) ?_
          refine r_get rfl (en_get (b := false) (k := 22) (L := 9) ⟨rfl, by decide⟩ rfl) (fo_get (S := q6) rfl) ?_
          refine r_pure rfl rfl ?_
          refine r_callV_VW rfl rfl (en_get (b := false) (k := 23) (L := 4) ⟨rfl, by decide⟩ rfl) (Nat.le_of_ble_eq_true rfl) (rf_X0_takeOutAll (by omega) 23 mC23 q3 q6) (fun q7 => ?_)
          refine r_pure rfl rfl ?_
          refine r_get rfl (en_get (b := false) (k := 0) (L := 11) ⟨rfl, by decide⟩ rfl) (fo_get (S := q7) rfl) ?_
          refine r_get rfl (en_get (b := false) (k := 22) (L := 9) ⟨rfl, by decide⟩ rfl) (fo_get (S := q7) rfl) ?_
          refine r_pure rfl rfl ?_
          refine r_pure rfl rfl ?_
          refine r_iastI rfl ⟨rfl, by decide⟩ rfl (fun S8 => ?_)
          refine r_pure rfl rfl ?_
          refine r_get rfl (en_get (b := false) (k := 0) (L := 11) ⟨rfl, by decide⟩ rfl) (fo_get (S := S8) rfl) ?_
          refine r_get rfl (en_get (b := false) (k := 22) (L := 9) ⟨rfl, by decide⟩ rfl) (fo_get (S := S8) rfl) ?_
          refine r_pure rfl rfl ?_
          refine r_pure rfl rfl ?_
          refine r_iastI rfl ⟨rfl, by decide⟩ rfl (fun S9 => ?_)
          refine r_pure rfl rfl ?_
          refine r_get rfl (en_get (b := false) (k := 0) (L := 11) ⟨rfl, by decide⟩ rfl) (fo_get (S := S9) rfl) ?_
          refine r_pure rfl rfl ?_
          refine r_getT rfl ⟨rfl, by decide⟩ rfl rfl (fun t10 ht10 => ?_)
          refine r_pure rfl rfl ?_
          refine r_callV_I rfl rfl (en_get (b := false) (k := 22) (L := 9) ⟨rfl, by decide⟩ rfl) (Nat.le_of_ble_eq_true rfl) (rf_X5_shortOf (by omega) t10 ht10 v1 S9) (fun q11 => ?_)
          exact r_retI rfl rfl
        · refine r_pure rfl rfl ?_
          exact r_retI rfl rfl
      · refine r_pure rfl rfl ?_
        exact r_retI rfl rfl
