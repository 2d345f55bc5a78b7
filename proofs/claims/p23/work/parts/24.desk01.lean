/-! X4_sortOfWord -/
def s_X4_sortOfWord (S : HS) : Option Int32 :=
  Option.bind (s_X4_isWord 1 S) fun q1 =>
  if q1 = (0 : Int32) then
    Option.bind (s_X4_isWord 2 S) fun q2 =>
    if q2 = (0 : Int32) then
      Option.bind (s_X4_isWord 3 S) fun q3 =>
      if q3 = (0 : Int32) then
        Option.bind (s_X4_isWord 4 S) fun q4 =>
        if q4 = (0 : Int32) then
          Option.bind (s_X4_isWord 5 S) fun q5 =>
          if q5 = (0 : Int32) then
            some (-1 : Int32)
          else
            some (4 : Int32)
        else
          some (3 : Int32)
      else
        some (2 : Int32)
    else
      some (1 : Int32)
  else
    some (0 : Int32)
set_option maxRecDepth 100000 in
theorem rf_X4_sortOfWord {d : Nat} (hd : 7 ≤ d) {O : HS} (S : HS) : Lm (oI (en false O S)) (s_X4_sortOfWord S) (CF d 41 [.ref 2] (en false O S)) := by
  unfold s_X4_sortOfWord
  obtain ⟨e, rfl⟩ : ∃ e, d = e + 1 := ⟨d - 1, by omega⟩
  refine rm_of (lv := [some (.ref 2)]) (k_X4_sortOfWord false) (by omega) rfl rfl (Nat.le_of_ble_eq_true rfl) ?_
  refine lm_le (n := 23) (by omega) ?_
  show Lm _ _ (run (CF e) _ _ _ _ _ _)
  refine r_pure rfl rfl ?_
  refine r_sp rfl rfl ?_
  refine r_callV_I rfl rfl (en_get (b := false) (k := 2) (L := 8) ⟨rfl, by decide⟩ rfl) (Nat.le_of_ble_eq_true rfl) (rf_X4_isWord (by omega) 1 (by decide) S) (fun q1 => ?_)
  refine r_if1 rfl rfl ?_ ?_
  · refine r_pure rfl rfl ?_
    refine r_sp rfl rfl ?_
    refine r_callV_I rfl rfl (en_get (b := false) (k := 2) (L := 8) ⟨rfl, by decide⟩ rfl) (Nat.le_of_ble_eq_true rfl) (rf_X4_isWord (by omega) 2 (by decide) S) (fun q2 => ?_)
    refine r_if1 rfl rfl ?_ ?_
    · refine r_pure rfl rfl ?_
      refine r_sp rfl rfl ?_
      refine r_callV_I rfl rfl (en_get (b := false) (k := 2) (L := 8) ⟨rfl, by decide⟩ rfl) (Nat.le_of_ble_eq_true rfl) (rf_X4_isWord (by omega) 3 (by decide) S) (fun q3 => ?_)
      refine r_if1 rfl rfl ?_ ?_
      · refine r_pure rfl rfl ?_
        refine r_sp rfl rfl ?_
        refine r_callV_I rfl rfl (en_get (b := false) (k := 2) (L := 8) ⟨rfl, by decide⟩ rfl) (Nat.le_of_ble_eq_true rfl) (rf_X4_isWord (by omega) 4 (by decide) S) (fun q4 => ?_)
        refine r_if1 rfl rfl ?_ ?_
        · refine r_pure rfl rfl ?_
          refine r_sp rfl rfl ?_
          refine r_callV_I rfl rfl (en_get (b := false) (k := 2) (L := 8) ⟨rfl, by decide⟩ rfl) (Nat.le_of_ble_eq_true rfl) (rf_X4_isWord (by omega) 5 (by decide) S) (fun q5 => ?_)
          refine r_if1 rfl rfl ?_ ?_
          · refine r_pure rfl rfl ?_
            exact r_retI rfl rfl
          · refine r_pure rfl rfl ?_
            refine r_pure rfl rfl ?_
            exact r_retI rfl rfl
        · refine r_pure rfl rfl ?_
          exact r_retI rfl rfl
      · refine r_pure rfl rfl ?_
        exact r_retI rfl rfl
    · refine r_pure rfl rfl ?_
      exact r_retI rfl rfl
  · refine r_pure rfl rfl ?_
    exact r_retI rfl rfl
/-! X4_readCompartment -/
def s_X4_readCompartment_J93 (v1 : Int32) (S : HS) : Option (Int32 × HS) :=
  Option.bind (tl (gr S 2 7)) fun t11 =>
  Option.bind (tl (gr S 2 7)) fun t12 =>
  if v1 = (0 : Int32) then
    Option.bind (wa S (t11 + 4) (gf S t12 1) (0 : Int32)) fun S13 =>
    Option.bind (tl (gr S13 2 7)) fun t14 =>
    Option.bind (pf S13 t14 1 ((gf S13 t14 1) + (1 : Int32))) fun S15 =>
    some ((1 : Int32), S15)
  else
    Option.bind (wa S (t11 + 4) (gf S t12 1) (1 : Int32)) fun S16 =>
    Option.bind (tl (gr S16 2 7)) fun t17 =>
    Option.bind (pf S16 t17 1 ((gf S16 t17 1) + (1 : Int32))) fun S18 =>
    some ((1 : Int32), S18)
def s_X4_readCompartment (S : HS) : Option (Int32 × HS) :=
  Option.bind (s_X4_readNumber (1 : Int32) (999 : Int32) S) fun q1 =>
  if q1.1 ≠ (0 : Int32) then
    Option.bind (tl (gr q1.2 2 7)) fun t2 =>
    Option.bind (tl (gr q1.2 2 7)) fun t3 =>
    Option.bind (wa q1.2 (t2 + 2) (gf q1.2 t3 1) (gf q1.2 2 6)) fun S4 =>
    Option.bind (s_X4_readNumber (0 : Int32) (99 : Int32) S4) fun q5 =>
    if q5.1 ≠ (0 : Int32) then
      Option.bind (tl (gr q5.2 2 7)) fun t6 =>
      Option.bind (tl (gr q5.2 2 7)) fun t7 =>
      Option.bind (wa q5.2 (t6 + 3) (gf q5.2 t7 1) (gf q5.2 2 6)) fun S8 =>
      Option.bind (s_X4_advance S8) fun q9 =>
      Option.bind (s_X4_isWord 6 q9) fun q10 =>
      if q10 ≠ (0 : Int32) then
        s_X4_readCompartment_J93 q10 q9
      else
        Option.bind (s_X4_isWord 7 q9) fun q19 =>
        if q19 ≠ (0 : Int32) then
          s_X4_readCompartment_J93 q10 q9
        else
          Option.bind (s_X4_refuse (1 : Int32) q9) fun q20 =>
          Option.bind (gz q20.1) fun _ =>
          some (q20.1, q20.2)
    else
      some ((0 : Int32), q5.2)
  else
    some ((0 : Int32), q1.2)
set_option maxRecDepth 100000 in
theorem rj_X4_readCompartment_J93 {e : Nat} (he : 6 ≤ e) {O : HS} (v1 : Int32) {n : Nat} (S : HS) : Lm (oIW false O) (s_X4_readCompartment_J93 v1 S) (run (CF e) (k_X4_readCompartment false) (n + 20) 93 [some (.ref 2), some (.int v1)] [] (en false O S)) := by
  unfold s_X4_readCompartment_J93
  refine r_pure rfl rfl ?_
  refine r_getT rfl ⟨rfl, by decide⟩ rfl rfl (fun t11 ht11 => ?_)
  refine r_get rfl (en_get (b := false) (k := t11) (L := 10) (zT0 ht11) (lT0 ht11)) (fo_get (S := S) rfl) ?_
  refine r_pure rfl rfl ?_
  refine r_getT rfl ⟨rfl, by decide⟩ rfl rfl (fun t12 ht12 => ?_)
  refine r_get rfl (en_get (b := false) (k := t12) (L := 10) (zT0 ht12) (lT0 ht12)) (fo_get (S := S) rfl) ?_
  refine r_pure rfl rfl ?_
  refine r_if1 rfl rfl ?_ ?_
  · refine r_pure rfl rfl ?_
    refine r_iastI rfl (zT4 ht11) (lT4 ht11) (fun S13 => ?_)
    refine r_pure rfl rfl ?_
    refine r_getT rfl ⟨rfl, by decide⟩ rfl rfl (fun t14 ht14 => ?_)
    refine r_pure rfl rfl ?_
    refine r_get rfl (en_get (b := false) (k := t14) (L := 10) (zT0 ht14) (lT0 ht14)) (fo_get (S := S13) rfl) ?_
    refine r_pure rfl rfl ?_
    refine r_pure rfl rfl ?_
    refine r_putI rfl (zT0 ht14) (lT0 ht14) rfl rfl (fun S15 => ?_)
    refine r_pure rfl rfl ?_
    exact r_retZ rfl (Or.inr rfl) rfl
  · refine r_pure rfl rfl ?_
    refine r_pure rfl rfl ?_
    refine r_iastI rfl (zT4 ht11) (lT4 ht11) (fun S16 => ?_)
    refine r_pure rfl rfl ?_
    refine r_getT rfl ⟨rfl, by decide⟩ rfl rfl (fun t17 ht17 => ?_)
    refine r_pure rfl rfl ?_
    refine r_get rfl (en_get (b := false) (k := t17) (L := 10) (zT0 ht17) (lT0 ht17)) (fo_get (S := S16) rfl) ?_
    refine r_pure rfl rfl ?_
    refine r_pure rfl rfl ?_
    refine r_putI rfl (zT0 ht17) (lT0 ht17) rfl rfl (fun S18 => ?_)
    refine r_pure rfl rfl ?_
    exact r_retZ rfl (Or.inr rfl) rfl
set_option maxRecDepth 100000 in
theorem rf_X4_readCompartment {d : Nat} (hd : 7 ≤ d) {O : HS} (S : HS) : Lm (oIW false O) (s_X4_readCompartment S) (CF d 42 [.ref 2] (en false O S)) := by
  unfold s_X4_readCompartment
  obtain ⟨e, rfl⟩ : ∃ e, d = e + 1 := ⟨d - 1, by omega⟩
  refine rm_of (lv := [some (.ref 2), none]) (k_X4_readCompartment false) (by omega) rfl rfl (Nat.le_of_ble_eq_true rfl) ?_
  refine lm_le (n := 60) (by omega) ?_
  show Lm _ _ (run (CF e) _ _ _ _ _ _)
  refine r_pure rfl rfl ?_
  refine r_pure rfl rfl ?_
  refine r_pure rfl rfl ?_
  refine r_callV_IW rfl rfl (en_get (b := false) (k := 2) (L := 8) ⟨rfl, by decide⟩ rfl) (Nat.le_of_ble_eq_true rfl) (rf_X4_readNumber (by omega) (1 : Int32) (999 : Int32) S) (fun q1 => ?_)
  refine r_if1 rfl rfl ?_ ?_
  · refine r_pure rfl rfl ?_
    refine r_getT rfl ⟨rfl, by decide⟩ rfl rfl (fun t2 ht2 => ?_)
    refine r_get rfl (en_get (b := false) (k := t2) (L := 10) (zT0 ht2) (lT0 ht2)) (fo_get (S := q1.2) rfl) ?_
    refine r_pure rfl rfl ?_
    refine r_getT rfl ⟨rfl, by decide⟩ rfl rfl (fun t3 ht3 => ?_)
    refine r_get rfl (en_get (b := false) (k := t3) (L := 10) (zT0 ht3) (lT0 ht3)) (fo_get (S := q1.2) rfl) ?_
    refine r_pure rfl rfl ?_
    refine r_get rfl (en_get (b := false) (k := 2) (L := 8) ⟨rfl, by decide⟩ rfl) (fo_get (S := q1.2) rfl) ?_
    refine r_iastI rfl (zT2 ht2) (lT2 ht2) (fun S4 => ?_)
    refine r_pure rfl rfl ?_
    refine r_pure rfl rfl ?_
    refine r_pure rfl rfl ?_
    refine r_callV_IW rfl rfl (en_get (b := false) (k := 2) (L := 8) ⟨rfl, by decide⟩ rfl) (Nat.le_of_ble_eq_true rfl) (rf_X4_readNumber (by omega) (0 : Int32) (99 : Int32) S4) (fun q5 => ?_)
    refine r_if1 rfl rfl ?_ ?_
    · refine r_pure rfl rfl ?_
      refine r_getT rfl ⟨rfl, by decide⟩ rfl rfl (fun t6 ht6 => ?_)
      refine r_get rfl (en_get (b := false) (k := t6) (L := 10) (zT0 ht6) (lT0 ht6)) (fo_get (S := q5.2) rfl) ?_
      refine r_pure rfl rfl ?_
      refine r_getT rfl ⟨rfl, by decide⟩ rfl rfl (fun t7 ht7 => ?_)
      refine r_get rfl (en_get (b := false) (k := t7) (L := 10) (zT0 ht7) (lT0 ht7)) (fo_get (S := q5.2) rfl) ?_
      refine r_pure rfl rfl ?_
      refine r_get rfl (en_get (b := false) (k := 2) (L := 8) ⟨rfl, by decide⟩ rfl) (fo_get (S := q5.2) rfl) ?_
      refine r_iastI rfl (zT3 ht6) (lT3 ht6) (fun S8 => ?_)
      refine r_pure rfl rfl ?_
      refine r_callV_VW rfl rfl (en_get (b := false) (k := 2) (L := 8) ⟨rfl, by decide⟩ rfl) (Nat.le_of_ble_eq_true rfl) (rf_X4_advance (by omega) S8) (fun q9 => ?_)
      refine r_pure rfl rfl ?_
      refine r_sp rfl rfl ?_
      refine r_callV_I rfl rfl (en_get (b := false) (k := 2) (L := 8) ⟨rfl, by decide⟩ rfl) (Nat.le_of_ble_eq_true rfl) (rf_X4_isWord (by omega) 6 (by decide) q9) (fun q10 => ?_)
      refine r_pure (lv' := [some (.ref 2), some (.int q10)]) rfl rfl ?_
      refine r_pure rfl rfl ?_
      refine r_if1 rfl rfl ?_ ?_
      · exact lm_le (by omega) (rj_X4_readCompartment_J93 (n := 0) (by omega) q10 q9)
      · refine r_pure rfl rfl ?_
        refine r_sp rfl rfl ?_
        refine r_callV_I rfl rfl (en_get (b := false) (k := 2) (L := 8) ⟨rfl, by decide⟩ rfl) (Nat.le_of_ble_eq_true rfl) (rf_X4_isWord (by omega) 7 (by decide) q9) (fun q19 => ?_)
        refine r_if1 rfl rfl ?_ ?_
        · exact lm_le (by omega) (rj_X4_readCompartment_J93 (n := 0) (by omega) q10 q9)
        · refine r_pure rfl rfl ?_
          refine r_pure rfl rfl ?_
          refine r_callV_IW rfl rfl (en_get (b := false) (k := 2) (L := 8) ⟨rfl, by decide⟩ rfl) (Nat.le_of_ble_eq_true rfl) (rf_X4_refuse (by omega) (1 : Int32) q9) (fun q20 => ?_)
          exact r_retG rfl rfl rfl
    · refine r_pure rfl rfl ?_
      exact r_retZ rfl (Or.inl rfl) rfl
  · refine r_pure rfl rfl ?_
    exact r_retZ rfl (Or.inl rfl) rfl
/-! X4_readLiquid -/
def s_X4_readLiquid (S : HS) : Option (Int32 × HS) :=
  Option.bind (s_X4_readNumber (1 : Int32) (20 : Int32) S) fun q1 =>
  if q1.1 ≠ (0 : Int32) then
    Option.bind (tl (gr q1.2 2 7)) fun t2 =>
    Option.bind (tl (gr q1.2 2 7)) fun t3 =>
    Option.bind (wa q1.2 (t2 + 6) (gf q1.2 t3 6) (gf q1.2 2 6)) fun S4 =>
    Option.bind (tl (gr S4 2 7)) fun t5 =>
    Option.bind (pf S4 t5 6 ((gf S4 t5 6) + (1 : Int32))) fun S6 =>
    some ((1 : Int32), S6)
  else
    some ((0 : Int32), q1.2)
set_option maxRecDepth 100000 in
theorem rf_X4_readLiquid {d : Nat} (hd : 5 ≤ d) {O : HS} (S : HS) : Lm (oIW false O) (s_X4_readLiquid S) (CF d 43 [.ref 2] (en false O S)) := by
  unfold s_X4_readLiquid
  obtain ⟨e, rfl⟩ : ∃ e, d = e + 1 := ⟨d - 1, by omega⟩
  refine rm_of (lv := [some (.ref 2)]) (k_X4_readLiquid false) (by omega) rfl rfl (Nat.le_of_ble_eq_true rfl) ?_
  refine lm_le (n := 23) (by omega) ?_
  show Lm _ _ (run (CF e) _ _ _ _ _ _)
  refine r_pure rfl rfl ?_
  refine r_pure rfl rfl ?_
  refine r_pure rfl rfl ?_
  refine r_callV_IW rfl rfl (en_get (b := false) (k := 2) (L := 8) ⟨rfl, by decide⟩ rfl) (Nat.le_of_ble_eq_true rfl) (rf_X4_readNumber (by omega) (1 : Int32) (20 : Int32) S) (fun q1 => ?_)
  refine r_if1 rfl rfl ?_ ?_
  · refine r_pure rfl rfl ?_
    refine r_getT rfl ⟨rfl, by decide⟩ rfl rfl (fun t2 ht2 => ?_)
    refine r_get rfl (en_get (b := false) (k := t2) (L := 10) (zT0 ht2) (lT0 ht2)) (fo_get (S := q1.2) rfl) ?_
    refine r_pure rfl rfl ?_
    refine r_getT rfl ⟨rfl, by decide⟩ rfl rfl (fun t3 ht3 => ?_)
    refine r_get rfl (en_get (b := false) (k := t3) (L := 10) (zT0 ht3) (lT0 ht3)) (fo_get (S := q1.2) rfl) ?_
    refine r_pure rfl rfl ?_
    refine r_get rfl (en_get (b := false) (k := 2) (L := 8) ⟨rfl, by decide⟩ rfl) (fo_get (S := q1.2) rfl) ?_
    refine r_iastI rfl (zT6 ht2) (lT6 ht2) (fun S4 => ?_)
    refine r_pure rfl rfl ?_
    refine r_getT rfl ⟨rfl, by decide⟩ rfl rfl (fun t5 ht5 => ?_)
    refine r_pure rfl rfl ?_
    refine r_get rfl (en_get (b := false) (k := t5) (L := 10) (zT0 ht5) (lT0 ht5)) (fo_get (S := S4) rfl) ?_
    refine r_pure rfl rfl ?_
    refine r_pure rfl rfl ?_
    refine r_putI rfl (zT0 ht5) (lT0 ht5) rfl rfl (fun S6 => ?_)
    refine r_pure rfl rfl ?_
    exact r_retZ rfl (Or.inr rfl) rfl
  · refine r_pure rfl rfl ?_
    exact r_retZ rfl (Or.inl rfl) rfl
/-! X6_bar -/
def s_X6_bar (t : Nat) (v1 : Int32) (v2 : Int32) (S : HS) : Option HS :=
  Option.bind (pl S t ((gl S t) ||| ((1 : Int64) <<< (((v1 * (6 : Int32)) + v2).toInt64 &&& (63 : Int64))))) fun S1 =>
  some S1
set_option maxRecDepth 100000 in
theorem rf_X6_bar {d : Nat} (hd : 1 ≤ d) {O : HS} (t : Nat) (ht : isT t) (v1 : Int32) (v2 : Int32) (S : HS) : Lm (oV false O) (s_X6_bar t v1 v2 S) (CF d 66 [.ref t, .int v1, .int v2] (en false O S)) := by
  unfold s_X6_bar
  obtain ⟨e, rfl⟩ : ∃ e, d = e + 1 := ⟨d - 1, by omega⟩
  refine rm_of (lv := [some (.ref t), some (.int v1), some (.int v2)]) (k_X6_bar false) (by omega) rfl rfl (Nat.le_of_ble_eq_true rfl) ?_
  refine lm_le (n := 13) (by omega) ?_
  show Lm _ _ (run (CF e) _ _ _ _ _ _)
  refine r_pure rfl rfl ?_
  refine r_pure rfl rfl ?_
  refine r_get rfl (en_get (b := false) (k := t) (L := 10) (zT0 ht) (lT0 ht)) (fo_get (S := S) rfl) ?_
  refine r_pure rfl rfl ?_
  refine r_pure rfl rfl ?_
  refine r_pure rfl rfl ?_
  refine r_pure rfl rfl ?_
  refine r_pure rfl rfl ?_
  refine r_pure rfl rfl ?_
  refine r_pure rfl rfl ?_
  refine r_pure rfl rfl ?_
  refine r_putJ (j := 8) rfl (zT0 ht) (lT0 ht) rfl kdo_6 rfl (fun S1 => ?_)
  exact r_retV rfl rfl
/-! X4_readBar -/
def s_X4_readBar (S : HS) : Option (Int32 × HS) :=
  Option.bind (tl (gr S 2 7)) fun t1 =>
  Option.bind (s_X4_readNumber (0 : Int32) ((gf S t1 6) - (1 : Int32)) S) fun q2 =>
  if q2.1 ≠ (0 : Int32) then
    Option.bind (tl (gr q2.2 2 7)) fun t3 =>
    Option.bind (s_X4_readNumber (0 : Int32) ((gf q2.2 t3 6) - (1 : Int32)) q2.2) fun q4 =>
    if q4.1 ≠ (0 : Int32) then
      Option.bind (tl (gr q4.2 2 7)) fun t5 =>
      Option.bind (s_X6_bar t5 (gf q2.2 2 6) (gf q4.2 2 6) q4.2) fun q6 =>
      some ((1 : Int32), q6)
    else
      some ((0 : Int32), q4.2)
  else
    some ((0 : Int32), q2.2)
set_option maxRecDepth 100000 in
theorem rf_X4_readBar {d : Nat} (hd : 5 ≤ d) {O : HS} (S : HS) : Lm (oIW false O) (s_X4_readBar S) (CF d 44 [.ref 2] (en false O S)) := by
  unfold s_X4_readBar
  obtain ⟨e, rfl⟩ : ∃ e, d = e + 1 := ⟨d - 1, by omega⟩
  refine rm_of (lv := [some (.ref 2), none]) (k_X4_readBar false) (by omega) rfl rfl (Nat.le_of_ble_eq_true rfl) ?_
  refine lm_le (n := 29) (by omega) ?_
  show Lm _ _ (run (CF e) _ _ _ _ _ _)
  refine r_pure rfl rfl ?_
  refine r_pure rfl rfl ?_
  refine r_pure rfl rfl ?_
  refine r_getT rfl ⟨rfl, by decide⟩ rfl rfl (fun t1 ht1 => ?_)
  refine r_get rfl (en_get (b := false) (k := t1) (L := 10) (zT0 ht1) (lT0 ht1)) (fo_get (S := S) rfl) ?_
  refine r_pure rfl rfl ?_
  refine r_pure rfl rfl ?_
  refine r_callV_IW rfl rfl (en_get (b := false) (k := 2) (L := 8) ⟨rfl, by decide⟩ rfl) (Nat.le_of_ble_eq_true rfl) (rf_X4_readNumber (by omega) (0 : Int32) ((gf S t1 6) - (1 : Int32)) S) (fun q2 => ?_)
  refine r_if1 rfl rfl ?_ ?_
  · refine r_pure rfl rfl ?_
    refine r_get rfl (en_get (b := false) (k := 2) (L := 8) ⟨rfl, by decide⟩ rfl) (fo_get (S := q2.2) rfl) ?_
    refine r_pure (lv' := [some (.ref 2), some (.int (gf q2.2 2 6))]) rfl rfl ?_
    refine r_pure rfl rfl ?_
    refine r_pure rfl rfl ?_
    refine r_pure rfl rfl ?_
    refine r_getT rfl ⟨rfl, by decide⟩ rfl rfl (fun t3 ht3 => ?_)
    refine r_get rfl (en_get (b := false) (k := t3) (L := 10) (zT0 ht3) (lT0 ht3)) (fo_get (S := q2.2) rfl) ?_
    refine r_pure rfl rfl ?_
    refine r_pure rfl rfl ?_
    refine r_callV_IW rfl rfl (en_get (b := false) (k := 2) (L := 8) ⟨rfl, by decide⟩ rfl) (Nat.le_of_ble_eq_true rfl) (rf_X4_readNumber (by omega) (0 : Int32) ((gf q2.2 t3 6) - (1 : Int32)) q2.2) (fun q4 => ?_)
    refine r_if1 rfl rfl ?_ ?_
    · refine r_pure rfl rfl ?_
      refine r_getT rfl ⟨rfl, by decide⟩ rfl rfl (fun t5 ht5 => ?_)
      refine r_pure rfl rfl ?_
      refine r_pure rfl rfl ?_
      refine r_get rfl (en_get (b := false) (k := 2) (L := 8) ⟨rfl, by decide⟩ rfl) (fo_get (S := q4.2) rfl) ?_
      refine r_callV_VW rfl rfl (en_get (b := false) (k := t5) (L := 10) (zT0 ht5) (lT0 ht5)) (Nat.le_of_ble_eq_true rfl) (rf_X6_bar (by omega) t5 ht5 (gf q2.2 2 6) (gf q4.2 2 6) q4.2) (fun q6 => ?_)
      refine r_pure rfl rfl ?_
      exact r_retZ rfl (Or.inr rfl) rfl
    · refine r_pure rfl rfl ?_
      exact r_retZ rfl (Or.inl rfl) rfl
  · refine r_pure rfl rfl ?_
    exact r_retZ rfl (Or.inl rfl) rfl
/-! X4_readLast -/
def s_X4_readLast (S : HS) : Option (Int32 × HS) :=
  Option.bind (tl (gr S 2 7)) fun t1 =>
  Option.bind (s_X4_readNumber (0 : Int32) ((gf S t1 1) - (1 : Int32)) S) fun q2 =>
  if q2.1 ≠ (0 : Int32) then
    Option.bind (tl (gr q2.2 2 7)) fun t3 =>
    Option.bind (s_X4_readNumber (0 : Int32) ((gf q2.2 t3 6) - (1 : Int32)) q2.2) fun q4 =>
    if q4.1 ≠ (0 : Int32) then
      Option.bind (tl (gr q4.2 2 7)) fun t5 =>
      Option.bind (wa q4.2 (t5 + 5) (gf q2.2 2 6) (gf q4.2 2 6)) fun S6 =>
      some ((1 : Int32), S6)
    else
      some ((0 : Int32), q4.2)
  else
    some ((0 : Int32), q2.2)
set_option maxRecDepth 100000 in
theorem rf_X4_readLast {d : Nat} (hd : 5 ≤ d) {O : HS} (S : HS) : Lm (oIW false O) (s_X4_readLast S) (CF d 45 [.ref 2] (en false O S)) := by
  unfold s_X4_readLast
  obtain ⟨e, rfl⟩ : ∃ e, d = e + 1 := ⟨d - 1, by omega⟩
  refine rm_of (lv := [some (.ref 2), none]) (k_X4_readLast false) (by omega) rfl rfl (Nat.le_of_ble_eq_true rfl) ?_
  refine lm_le (n := 30) (by omega) ?_
  show Lm _ _ (run (CF e) _ _ _ _ _ _)
  refine r_pure rfl rfl ?_
  refine r_pure rfl rfl ?_
  refine r_pure rfl rfl ?_
  refine r_getT rfl ⟨rfl, by decide⟩ rfl rfl (fun t1 ht1 => ?_)
  refine r_get rfl (en_get (b := false) (k := t1) (L := 10) (zT0 ht1) (lT0 ht1)) (fo_get (S := S) rfl) ?_
  refine r_pure rfl rfl ?_
  refine r_pure rfl rfl ?_
  refine r_callV_IW rfl rfl (en_get (b := false) (k := 2) (L := 8) ⟨rfl, by decide⟩ rfl) (Nat.le_of_ble_eq_true rfl) (rf_X4_readNumber (by omega) (0 : Int32) ((gf S t1 1) - (1 : Int32)) S) (fun q2 => ?_)
  refine r_if1 rfl rfl ?_ ?_
  · refine r_pure rfl rfl ?_
    refine r_get rfl (en_get (b := false) (k := 2) (L := 8) ⟨rfl, by decide⟩ rfl) (fo_get (S := q2.2) rfl) ?_
    refine r_pure (lv' := [some (.ref 2), some (.int (gf q2.2 2 6))]) rfl rfl ?_
    refine r_pure rfl rfl ?_
    refine r_pure rfl rfl ?_
    refine r_pure rfl rfl ?_
    refine r_getT rfl ⟨rfl, by decide⟩ rfl rfl (fun t3 ht3 => ?_)
    refine r_get rfl (en_get (b := false) (k := t3) (L := 10) (zT0 ht3) (lT0 ht3)) (fo_get (S := q2.2) rfl) ?_
    refine r_pure rfl rfl ?_
    refine r_pure rfl rfl ?_
    refine r_callV_IW rfl rfl (en_get (b := false) (k := 2) (L := 8) ⟨rfl, by decide⟩ rfl) (Nat.le_of_ble_eq_true rfl) (rf_X4_readNumber (by omega) (0 : Int32) ((gf q2.2 t3 6) - (1 : Int32)) q2.2) (fun q4 => ?_)
    refine r_if1 rfl rfl ?_ ?_
    · refine r_pure rfl rfl ?_
      refine r_getT rfl ⟨rfl, by decide⟩ rfl rfl (fun t5 ht5 => ?_)
      refine r_get rfl (en_get (b := false) (k := t5) (L := 10) (zT0 ht5) (lT0 ht5)) (fo_get (S := q4.2) rfl) ?_
      refine r_pure rfl rfl ?_
      refine r_pure rfl rfl ?_
      refine r_get rfl (en_get (b := false) (k := 2) (L := 8) ⟨rfl, by decide⟩ rfl) (fo_get (S := q4.2) rfl) ?_
      refine r_iastI rfl (zT5 ht5) (lT5 ht5) (fun S6 => ?_)
      refine r_pure rfl rfl ?_
      exact r_retZ rfl (Or.inr rfl) rfl
    · refine r_pure rfl rfl ?_
      exact r_retZ rfl (Or.inl rfl) rfl
  · refine r_pure rfl rfl ?_
    exact r_retZ rfl (Or.inl rfl) rfl
/-! X4_readDrop -/
def s_X4_readDrop (S : HS) : Option (Int32 × HS) :=
  Option.bind (tl (gr S 2 7)) fun t1 =>
  Option.bind (s_X4_readNumber (0 : Int32) ((gf S t1 6) - (1 : Int32)) S) fun q2 =>
  if q2.1 ≠ (0 : Int32) then
    Option.bind (tl (gr q2.2 2 7)) fun t3 =>
    Option.bind (tl (gr q2.2 2 7)) fun t4 =>
    Option.bind (wa q2.2 (t3 + 7) (gf q2.2 t4 9) (gf q2.2 2 6)) fun S5 =>
    Option.bind (s_X4_readNumber (1 : Int32) (4995 : Int32) S5) fun q6 =>
    if q6.1 ≠ (0 : Int32) then
      Option.bind (tl (gr q6.2 2 7)) fun t7 =>
      Option.bind (tl (gr q6.2 2 7)) fun t8 =>
      Option.bind (wa q6.2 (t7 + 8) (gf q6.2 t8 9) (gf q6.2 2 6)) fun S9 =>
      Option.bind (tl (gr S9 2 7)) fun t10 =>
      Option.bind (pf S9 t10 9 ((gf S9 t10 9) + (1 : Int32))) fun S11 =>
      some ((1 : Int32), S11)
    else
      some ((0 : Int32), q6.2)
  else
    some ((0 : Int32), q2.2)
set_option maxRecDepth 100000 in
theorem rf_X4_readDrop {d : Nat} (hd : 5 ≤ d) {O : HS} (S : HS) : Lm (oIW false O) (s_X4_readDrop S) (CF d 46 [.ref 2] (en false O S)) := by
  unfold s_X4_readDrop
  obtain ⟨e, rfl⟩ : ∃ e, d = e + 1 := ⟨d - 1, by omega⟩
  refine rm_of (lv := [some (.ref 2)]) (k_X4_readDrop false) (by omega) rfl rfl (Nat.le_of_ble_eq_true rfl) ?_
  refine lm_le (n := 41) (by omega) ?_
  show Lm _ _ (run (CF e) _ _ _ _ _ _)
  refine r_pure rfl rfl ?_
  refine r_pure rfl rfl ?_
  refine r_pure rfl rfl ?_
  refine r_getT rfl ⟨rfl, by decide⟩ rfl rfl (fun t1 ht1 => ?_)
  refine r_get rfl (en_get (b := false) (k := t1) (L := 10) (zT0 ht1) (lT0 ht1)) (fo_get (S := S) rfl) ?_
  refine r_pure rfl rfl ?_
  refine r_pure rfl rfl ?_
  refine r_callV_IW rfl rfl (en_get (b := false) (k := 2) (L := 8) ⟨rfl, by decide⟩ rfl) (Nat.le_of_ble_eq_true rfl) (rf_X4_readNumber (by omega) (0 : Int32) ((gf S t1 6) - (1 : Int32)) S) (fun q2 => ?_)
  refine r_if1 rfl rfl ?_ ?_
  · refine r_pure rfl rfl ?_
    refine r_getT rfl ⟨rfl, by decide⟩ rfl rfl (fun t3 ht3 => ?_)
    refine r_get rfl (en_get (b := false) (k := t3) (L := 10) (zT0 ht3) (lT0 ht3)) (fo_get (S := q2.2) rfl) ?_
    refine r_pure rfl rfl ?_
    refine r_getT rfl ⟨rfl, by decide⟩ rfl rfl (fun t4 ht4 => ?_)
    refine r_get rfl (en_get (b := false) (k := t4) (L := 10) (zT0 ht4) (lT0 ht4)) (fo_get (S := q2.2) rfl) ?_
    refine r_pure rfl rfl ?_
    refine r_get rfl (en_get (b := false) (k := 2) (L := 8) ⟨rfl, by decide⟩ rfl) (fo_get (S := q2.2) rfl) ?_
    refine r_iastI rfl (zT7 ht3) (lT7 ht3) (fun S5 => ?_)
    refine r_pure rfl rfl ?_
    refine r_pure rfl rfl ?_
    refine r_pure rfl rfl ?_
    refine r_callV_IW rfl rfl (en_get (b := false) (k := 2) (L := 8) ⟨rfl, by decide⟩ rfl) (Nat.le_of_ble_eq_true rfl) (rf_X4_readNumber (by omega) (1 : Int32) (4995 : Int32) S5) (fun q6 => ?_)
    refine r_if1 rfl rfl ?_ ?_
    · refine r_pure rfl rfl ?_
      refine r_getT rfl ⟨rfl, by decide⟩ rfl rfl (fun t7 ht7 => ?_)
      refine r_get rfl (en_get (b := false) (k := t7) (L := 10) (zT0 ht7) (lT0 ht7)) (fo_get (S := q6.2) rfl) ?_
      refine r_pure rfl rfl ?_
      refine r_getT rfl ⟨rfl, by decide⟩ rfl rfl (fun t8 ht8 => ?_)
      refine r_get rfl (en_get (b := false) (k := t8) (L := 10) (zT0 ht8) (lT0 ht8)) (fo_get (S := q6.2) rfl) ?_
      refine r_pure rfl rfl ?_
      refine r_get rfl (en_get (b := false) (k := 2) (L := 8) ⟨rfl, by decide⟩ rfl) (fo_get (S := q6.2) rfl) ?_
      refine r_iastI rfl (zT8 ht7) (lT8 ht7) (fun S9 => ?_)
      refine r_pure rfl rfl ?_
      refine r_getT rfl ⟨rfl, by decide⟩ rfl rfl (fun t10 ht10 => ?_)
      refine r_pure rfl rfl ?_
      refine r_get rfl (en_get (b := false) (k := t10) (L := 10) (zT0 ht10) (lT0 ht10)) (fo_get (S := S9) rfl) ?_
      refine r_pure rfl rfl ?_
      refine r_pure rfl rfl ?_
      refine r_putI rfl (zT0 ht10) (lT0 ht10) rfl rfl (fun S11 => ?_)
      refine r_pure rfl rfl ?_
      exact r_retZ rfl (Or.inr rfl) rfl
    · refine r_pure rfl rfl ?_
      exact r_retZ rfl (Or.inl rfl) rfl
  · refine r_pure rfl rfl ?_
    exact r_retZ rfl (Or.inl rfl) rfl
/-! X4_readOther -/
def s_X4_readOther (S : HS) : Option (Int32 × HS) :=
  Option.bind (s_X4_sortOfWord S) fun q1 =>
  if q1 ≠ (-1 : Int32) then
    Option.bind (ag (ga S 3) q1) fun a2 =>
    Option.bind (tb 2 q1) fun a3 =>
    if a2 < a3 then
      Option.bind (ag (ga S 3) q1) fun a4 =>
      Option.bind (wa S 3 q1 (a4 + (1 : Int32))) fun S5 =>
      if q1 = (0 : Int32) then
        Option.bind (s_X4_readCompartment S5) fun q6 =>
        Option.bind (gz q6.1) fun _ =>
        some (q6.1, q6.2)
      else if q1 = (1 : Int32) then
        Option.bind (s_X4_readLiquid S5) fun q7 =>
        Option.bind (gz q7.1) fun _ =>
        some (q7.1, q7.2)
      else if q1 = (2 : Int32) then
        Option.bind (s_X4_readBar S5) fun q8 =>
        Option.bind (gz q8.1) fun _ =>
        some (q8.1, q8.2)
      else if q1 = (3 : Int32) then
        Option.bind (s_X4_readLast S5) fun q9 =>
        Option.bind (gz q9.1) fun _ =>
        some (q9.1, q9.2)
      else 
        Option.bind (s_X4_readDrop S5) fun q10 =>
        Option.bind (gz q10.1) fun _ =>
        some (q10.1, q10.2)
    else
      Option.bind (s_X4_refuse (3 : Int32) S) fun q11 =>
      Option.bind (gz q11.1) fun _ =>
      some (q11.1, q11.2)
  else
    Option.bind (s_X4_refuse (1 : Int32) S) fun q12 =>
    Option.bind (gz q12.1) fun _ =>
    some (q12.1, q12.2)
set_option maxRecDepth 100000 in
theorem rf_X4_readOther {d : Nat} (hd : 8 ≤ d) {O : HS} (S : HS) : Lm (oIW false O) (s_X4_readOther S) (CF d 40 [.ref 2] (en false O S)) := by
  unfold s_X4_readOther
  obtain ⟨e, rfl⟩ : ∃ e, d = e + 1 := ⟨d - 1, by omega⟩
  refine rm_of (lv := [some (.ref 2), none]) (k_X4_readOther false) (by omega) rfl rfl (Nat.le_of_ble_eq_true rfl) ?_
  refine lm_le (n := 27) (by omega) ?_
  show Lm _ _ (run (CF e) _ _ _ _ _ _)
  refine r_pure rfl rfl ?_
  refine r_callV_I rfl rfl (en_get (b := false) (k := 2) (L := 8) ⟨rfl, by decide⟩ rfl) (Nat.le_of_ble_eq_true rfl) (rf_X4_sortOfWord (by omega) S) (fun q1 => ?_)
  refine r_pure (lv' := [some (.ref 2), some (.int q1)]) rfl rfl ?_
  refine r_pure rfl rfl ?_
  refine r_pure rfl rfl ?_
  refine r_if2 rfl rfl ?_ ?_
  · refine r_pure rfl rfl ?_
    refine r_get rfl (en_get (b := false) (k := 2) (L := 8) ⟨rfl, by decide⟩ rfl) (fo_get (S := S) rfl) ?_
    refine r_pure rfl rfl ?_
    refine r_iald rfl (en_get (b := false) (k := 3) (L := 0) ⟨rfl, by decide⟩ rfl) (fun a2 => ?_)
    refine r_sp rfl rfl ?_
    refine r_pure rfl rfl ?_
    refine r_tab (j := 2) rfl (by decide) (by decide) (fun a3 => ?_)
    refine r_if2 rfl rfl ?_ ?_
    · refine r_pure rfl rfl ?_
      refine r_get rfl (en_get (b := false) (k := 2) (L := 8) ⟨rfl, by decide⟩ rfl) (fo_get (S := S) rfl) ?_
      refine r_pure rfl rfl ?_
      refine r_pure rfl rfl ?_
      refine r_iald rfl (en_get (b := false) (k := 3) (L := 0) ⟨rfl, by decide⟩ rfl) (fun a4 => ?_)
      refine r_pure rfl rfl ?_
      refine r_pure rfl rfl ?_
      refine r_iastI rfl ⟨rfl, by decide⟩ rfl (fun S5 => ?_)
      refine r_pure rfl rfl ?_
      refine r_sw rfl ?_
      refine sw_one (t := 76) (by decide) ?_ (fun hx0 => ?_)
      · refine r_pure rfl rfl ?_
        refine r_callV_IW rfl rfl (en_get (b := false) (k := 2) (L := 8) ⟨rfl, by decide⟩ rfl) (Nat.le_of_ble_eq_true rfl) (rf_X4_readCompartment (by omega) S5) (fun q6 => ?_)
        exact r_retG rfl rfl rfl
      refine sw_one (t := 81) (by decide) ?_ (fun hx1 => ?_)
      · refine r_pure rfl rfl ?_
        refine r_callV_IW rfl rfl (en_get (b := false) (k := 2) (L := 8) ⟨rfl, by decide⟩ rfl) (Nat.le_of_ble_eq_true rfl) (rf_X4_readLiquid (by omega) S5) (fun q7 => ?_)
        exact r_retG rfl rfl rfl
      refine sw_one (t := 86) (by decide) ?_ (fun hx2 => ?_)
      · refine r_pure rfl rfl ?_
        refine r_callV_IW rfl rfl (en_get (b := false) (k := 2) (L := 8) ⟨rfl, by decide⟩ rfl) (Nat.le_of_ble_eq_true rfl) (rf_X4_readBar (by omega) S5) (fun q8 => ?_)
        exact r_retG rfl rfl rfl
      refine sw_one (t := 91) (by decide) ?_ (fun hx3 => ?_)
      · refine r_pure rfl rfl ?_
        refine r_callV_IW rfl rfl (en_get (b := false) (k := 2) (L := 8) ⟨rfl, by decide⟩ rfl) (Nat.le_of_ble_eq_true rfl) (rf_X4_readLast (by omega) S5) (fun q9 => ?_)
        exact r_retG rfl rfl rfl
      refine sw_def (sw_out (m := 4) rfl (by decide) (fun k hk => (by
          match k, hk with
          | 0, _ => exact hx0
          | 1, _ => exact hx1
          | 2, _ => exact hx2
          | 3, _ => exact hx3
          | k + 4, hk => exact absurd hk (by omega)))) ?_
      refine r_pure rfl rfl ?_
      refine r_callV_IW rfl rfl (en_get (b := false) (k := 2) (L := 8) ⟨rfl, by decide⟩ rfl) (Nat.le_of_ble_eq_true rfl) (rf_X4_readDrop (by omega) S5) (fun q10 => ?_)
      exact r_retG rfl rfl rfl
    · refine r_pure rfl rfl ?_
      refine r_pure rfl rfl ?_
      refine r_callV_IW rfl rfl (en_get (b := false) (k := 2) (L := 8) ⟨rfl, by decide⟩ rfl) (Nat.le_of_ble_eq_true rfl) (rf_X4_refuse (by omega) (3 : Int32) S) (fun q11 => ?_)
      exact r_retG rfl rfl rfl
  · refine r_pure rfl rfl ?_
    refine r_pure rfl rfl ?_
    refine r_callV_IW rfl rfl (en_get (b := false) (k := 2) (L := 8) ⟨rfl, by decide⟩ rfl) (Nat.le_of_ble_eq_true rfl) (rf_X4_refuse (by omega) (1 : Int32) S) (fun q12 => ?_)
    exact r_retG rfl rfl rfl
/-! X4_readSign -/
def s_X4_readSign (S : HS) : Option (Int32 × HS) :=
  Option.bind (s_X4_advance S) fun q1 =>
  if (gf q1 2 4) = (3 : Int32) then
    some ((1 : Int32), q1)
  else
    Option.bind (s_X4_refuse (1 : Int32) q1) fun q2 =>
    if q2.1 = (0 : Int32) then
      some ((0 : Int32), q2.2)
    else
      some ((1 : Int32), q2.2)
set_option maxRecDepth 100000 in
theorem rf_X4_readSign {d : Nat} (hd : 4 ≤ d) {O : HS} (S : HS) : Lm (oIW false O) (s_X4_readSign S) (CF d 38 [.ref 2] (en false O S)) := by
  unfold s_X4_readSign
  obtain ⟨e, rfl⟩ : ∃ e, d = e + 1 := ⟨d - 1, by omega⟩
  refine rm_of (lv := [some (.ref 2)]) (k_X4_readSign false) (by omega) rfl rfl (Nat.le_of_ble_eq_true rfl) ?_
  refine lm_le (n := 13) (by omega) ?_
  show Lm _ _ (run (CF e) _ _ _ _ _ _)
  refine r_pure rfl rfl ?_
  refine r_callV_VW rfl rfl (en_get (b := false) (k := 2) (L := 8) ⟨rfl, by decide⟩ rfl) (Nat.le_of_ble_eq_true rfl) (rf_X4_advance (by omega) S) (fun q1 => ?_)
  refine r_pure rfl rfl ?_
  refine r_get rfl (en_get (b := false) (k := 2) (L := 8) ⟨rfl, by decide⟩ rfl) (fo_get (S := q1) rfl) ?_
  refine r_pure rfl rfl ?_
  refine r_if2 rfl rfl ?_ ?_
  · refine r_pure rfl rfl ?_
    refine r_pure rfl rfl ?_
    exact r_retZ rfl (Or.inr rfl) rfl
  · refine r_pure rfl rfl ?_
    refine r_pure rfl rfl ?_
    refine r_callV_IW rfl rfl (en_get (b := false) (k := 2) (L := 8) ⟨rfl, by decide⟩ rfl) (Nat.le_of_ble_eq_true rfl) (rf_X4_refuse (by omega) (1 : Int32) q1) (fun q2 => ?_)
    refine r_if1 rfl rfl ?_ ?_
    · refine r_pure rfl rfl ?_
      exact r_retZ rfl (Or.inl rfl) rfl
    · refine r_pure rfl rfl ?_
      refine r_pure rfl rfl ?_
      exact r_retZ rfl (Or.inr rfl) rfl
/-! X4_reads -/
def s_X4_reads_J83 (t : Nat) (rc43 : Int32 → HS → Option (Int32 × HS)) (v4 : Int32) (x0 : Int32) (S : HS) : Option (Int32 × HS) :=
  if x0 = (0 : Int32) then
    some ((0 : Int32), S)
  else
    Option.bind (s_X4_readSign S) fun q12 =>
    if q12.1 ≠ (0 : Int32) then
      Option.bind (pf q12.2 2 8 ((gf q12.2 2 8) + (1 : Int32))) fun S13 =>
      rc43 (v4 + (1 : Int32)) S13
    else
      some ((0 : Int32), q12.2)
def s_X4_reads_L43 (t : Nat) : Nat → Int32 → HS → Option (Int32 × HS)
  | 0, _, _ => none
  | K + 1, v4, S =>
    if (740 : Int32) ≤ v4 then
      Option.bind (s_X4_refuse (1 : Int32) S) fun q9 =>
      Option.bind (gz q9.1) fun _ =>
      some (q9.1, q9.2)
    else
      Option.bind (s_X4_advance S) fun q10 =>
      if (gf q10 2 4) ≠ (4 : Int32) then
        if (gf q10 2 8) ≠ (0 : Int32) then
          Option.bind (s_X4_readOther q10) fun q11 =>
          s_X4_reads_J83 t (s_X4_reads_L43 t K) v4 q11.1 q11.2
        else
          Option.bind (s_X4_readTanker q10) fun q14 =>
          s_X4_reads_J83 t (s_X4_reads_L43 t K) v4 q14.1 q14.2
      else
        some ((1 : Int32), q10)
def s_X4_reads (t : Nat) (v2 : Int32) (S : HS) : Option (Int32 × HS) :=
  Option.bind (pr S 2 1 (.ref 1)) fun S1 =>
  Option.bind (pf S1 2 2 v2) fun S2 =>
  Option.bind (pf S2 2 3 (0 : Int32)) fun S3 =>
  Option.bind (pf S3 2 8 (0 : Int32)) fun S4 =>
  Option.bind (pr S4 2 7 (.ref t)) fun S5 =>
  Option.bind (tl (gr S5 2 7)) fun t6 =>
  Option.bind (s_X6_clear t6 S5) fun q7 =>
  Option.bind (wf q7 3 (0 : Int32)) fun S8 =>
  s_X4_reads_L43 t 800 (0 : Int32) S8
set_option maxRecDepth 100000 in
theorem rj_X4_reads_J83 {e : Nat} (he : 8 ≤ e) {O : HS} (t : Nat) (ht : isT t) (rc43 : Int32 → HS → Option (Int32 × HS)) (v4 : Int32) (x0 : Int32) {n : Nat} (hrc43 : ∀ (v4 : Int32) (S : HS) (j1 : Option Value) (j2 : Option Value) (j3 : Option Value) (j5 : Option Value), Lm (oIW false O) (rc43 v4 S) (run (CF e) (k_X4_reads false) n 43 [some (.ref 2), j1, j2, j3, some (.int v4), j5] [] (en false O S))) (S : HS) (j1 : Option Value) (j2 : Option Value) (j3 : Option Value) (j5 : Option Value) : Lm (oIW false O) (s_X4_reads_J83 t rc43 v4 x0 S) (run (CF e) (k_X4_reads false) (n + 14) 83 [some (.ref 2), j1, j2, j3, some (.int v4), j5] [.int x0] (en false O S)) := by
  unfold s_X4_reads_J83
  refine r_pure (lv' := [some (.ref 2), _, _, _, some (.int v4), some (.int x0)]) rfl rfl ?_
  refine r_pure rfl rfl ?_
  refine r_if1 rfl rfl ?_ ?_
  · refine r_pure rfl rfl ?_
    exact r_retZ rfl (Or.inl rfl) rfl
  · refine r_pure rfl rfl ?_
    refine r_callV_IW rfl rfl (en_get (b := false) (k := 2) (L := 8) ⟨rfl, by decide⟩ rfl) (Nat.le_of_ble_eq_true rfl) (rf_X4_readSign (by omega) S) (fun q12 => ?_)
    refine r_if1 rfl rfl ?_ ?_
    · refine r_pure rfl rfl ?_
      refine r_pure rfl rfl ?_
      refine r_get rfl (en_get (b := false) (k := 2) (L := 8) ⟨rfl, by decide⟩ rfl) (fo_get (S := q12.2) rfl) ?_
      refine r_pure rfl rfl ?_
      refine r_pure rfl rfl ?_
      refine r_putI rfl ⟨rfl, by decide⟩ rfl rfl rfl (fun S13 => ?_)
      refine r_pure (lv' := [some (.ref 2), _, _, _, some (.int (v4 + (1 : Int32))), some (.int x0)]) rfl rfl ?_
      refine r_pure rfl rfl ?_
      exact lm_le (by omega) (hrc43 (v4 + (1 : Int32)) S13 _ _ _ _)
    · refine r_pure rfl rfl ?_
      exact r_retZ rfl (Or.inl rfl) rfl
set_option maxRecDepth 100000 in
theorem rl_X4_reads_L43 {e : Nat} (he : 8 ≤ e) {O : HS} (t : Nat) (ht : isT t) {n : Nat} : ∀ (K : Nat) (v4 : Int32) (S : HS) (j1 : Option Value) (j2 : Option Value) (j3 : Option Value) (j5 : Option Value), Lm (oIW false O) (s_X4_reads_L43 t K v4 S) (run (CF e) (k_X4_reads false) (n + (29 * K + 0)) 43 [some (.ref 2), j1, j2, j3, some (.int v4), j5] [] (en false O S)) := by
  intro K
  induction K with
  | zero =>
    intros
    exact lm_none
  | succ K ih =>
    intro v4 S j1 j2 j3 j5
    rw [show n + (29 * (K + 1) + 0) = n + (29 * K + 0) + 29 by omega]
    rw [s_X4_reads_L43]
    refine r_pure rfl rfl ?_
    refine r_pure rfl rfl ?_
    refine r_if2 rfl rfl ?_ ?_
    · refine r_pure rfl rfl ?_
      refine r_pure rfl rfl ?_
      refine r_callV_IW rfl rfl (en_get (b := false) (k := 2) (L := 8) ⟨rfl, by decide⟩ rfl) (Nat.le_of_ble_eq_true rfl) (rf_X4_refuse (by omega) (1 : Int32) S) (fun q9 => ?_)
      exact r_retG rfl rfl rfl
    · refine r_pure rfl rfl ?_
      refine r_callV_VW rfl rfl (en_get (b := false) (k := 2) (L := 8) ⟨rfl, by decide⟩ rfl) (Nat.le_of_ble_eq_true rfl) (rf_X4_advance (by omega) S) (fun q10 => ?_)
      refine r_pure rfl rfl ?_
      refine r_get rfl (en_get (b := false) (k := 2) (L := 8) ⟨rfl, by decide⟩ rfl) (fo_get (S := q10) rfl) ?_
      refine r_pure rfl rfl ?_
      refine r_if2 rfl rfl ?_ ?_
      · refine r_pure rfl rfl ?_
        refine r_get rfl (en_get (b := false) (k := 2) (L := 8) ⟨rfl, by decide⟩ rfl) (fo_get (S := q10) rfl) ?_
        refine r_if1 rfl rfl ?_ ?_
        · refine r_pure rfl rfl ?_
          refine r_callV_IW rfl rfl (en_get (b := false) (k := 2) (L := 8) ⟨rfl, by decide⟩ rfl) (Nat.le_of_ble_eq_true rfl) (rf_X4_readOther (by omega) q10) (fun q11 => ?_)
          exact lm_le (by omega) (rj_X4_reads_J83 (by omega) t ht (s_X4_reads_L43 t K) v4 q11.1 ih q11.2 _ _ _ _)
        · refine r_pure rfl rfl ?_
          refine r_callV_IW rfl rfl (en_get (b := false) (k := 2) (L := 8) ⟨rfl, by decide⟩ rfl) (Nat.le_of_ble_eq_true rfl) (rf_X4_readTanker (by omega) q10) (fun q14 => ?_)
          refine r_pure rfl rfl ?_
          exact lm_le (by omega) (rj_X4_reads_J83 (by omega) t ht (s_X4_reads_L43 t K) v4 q14.1 ih q14.2 _ _ _ _)
      · refine r_pure rfl rfl ?_
        exact r_retZ rfl (Or.inr rfl) rfl
set_option maxRecDepth 100000 in
theorem rf_X4_reads {d : Nat} (hd : 9 ≤ d) {O : HS} (t : Nat) (ht : isT t) (v2 : Int32) (S : HS) : Lm (oIW false O) (s_X4_reads t v2 S) (CF d 36 [.ref 2, .ref 1, .int v2, .ref t] (en false O S)) := by
  unfold s_X4_reads
  obtain ⟨e, rfl⟩ : ∃ e, d = e + 1 := ⟨d - 1, by omega⟩
  refine rm_of (lv := [some (.ref 2), some (.ref 1), some (.int v2), some (.ref t), none, none]) (k_X4_reads false) (by omega) rfl rfl (Nat.le_of_ble_eq_true rfl) ?_
  refine lm_le (n := 23224) (by omega) ?_
  show Lm _ _ (run (CF e) _ _ _ _ _ _)
  refine r_pure rfl rfl ?_
  refine r_pure rfl rfl ?_
  refine r_putR rfl ⟨rfl, by decide⟩ rfl rfl rfl (fun S1 => ?_)
  refine r_pure rfl rfl ?_
  refine r_pure rfl rfl ?_
  refine r_putI rfl ⟨rfl, by decide⟩ rfl rfl rfl (fun S2 => ?_)
  refine r_pure rfl rfl ?_
  refine r_pure rfl rfl ?_
  refine r_putI rfl ⟨rfl, by decide⟩ rfl rfl rfl (fun S3 => ?_)
  refine r_pure rfl rfl ?_
  refine r_pure rfl rfl ?_
  refine r_putI rfl ⟨rfl, by decide⟩ rfl rfl rfl (fun S4 => ?_)
  refine r_pure rfl rfl ?_
  refine r_pure rfl rfl ?_
  refine r_putR rfl ⟨rfl, by decide⟩ rfl rfl rfl (fun S5 => ?_)
  refine r_pure rfl rfl ?_
  refine r_getT rfl ⟨rfl, by decide⟩ rfl rfl (fun t6 ht6 => ?_)
  refine r_callV_VW rfl rfl (en_get (b := false) (k := t6) (L := 10) (zT0 ht6) (lT0 ht6)) (Nat.le_of_ble_eq_true rfl) (rf_X6_clear (by omega) t6 ht6 S5) (fun q7 => ?_)
  refine r_pure rfl rfl ?_
  refine r_get rfl (en_get (b := false) (k := 2) (L := 8) ⟨rfl, by decide⟩ rfl) (fo_get (S := q7) rfl) ?_
  refine r_pure rfl rfl ?_
  refine r_fill rfl ⟨rfl, by decide⟩ rfl (Nat.le_of_ble_eq_true rfl) (fun h1 h2 => fill_m (by omega) h1 h2) (fun S8 => ?_)
  refine r_pure rfl rfl ?_
  refine r_pure (lv' := [some (.ref 2), some (.ref 1), some (.int v2), some (.ref t), some (.int (0 : Int32)), none]) rfl rfl ?_
  exact lm_le (by omega) (rl_X4_reads_L43 (n := 0) (by omega) t ht 800 (0 : Int32) S8 _ _ _ _)
/-! X0_begin -/
def s_X0_begin (b : Nat) (t : Nat) (S : HS) : Option HS :=
  Option.bind (wf S (b + 1) (0 : Int32)) fun S1 =>
  Option.bind (wf S1 (b + 4) (0 : Int32)) fun S2 =>
  Option.bind (wf S2 (b + 2) (-1 : Int32)) fun S3 =>
  Option.bind (wc S3 (b + 3) (t + 5) (5 : Int32)) fun S4 =>
  some S4
set_option maxRecDepth 100000 in
theorem rf_X0_begin {d : Nat} (hd : 2 ≤ d) {O : HS} (b : Nat) (t : Nat) (hb : isC b) (ht : isT t) (S : HS) : Lm (oV false O) (s_X0_begin b t S) (CF d 2 [.ref b, .ref t] (en false O S)) := by
  unfold s_X0_begin
  obtain ⟨e, rfl⟩ : ∃ e, d = e + 1 := ⟨d - 1, by omega⟩
  refine rm_of (lv := [some (.ref b), some (.ref t)]) (k_X0_begin false) (by omega) rfl rfl (Nat.le_of_ble_eq_true rfl) ?_
  refine lm_le (n := 21) (by omega) ?_
  show Lm _ _ (run (CF e) _ _ _ _ _ _)
  refine r_pure rfl rfl ?_
  refine r_get rfl (en_get (b := false) (k := b) (L := 4) (zC0 hb) (lC0 hb)) (fo_get (S := S) rfl) ?_
  refine r_pure rfl rfl ?_
  refine r_fill rfl (zC1 hb) (lC1 hb) (Nat.le_of_ble_eq_true rfl) (fun h1 h2 => fill_m (by omega) h1 h2) (fun S1 => ?_)
  refine r_pure rfl rfl ?_
  refine r_get rfl (en_get (b := false) (k := b) (L := 4) (zC0 hb) (lC0 hb)) (fo_get (S := S1) rfl) ?_
  refine r_pure rfl rfl ?_
  refine r_fill rfl (zC4 hb) (lC4 hb) (Nat.le_of_ble_eq_true rfl) (fun h1 h2 => fill_m (by omega) h1 h2) (fun S2 => ?_)
  refine r_pure rfl rfl ?_
  refine r_get rfl (en_get (b := false) (k := b) (L := 4) (zC0 hb) (lC0 hb)) (fo_get (S := S2) rfl) ?_
  refine r_pure rfl rfl ?_
  refine r_fill rfl (zC2 hb) (lC2 hb) (Nat.le_of_ble_eq_true rfl) (fun h1 h2 => fill_m (by omega) h1 h2) (fun S3 => ?_)
  refine r_pure rfl rfl ?_
  refine r_get rfl (en_get (b := false) (k := t) (L := 10) (zT0 ht) (lT0 ht)) (fo_get (S := S3) rfl) ?_
  refine r_pure rfl rfl ?_
  refine r_pure rfl rfl ?_
  refine r_get rfl (en_get (b := false) (k := b) (L := 4) (zC0 hb) (lC0 hb)) (fo_get (S := S3) rfl) ?_
  refine r_pure rfl rfl ?_
  refine r_pure rfl rfl ?_
  refine r_copy rfl (zC3 hb) (zT5 ht) (lC3 hb) (lT5 ht) (Nat.le_of_ble_eq_true rfl) (fun S4 => ?_)
  exact r_retV rfl rfl
/-! X5_addDrop -/
def s_X5_addDrop (S : HS) : Option HS :=
  if (20 : Int32) ≤ (gf S 22 1) then
    some S
  else
    Option.bind (wa S 28 (gf S 22 1) (0 : Int32)) fun S1 =>
    Option.bind (wa S1 29 (gf S1 22 1) (0 : Int32)) fun S2 =>
    Option.bind (pf S2 22 1 ((gf S2 22 1) + (1 : Int32))) fun S3 =>
    some S3
set_option maxRecDepth 100000 in
theorem rf_X5_addDrop {d : Nat} (hd : 1 ≤ d) {O : HS} (S : HS) : Lm (oV false O) (s_X5_addDrop S) (CF d 55 [.ref 22] (en false O S)) := by
  unfold s_X5_addDrop
  obtain ⟨e, rfl⟩ : ∃ e, d = e + 1 := ⟨d - 1, by omega⟩
  refine rm_of (lv := [some (.ref 22)]) (k_X5_addDrop false) (by omega) rfl rfl (Nat.le_of_ble_eq_true rfl) ?_
  refine lm_le (n := 23) (by omega) ?_
  show Lm _ _ (run (CF e) _ _ _ _ _ _)
  refine r_pure rfl rfl ?_
  refine r_get rfl (en_get (b := false) (k := 22) (L := 9) ⟨rfl, by decide⟩ rfl) (fo_get (S := S) rfl) ?_
  refine r_pure rfl rfl ?_
  refine r_if2 rfl rfl ?_ ?_
  · exact r_retV rfl rfl
  · refine r_pure rfl rfl ?_
    refine r_get rfl (en_get (b := false) (k := 22) (L := 9) ⟨rfl, by decide⟩ rfl) (fo_get (S := S) rfl) ?_
    refine r_pure rfl rfl ?_
    refine r_get rfl (en_get (b := false) (k := 22) (L := 9) ⟨rfl, by decide⟩ rfl) (fo_get (S := S) rfl) ?_
    refine r_pure rfl rfl ?_
    refine r_iastI rfl ⟨rfl, by decide⟩ rfl (fun S1 => ?_)
    refine r_pure rfl rfl ?_
    refine r_get rfl (en_get (b := false) (k := 22) (L := 9) ⟨rfl, by decide⟩ rfl) (fo_get (S := S1) rfl) ?_
    refine r_pure rfl rfl ?_
    refine r_get rfl (en_get (b := false) (k := 22) (L := 9) ⟨rfl, by decide⟩ rfl) (fo_get (S := S1) rfl) ?_
    refine r_pure rfl rfl ?_
    refine r_iastI rfl ⟨rfl, by decide⟩ rfl (fun S2 => ?_)
    refine r_pure rfl rfl ?_
    refine r_pure rfl rfl ?_
    refine r_get rfl (en_get (b := false) (k := 22) (L := 9) ⟨rfl, by decide⟩ rfl) (fo_get (S := S2) rfl) ?_
    refine r_pure rfl rfl ?_
    refine r_pure rfl rfl ?_
    refine r_putI rfl ⟨rfl, by decide⟩ rfl rfl rfl (fun S3 => ?_)
    exact r_retV rfl rfl
/-! X5_begin -/
def s_X5_begin_L15 (t : Nat) : Nat → Int32 → HS → Option HS
  | 0, _, _ => none
  | K + 1, v2, S =>
    if (gf S t 9) ≤ v2 then
      Option.bind (pf S 22 4 (0 : Int32)) fun S3 =>
      some S3
    else
      Option.bind (s_X5_addDrop S) fun q4 =>
      s_X5_begin_L15 t K (v2 + (1 : Int32)) q4
def s_X5_begin (t : Nat) (S : HS) : Option HS :=
  Option.bind (s_X0_begin 23 t S) fun q1 =>
  Option.bind (pf q1 22 1 (0 : Int32)) fun S2 =>
  s_X5_begin_L15 t 40 (0 : Int32) S2
set_option maxRecDepth 100000 in
theorem rl_X5_begin_L15 {e : Nat} (he : 2 ≤ e) {O : HS} (t : Nat) (ht : isT t) {n : Nat} : ∀ (K : Nat) (v2 : Int32) (S : HS), Lm (oV false O) (s_X5_begin_L15 t K v2 S) (run (CF e) (k_X5_begin false) (n + (8 * K + 0)) 15 [some (.ref 22), some (.ref t), some (.int v2)] [] (en false O S)) := by
  intro K
  induction K with
  | zero =>
    intros
    exact lm_none
  | succ K ih =>
    intro v2 S
    rw [show n + (8 * (K + 1) + 0) = n + (8 * K + 0) + 8 by omega]
    rw [s_X5_begin_L15]
    refine r_pure rfl rfl ?_
    refine r_pure rfl rfl ?_
    refine r_get rfl (en_get (b := false) (k := t) (L := 10) (zT0 ht) (lT0 ht)) (fo_get (S := S) rfl) ?_
    refine r_if2 rfl rfl ?_ ?_
    · refine r_pure rfl rfl ?_
      refine r_pure rfl rfl ?_
      refine r_putI rfl ⟨rfl, by decide⟩ rfl rfl rfl (fun S3 => ?_)
      exact r_retV rfl rfl
    · refine r_pure rfl rfl ?_
      refine r_callV_VW rfl rfl (en_get (b := false) (k := 22) (L := 9) ⟨rfl, by decide⟩ rfl) (Nat.le_of_ble_eq_true rfl) (rf_X5_addDrop (by omega) S) (fun q4 => ?_)
      refine r_pure (lv' := [some (.ref 22), some (.ref t), some (.int (v2 + (1 : Int32)))]) rfl rfl ?_
      refine r_pure rfl rfl ?_
      exact lm_le (by omega) (ih (v2 + (1 : Int32)) q4)
set_option maxRecDepth 100000 in
theorem rf_X5_begin {d : Nat} (hd : 3 ≤ d) {O : HS} (t : Nat) (ht : isT t) (S : HS) : Lm (oV false O) (s_X5_begin t S) (CF d 54 [.ref 22, .ref t] (en false O S)) := by
  unfold s_X5_begin
  obtain ⟨e, rfl⟩ : ∃ e, d = e + 1 := ⟨d - 1, by omega⟩
  refine rm_of (lv := [some (.ref 22), some (.ref t), none]) (k_X5_begin false) (by omega) rfl rfl (Nat.le_of_ble_eq_true rfl) ?_
  refine lm_le (n := 329) (by omega) ?_
  show Lm _ _ (run (CF e) _ _ _ _ _ _)
  refine r_pure rfl rfl ?_
  refine r_get rfl (en_get (b := false) (k := 22) (L := 9) ⟨rfl, by decide⟩ rfl) (fo_get (S := S) rfl) ?_
  refine r_pure rfl rfl ?_
  refine r_callV_VW rfl rfl (en_get (b := false) (k := 23) (L := 4) ⟨rfl, by decide⟩ rfl) (Nat.le_of_ble_eq_true rfl) (rf_X0_begin (by omega) 23 t mC23 ht S) (fun q1 => ?_)
  refine r_pure rfl rfl ?_
  refine r_pure rfl rfl ?_
  refine r_putI rfl ⟨rfl, by decide⟩ rfl rfl rfl (fun S2 => ?_)
  refine r_pure rfl rfl ?_
  refine r_pure (lv' := [some (.ref 22), some (.ref t), some (.int (0 : Int32))]) rfl rfl ?_
  exact lm_le (by omega) (rl_X5_begin_L15 (n := 0) (by omega) t ht 40 (0 : Int32) S2)
