/-! X1_forget -/
def s_X1_forget (S : HS) : Option HS :=
  Option.bind (pf S 30 2 (0 : Int32)) fun S1 =>
  some S1
set_option maxRecDepth 100000 in
theorem rf_X1_forget {d : Nat} (hd : 1 ≤ d) {O : HS} (S : HS) : Lm (oV false O) (s_X1_forget S) (CF d 14 [.ref 30] (en false O S)) := by
  unfold s_X1_forget
  obtain ⟨e, rfl⟩ : ∃ e, d = e + 1 := ⟨d - 1, by omega⟩
  refine rm_of (lv := [some (.ref 30)]) (k_X1_forget false) (by omega) rfl rfl (Nat.le_of_ble_eq_true rfl) ?_
  refine lm_le (n := 4) (by omega) ?_
  show Lm _ _ (run (CF e) _ _ _ _ _ _)
  refine r_pure rfl rfl ?_
  refine r_pure rfl rfl ?_
  refine r_putI rfl ⟨rfl, by decide⟩ rfl rfl rfl (fun S1 => ?_)
  exact r_retV rfl rfl
/-! X7_text -/
def s_X7_text_J41 (v1 : Int32) (x1 : Int32) (S : HS) : Option (Int32 × HS) :=
  Option.bind (pf S 0 2 x1) fun S4 =>
  if v1 ≠ (0 : Int32) then
    Option.bind (tl (gr S4 0 4)) fun t5 =>
    Option.bind (tl (gr S4 0 5)) fun t6 =>
    Option.bind (pr S4 0 4 (.ref t6)) fun S7 =>
    Option.bind (pr S7 0 5 (.ref t5)) fun S8 =>
    Option.bind (tl (gr S8 0 4)) fun t9 =>
    Option.bind (s_X5_begin t9 S8) fun q10 =>
    Option.bind (s_X1_forget q10) fun q11 =>
    some ((gf q11 2 8), q11)
  else
    some (((-1 : Int32) - (gf S4 2 10)), S4)
def s_X7_text (S : HS) : Option (Int32 × HS) :=
  Option.bind (tl (gr S 0 5)) fun t1 =>
  Option.bind (s_X4_reads t1 (gf S 0 1) S) fun q2 =>
  Option.bind (pf q2.2 0 1 (0 : Int32)) fun S3 =>
  if q2.1 = (0 : Int32) then
    s_X7_text_J41 q2.1 (gf S3 2 9) S3
  else
    s_X7_text_J41 q2.1 (0 : Int32) S3
set_option maxRecDepth 100000 in
theorem rj_X7_text_J41 {e : Nat} (he : 9 ≤ e) {O : HS} (v1 : Int32) (x1 : Int32) {n : Nat} (S : HS) (j2 : Option Value) : Lm (oIW false O) (s_X7_text_J41 v1 x1 S) (run (CF e) (k_X7_text false) (n + 25) 41 [some (.ref 0), some (.int v1), j2] [.int x1, .ref 0] (en false O S)) := by
  unfold s_X7_text_J41
  refine r_putI rfl ⟨rfl, by decide⟩ rfl rfl rfl (fun S4 => ?_)
  refine r_pure rfl rfl ?_
  refine r_if1 rfl rfl ?_ ?_
  · refine r_pure rfl rfl ?_
    refine r_getT rfl ⟨rfl, by decide⟩ rfl rfl (fun t5 ht5 => ?_)
    refine r_pure (lv' := [some (.ref 0), some (.int v1), some (.ref t5)]) rfl rfl ?_
    refine r_pure rfl rfl ?_
    refine r_pure rfl rfl ?_
    refine r_getT rfl ⟨rfl, by decide⟩ rfl rfl (fun t6 ht6 => ?_)
    refine r_putR rfl ⟨rfl, by decide⟩ rfl rfl rfl (fun S7 => ?_)
    refine r_pure rfl rfl ?_
    refine r_pure rfl rfl ?_
    refine r_putR rfl ⟨rfl, by decide⟩ rfl rfl rfl (fun S8 => ?_)
    refine r_pure rfl rfl ?_
    refine r_get rfl (en_get (b := false) (k := 0) (L := 11) ⟨rfl, by decide⟩ rfl) (fo_get (S := S8) rfl) ?_
    refine r_pure rfl rfl ?_
    refine r_getT rfl ⟨rfl, by decide⟩ rfl rfl (fun t9 ht9 => ?_)
    refine r_callV_VW rfl rfl (en_get (b := false) (k := 22) (L := 9) ⟨rfl, by decide⟩ rfl) (Nat.le_of_ble_eq_true rfl) (rf_X5_begin (by omega) t9 ht9 S8) (fun q10 => ?_)
    refine r_pure rfl rfl ?_
    refine r_get rfl (en_get (b := false) (k := 0) (L := 11) ⟨rfl, by decide⟩ rfl) (fo_get (S := q10) rfl) ?_
    refine r_callV_VW rfl rfl (en_get (b := false) (k := 30) (L := 5) ⟨rfl, by decide⟩ rfl) (Nat.le_of_ble_eq_true rfl) (rf_X1_forget (by omega) q10) (fun q11 => ?_)
    refine r_pure rfl rfl ?_
    refine r_get rfl (en_get (b := false) (k := 0) (L := 11) ⟨rfl, by decide⟩ rfl) (fo_get (S := q11) rfl) ?_
    refine r_get rfl (en_get (b := false) (k := 2) (L := 8) ⟨rfl, by decide⟩ rfl) (fo_get (S := q11) rfl) ?_
    exact r_retI rfl rfl
  · refine r_pure rfl rfl ?_
    refine r_pure rfl rfl ?_
    refine r_get rfl (en_get (b := false) (k := 0) (L := 11) ⟨rfl, by decide⟩ rfl) (fo_get (S := S4) rfl) ?_
    refine r_get rfl (en_get (b := false) (k := 2) (L := 8) ⟨rfl, by decide⟩ rfl) (fo_get (S := S4) rfl) ?_
    refine r_pure rfl rfl ?_
    exact r_retI rfl rfl
set_option maxRecDepth 100000 in
theorem rf_X7_text {d : Nat} (hd : 10 ≤ d) {O : HS} (S : HS) : Lm (oIW false O) (s_X7_text S) (CF d 71 [.ref 0] (en false O S)) := by
  unfold s_X7_text
  obtain ⟨e, rfl⟩ : ∃ e, d = e + 1 := ⟨d - 1, by omega⟩
  refine rm_of (lv := [some (.ref 0), none, none]) (k_X7_text false) (by omega) rfl rfl (Nat.le_of_ble_eq_true rfl) ?_
  refine lm_le (n := 44) (by omega) ?_
  show Lm _ _ (run (CF e) _ _ _ _ _ _)
  refine r_pure rfl rfl ?_
  refine r_get rfl (en_get (b := false) (k := 0) (L := 11) ⟨rfl, by decide⟩ rfl) (fo_get (S := S) rfl) ?_
  refine r_pure rfl rfl ?_
  refine r_get rfl (en_get (b := false) (k := 0) (L := 11) ⟨rfl, by decide⟩ rfl) (fo_get (S := S) rfl) ?_
  refine r_pure rfl rfl ?_
  refine r_get rfl (en_get (b := false) (k := 0) (L := 11) ⟨rfl, by decide⟩ rfl) (fo_get (S := S) rfl) ?_
  refine r_pure rfl rfl ?_
  refine r_getT rfl ⟨rfl, by decide⟩ rfl rfl (fun t1 ht1 => ?_)
  refine r_callV_IW rfl rfl (en_get (b := false) (k := 2) (L := 8) ⟨rfl, by decide⟩ rfl) (Nat.le_of_ble_eq_true rfl) (rf_X4_reads (by omega) t1 ht1 (gf S 0 1) S) (fun q2 => ?_)
  refine r_pure (lv' := [some (.ref 0), some (.int q2.1), none]) rfl rfl ?_
  refine r_pure rfl rfl ?_
  refine r_pure rfl rfl ?_
  refine r_putI rfl ⟨rfl, by decide⟩ rfl rfl rfl (fun S3 => ?_)
  refine r_pure rfl rfl ?_
  refine r_pure rfl rfl ?_
  refine r_if1 rfl rfl ?_ ?_
  · refine r_pure rfl rfl ?_
    refine r_get rfl (en_get (b := false) (k := 0) (L := 11) ⟨rfl, by decide⟩ rfl) (fo_get (S := S3) rfl) ?_
    refine r_get rfl (en_get (b := false) (k := 2) (L := 8) ⟨rfl, by decide⟩ rfl) (fo_get (S := S3) rfl) ?_
    exact lm_le (by omega) (rj_X7_text_J41 (n := 0) (by omega) q2.1 (gf S3 2 9) S3 _)
  · refine r_pure rfl rfl ?_
    refine r_pure rfl rfl ?_
    exact lm_le (by omega) (rj_X7_text_J41 (n := 0) (by omega) q2.1 (0 : Int32) S3 _)
/-! X7_fault -/
def s_X7_fault (S : HS) : Option Int32 :=
  some (gf S 0 2)
set_option maxRecDepth 100000 in
theorem rf_X7_fault {d : Nat} (hd : 1 ≤ d) {O : HS} (S : HS) : Lm (oI (en false O S)) (s_X7_fault S) (CF d 72 [.ref 0] (en false O S)) := by
  unfold s_X7_fault
  obtain ⟨e, rfl⟩ : ∃ e, d = e + 1 := ⟨d - 1, by omega⟩
  refine rm_of (lv := [some (.ref 0)]) (k_X7_fault false) (by omega) rfl rfl (Nat.le_of_ble_eq_true rfl) ?_
  refine lm_le (n := 3) (by omega) ?_
  show Lm _ _ (run (CF e) _ _ _ _ _ _)
  refine r_pure rfl rfl ?_
  refine r_get rfl (en_get (b := false) (k := 0) (L := 11) ⟨rfl, by decide⟩ rfl) (fo_get (S := S) rfl) ?_
  exact r_retI rfl rfl
/-! J13_bitCount_95d88 -/
def s_J13_bitCount_95d88 (v0 : Int64) : Option Int32 :=
  Option.bind (some (v0 - (((v0.toUInt64 >>> ((1 : Int32).toInt64.toUInt64 &&& Int64.toUInt64 63)).toInt64) &&& (6148914691236517205 : Int64)))) fun w1 =>
  Option.bind (some ((w1 &&& (3689348814741910323 : Int64)) + (((w1.toUInt64 >>> ((2 : Int32).toInt64.toUInt64 &&& Int64.toUInt64 63)).toInt64) &&& (3689348814741910323 : Int64)))) fun w2 =>
  Option.bind (some ((w2 + ((w2.toUInt64 >>> ((4 : Int32).toInt64.toUInt64 &&& Int64.toUInt64 63)).toInt64)) &&& (1085102592571150095 : Int64))) fun w3 =>
  Option.bind (some (w3 + ((w3.toUInt64 >>> ((8 : Int32).toInt64.toUInt64 &&& Int64.toUInt64 63)).toInt64))) fun w4 =>
  Option.bind (some (w4 + ((w4.toUInt64 >>> ((16 : Int32).toInt64.toUInt64 &&& Int64.toUInt64 63)).toInt64))) fun w5 =>
  Option.bind (some (w5 + ((w5.toUInt64 >>> ((32 : Int32).toInt64.toUInt64 &&& Int64.toUInt64 63)).toInt64))) fun w6 =>
  some (w6.toInt32 &&& (127 : Int32))
set_option maxRecDepth 100000 in
theorem rf_J13_bitCount_95d88 {d : Nat} (hd : 1 ≤ d) {hh : List AC} (v0 : Int64) : Lm (oI hh) (s_J13_bitCount_95d88 v0) (CF d 166 [.long v0] hh) := by
  unfold s_J13_bitCount_95d88
  obtain ⟨e, rfl⟩ : ∃ e, d = e + 1 := ⟨d - 1, by omega⟩
  refine rm_of (lv := [some (.long v0), none]) (k_J13_bitCount_95d88 false) (by omega) rfl rfl (Nat.le_of_ble_eq_true rfl) ?_
  refine lm_le (n := 49) (by omega) ?_
  show Lm _ _ (run (CF e) _ _ _ _ _ _)
  refine r_pure rfl rfl ?_
  refine r_pure rfl rfl ?_
  refine r_pure rfl rfl ?_
  refine r_pure rfl rfl ?_
  refine r_pure rfl rfl ?_
  refine r_pure rfl rfl ?_
  refine r_pure rfl rfl ?_
  refine r_stoJ (lv' := fun w1 => [some (.long w1), none]) rfl (fun _ => rfl) (fun w1 => ?_)
  refine r_pure rfl rfl ?_
  refine r_pure rfl rfl ?_
  refine r_pure rfl rfl ?_
  refine r_pure rfl rfl ?_
  refine r_pure rfl rfl ?_
  refine r_pure rfl rfl ?_
  refine r_pure rfl rfl ?_
  refine r_pure rfl rfl ?_
  refine r_pure rfl rfl ?_
  refine r_stoJ (lv' := fun w2 => [some (.long w2), none]) rfl (fun _ => rfl) (fun w2 => ?_)
  refine r_pure rfl rfl ?_
  refine r_pure rfl rfl ?_
  refine r_pure rfl rfl ?_
  refine r_pure rfl rfl ?_
  refine r_pure rfl rfl ?_
  refine r_pure rfl rfl ?_
  refine r_pure rfl rfl ?_
  refine r_stoJ (lv' := fun w3 => [some (.long w3), none]) rfl (fun _ => rfl) (fun w3 => ?_)
  refine r_pure rfl rfl ?_
  refine r_pure rfl rfl ?_
  refine r_pure rfl rfl ?_
  refine r_pure rfl rfl ?_
  refine r_pure rfl rfl ?_
  refine r_stoJ (lv' := fun w4 => [some (.long w4), none]) rfl (fun _ => rfl) (fun w4 => ?_)
  refine r_pure rfl rfl ?_
  refine r_pure rfl rfl ?_
  refine r_pure rfl rfl ?_
  refine r_pure rfl rfl ?_
  refine r_pure rfl rfl ?_
  refine r_stoJ (lv' := fun w5 => [some (.long w5), none]) rfl (fun _ => rfl) (fun w5 => ?_)
  refine r_pure rfl rfl ?_
  refine r_pure rfl rfl ?_
  refine r_pure rfl rfl ?_
  refine r_pure rfl rfl ?_
  refine r_pure rfl rfl ?_
  refine r_stoJ (lv' := fun w6 => [some (.long w6), none]) rfl (fun _ => rfl) (fun w6 => ?_)
  refine r_pure rfl rfl ?_
  refine r_pure rfl rfl ?_
  refine r_pure rfl rfl ?_
  refine r_pure rfl rfl ?_
  exact r_retI rfl rfl
/-! X0_isIn -/
def s_X0_isIn (v0 : Int32) (v1 : Int32) : Option Int32 :=
  if ((v0 >>> (v1 &&& (31 : Int32))) &&& (1 : Int32)) = (0 : Int32) then
    some (0 : Int32)
  else
    some (1 : Int32)
set_option maxRecDepth 100000 in
theorem rf_X0_isIn {d : Nat} (hd : 1 ≤ d) {hh : List AC} (v0 : Int32) (v1 : Int32) : Lm (oI hh) (s_X0_isIn v0 v1) (CF d 12 [.int v0, .int v1] hh) := by
  unfold s_X0_isIn
  obtain ⟨e, rfl⟩ : ∃ e, d = e + 1 := ⟨d - 1, by omega⟩
  refine rm_of (lv := [some (.int v0), some (.int v1)]) (k_X0_isIn false) (by omega) rfl rfl (Nat.le_of_ble_eq_true rfl) ?_
  refine lm_le (n := 9) (by omega) ?_
  show Lm _ _ (run (CF e) _ _ _ _ _ _)
  refine r_pure rfl rfl ?_
  refine r_pure rfl rfl ?_
  refine r_pure rfl rfl ?_
  refine r_pure rfl rfl ?_
  refine r_pure rfl rfl ?_
  refine r_if1 rfl rfl ?_ ?_
  · refine r_pure rfl rfl ?_
    exact r_retZ rfl (Or.inl rfl) rfl
  · refine r_pure rfl rfl ?_
    refine r_pure rfl rfl ?_
    exact r_retZ rfl (Or.inr rfl) rfl
/-! X0_frontLoad -/
def s_X0_frontLoad_L20 (b : Nat) (t : Nat) (v2 : Int32) (v3 : Int32) (S : HS) : Nat → Int32 → Int32 → Option Int32
  | 0, _, _ => none
  | K + 1, v4, v5 =>
    if (gf S t 1) ≤ v5 then
      some v4
    else
      Option.bind (s_X0_isIn v2 v5) fun q3 =>
      if q3 = (0 : Int32) then
        Option.bind (ag (ga S (b + 4)) v5) fun a4 =>
        Option.bind (ag (ga S (t + 3)) v5) fun a5 =>
        s_X0_frontLoad_L20 b t v2 v3 S K (v4 + (a4 * (v3 - a5))) (v5 + (1 : Int32))
      else
        s_X0_frontLoad_L20 b t v2 v3 S K (v4 + (0 : Int32)) (v5 + (1 : Int32))
def s_X0_frontLoad (b : Nat) (t : Nat) (v2 : Int32) (S : HS) : Option Int32 :=
  Option.bind (ag (ga S (t + 1)) (0 : Int32)) fun a1 =>
  Option.bind (ag (ga S (t + 1)) (1 : Int32)) fun a2 =>
  s_X0_frontLoad_L20 b t v2 a1 S 40 (a2 * a1) (0 : Int32)
set_option maxRecDepth 100000 in
theorem rl_X0_frontLoad_L20 {e : Nat} (he : 1 ≤ e) {O : HS} (b : Nat) (t : Nat) (hb : isC b) (ht : isT t) (v2 : Int32) (v3 : Int32) (S : HS) {n : Nat} : ∀ (K : Nat) (v4 : Int32) (v5 : Int32), Lm (oI (en false O S)) (s_X0_frontLoad_L20 b t v2 v3 S K v4 v5) (run (CF e) (k_X0_frontLoad false) (n + (24 * K + 0)) 20 [some (.ref b), some (.ref t), some (.int v2), some (.int v3), some (.int v4), some (.int v5)] [] (en false O S)) := by
  intro K
  induction K with
  | zero =>
    intros
    exact lm_none
  | succ K ih =>
    intro v4 v5
    rw [show n + (24 * (K + 1) + 0) = n + (24 * K + 0) + 24 by omega]
    rw [s_X0_frontLoad_L20]
    refine r_pure rfl rfl ?_
    refine r_pure rfl rfl ?_
    refine r_get rfl (en_get (b := false) (k := t) (L := 10) (zT0 ht) (lT0 ht)) (fo_get (S := S) rfl) ?_
    refine r_if2 rfl rfl ?_ ?_
    · refine r_pure rfl rfl ?_
      exact r_retI rfl rfl
    · refine r_pure rfl rfl ?_
      refine r_pure rfl rfl ?_
      refine r_pure rfl rfl ?_
      refine r_callS_I rfl (Nat.le_of_ble_eq_true rfl) (Nat.le_of_ble_eq_true rfl) (rf_X0_isIn (by omega) v2 v5) (fun q3 => ?_)
      refine r_if1 rfl rfl ?_ ?_
      · refine r_pure rfl rfl ?_
        refine r_get rfl (en_get (b := false) (k := b) (L := 4) (zC0 hb) (lC0 hb)) (fo_get (S := S) rfl) ?_
        refine r_pure rfl rfl ?_
        refine r_iald rfl (en_get (b := false) (k := (b + 4)) (L := 0) (zC4 hb) (lC4 hb)) (fun a4 => ?_)
        refine r_pure rfl rfl ?_
        refine r_pure rfl rfl ?_
        refine r_get rfl (en_get (b := false) (k := t) (L := 10) (zT0 ht) (lT0 ht)) (fo_get (S := S) rfl) ?_
        refine r_pure rfl rfl ?_
        refine r_iald rfl (en_get (b := false) (k := (t + 3)) (L := 0) (zT3 ht) (lT3 ht)) (fun a5 => ?_)
        refine r_pure rfl rfl ?_
        refine r_pure rfl rfl ?_
        refine r_pure rfl rfl ?_
        refine r_pure (lv' := [some (.ref b), some (.ref t), some (.int v2), some (.int v3), some (.int (v4 + (a4 * (v3 - a5)))), some (.int v5)]) rfl rfl ?_
        refine r_pure (lv' := [some (.ref b), some (.ref t), some (.int v2), some (.int v3), some (.int (v4 + (a4 * (v3 - a5)))), some (.int (v5 + (1 : Int32)))]) rfl rfl ?_
        refine r_pure rfl rfl ?_
        exact lm_le (by omega) (ih (v4 + (a4 * (v3 - a5))) (v5 + (1 : Int32)))
      · refine r_pure rfl rfl ?_
        refine r_pure rfl rfl ?_
        refine r_pure rfl rfl ?_
        refine r_pure (lv' := [some (.ref b), some (.ref t), some (.int v2), some (.int v3), some (.int (v4 + (0 : Int32))), some (.int v5)]) rfl rfl ?_
        refine r_pure (lv' := [some (.ref b), some (.ref t), some (.int v2), some (.int v3), some (.int (v4 + (0 : Int32))), some (.int (v5 + (1 : Int32)))]) rfl rfl ?_
        refine r_pure rfl rfl ?_
        exact lm_le (by omega) (ih (v4 + (0 : Int32)) (v5 + (1 : Int32)))
set_option maxRecDepth 100000 in
theorem rf_X0_frontLoad {d : Nat} (hd : 2 ≤ d) {O : HS} (b : Nat) (t : Nat) (hb : isC b) (ht : isT t) (v2 : Int32) (S : HS) : Lm (oI (en false O S)) (s_X0_frontLoad b t v2 S) (CF d 9 [.ref b, .ref t, .int v2] (en false O S)) := by
  unfold s_X0_frontLoad
  obtain ⟨e, rfl⟩ : ∃ e, d = e + 1 := ⟨d - 1, by omega⟩
  refine rm_of (lv := [some (.ref b), some (.ref t), some (.int v2), none, none, none]) (k_X0_frontLoad false) (by omega) rfl rfl (Nat.le_of_ble_eq_true rfl) ?_
  refine lm_le (n := 974) (by omega) ?_
  show Lm _ _ (run (CF e) _ _ _ _ _ _)
  refine r_pure rfl rfl ?_
  refine r_get rfl (en_get (b := false) (k := t) (L := 10) (zT0 ht) (lT0 ht)) (fo_get (S := S) rfl) ?_
  refine r_pure rfl rfl ?_
  refine r_iald rfl (en_get (b := false) (k := (t + 1)) (L := 0) (zT1 ht) (lT1 ht)) (fun a1 => ?_)
  refine r_pure (lv' := [some (.ref b), some (.ref t), some (.int v2), some (.int a1), none, none]) rfl rfl ?_
  refine r_pure rfl rfl ?_
  refine r_get rfl (en_get (b := false) (k := t) (L := 10) (zT0 ht) (lT0 ht)) (fo_get (S := S) rfl) ?_
  refine r_pure rfl rfl ?_
  refine r_iald rfl (en_get (b := false) (k := (t + 1)) (L := 0) (zT1 ht) (lT1 ht)) (fun a2 => ?_)
  refine r_pure rfl rfl ?_
  refine r_pure rfl rfl ?_
  refine r_pure (lv' := [some (.ref b), some (.ref t), some (.int v2), some (.int a1), some (.int (a2 * a1)), none]) rfl rfl ?_
  refine r_pure rfl rfl ?_
  refine r_pure (lv' := [some (.ref b), some (.ref t), some (.int v2), some (.int a1), some (.int (a2 * a1)), some (.int (0 : Int32))]) rfl rfl ?_
  exact lm_le (by omega) (rl_X0_frontLoad_L20 (n := 0) (by omega) b t hb ht v2 a1 S 40 (a2 * a1) (0 : Int32))
/-! X0_rearLoad -/
def s_X0_rearLoad_L17 (b : Nat) (t : Nat) (v2 : Int32) (S : HS) : Nat → Int32 → Int32 → Option Int32
  | 0, _, _ => none
  | K + 1, v3, v4 =>
    if (gf S t 1) ≤ v4 then
      some v3
    else
      Option.bind (s_X0_isIn v2 v4) fun q3 =>
      if q3 = (0 : Int32) then
        Option.bind (ag (ga S (b + 4)) v4) fun a4 =>
        Option.bind (ag (ga S (t + 3)) v4) fun a5 =>
        s_X0_rearLoad_L17 b t v2 S K (v3 + (a4 * a5)) (v4 + (1 : Int32))
      else
        s_X0_rearLoad_L17 b t v2 S K (v3 + (0 : Int32)) (v4 + (1 : Int32))
def s_X0_rearLoad (b : Nat) (t : Nat) (v2 : Int32) (S : HS) : Option Int32 :=
  Option.bind (ag (ga S (t + 1)) (2 : Int32)) fun a1 =>
  Option.bind (ag (ga S (t + 1)) (0 : Int32)) fun a2 =>
  s_X0_rearLoad_L17 b t v2 S 40 (a1 * a2) (0 : Int32)
set_option maxRecDepth 100000 in
theorem rl_X0_rearLoad_L17 {e : Nat} (he : 1 ≤ e) {O : HS} (b : Nat) (t : Nat) (hb : isC b) (ht : isT t) (v2 : Int32) (S : HS) {n : Nat} : ∀ (K : Nat) (v3 : Int32) (v4 : Int32), Lm (oI (en false O S)) (s_X0_rearLoad_L17 b t v2 S K v3 v4) (run (CF e) (k_X0_rearLoad false) (n + (22 * K + 0)) 17 [some (.ref b), some (.ref t), some (.int v2), some (.int v3), some (.int v4)] [] (en false O S)) := by
  intro K
  induction K with
  | zero =>
    intros
    exact lm_none
  | succ K ih =>
    intro v3 v4
    rw [show n + (22 * (K + 1) + 0) = n + (22 * K + 0) + 22 by omega]
    rw [s_X0_rearLoad_L17]
    refine r_pure rfl rfl ?_
    refine r_pure rfl rfl ?_
    refine r_get rfl (en_get (b := false) (k := t) (L := 10) (zT0 ht) (lT0 ht)) (fo_get (S := S) rfl) ?_
    refine r_if2 rfl rfl ?_ ?_
    · refine r_pure rfl rfl ?_
      exact r_retI rfl rfl
    · refine r_pure rfl rfl ?_
      refine r_pure rfl rfl ?_
      refine r_pure rfl rfl ?_
      refine r_callS_I rfl (Nat.le_of_ble_eq_true rfl) (Nat.le_of_ble_eq_true rfl) (rf_X0_isIn (by omega) v2 v4) (fun q3 => ?_)
      refine r_if1 rfl rfl ?_ ?_
      · refine r_pure rfl rfl ?_
        refine r_get rfl (en_get (b := false) (k := b) (L := 4) (zC0 hb) (lC0 hb)) (fo_get (S := S) rfl) ?_
        refine r_pure rfl rfl ?_
        refine r_iald rfl (en_get (b := false) (k := (b + 4)) (L := 0) (zC4 hb) (lC4 hb)) (fun a4 => ?_)
        refine r_pure rfl rfl ?_
        refine r_get rfl (en_get (b := false) (k := t) (L := 10) (zT0 ht) (lT0 ht)) (fo_get (S := S) rfl) ?_
        refine r_pure rfl rfl ?_
        refine r_iald rfl (en_get (b := false) (k := (t + 3)) (L := 0) (zT3 ht) (lT3 ht)) (fun a5 => ?_)
        refine r_pure rfl rfl ?_
        refine r_pure rfl rfl ?_
        refine r_pure (lv' := [some (.ref b), some (.ref t), some (.int v2), some (.int (v3 + (a4 * a5))), some (.int v4)]) rfl rfl ?_
        refine r_pure (lv' := [some (.ref b), some (.ref t), some (.int v2), some (.int (v3 + (a4 * a5))), some (.int (v4 + (1 : Int32)))]) rfl rfl ?_
        refine r_pure rfl rfl ?_
        exact lm_le (by omega) (ih (v3 + (a4 * a5)) (v4 + (1 : Int32)))
      · refine r_pure rfl rfl ?_
        refine r_pure rfl rfl ?_
        refine r_pure rfl rfl ?_
        refine r_pure (lv' := [some (.ref b), some (.ref t), some (.int v2), some (.int (v3 + (0 : Int32))), some (.int v4)]) rfl rfl ?_
        refine r_pure (lv' := [some (.ref b), some (.ref t), some (.int v2), some (.int (v3 + (0 : Int32))), some (.int (v4 + (1 : Int32)))]) rfl rfl ?_
        refine r_pure rfl rfl ?_
        exact lm_le (by omega) (ih (v3 + (0 : Int32)) (v4 + (1 : Int32)))
set_option maxRecDepth 100000 in
theorem rf_X0_rearLoad {d : Nat} (hd : 2 ≤ d) {O : HS} (b : Nat) (t : Nat) (hb : isC b) (ht : isT t) (v2 : Int32) (S : HS) : Lm (oI (en false O S)) (s_X0_rearLoad b t v2 S) (CF d 10 [.ref b, .ref t, .int v2] (en false O S)) := by
  unfold s_X0_rearLoad
  obtain ⟨e, rfl⟩ : ∃ e, d = e + 1 := ⟨d - 1, by omega⟩
  refine rm_of (lv := [some (.ref b), some (.ref t), some (.int v2), none, none]) (k_X0_rearLoad false) (by omega) rfl rfl (Nat.le_of_ble_eq_true rfl) ?_
  refine lm_le (n := 892) (by omega) ?_
  show Lm _ _ (run (CF e) _ _ _ _ _ _)
  refine r_pure rfl rfl ?_
  refine r_get rfl (en_get (b := false) (k := t) (L := 10) (zT0 ht) (lT0 ht)) (fo_get (S := S) rfl) ?_
  refine r_pure rfl rfl ?_
  refine r_iald rfl (en_get (b := false) (k := (t + 1)) (L := 0) (zT1 ht) (lT1 ht)) (fun a1 => ?_)
  refine r_pure rfl rfl ?_
  refine r_get rfl (en_get (b := false) (k := t) (L := 10) (zT0 ht) (lT0 ht)) (fo_get (S := S) rfl) ?_
  refine r_pure rfl rfl ?_
  refine r_iald rfl (en_get (b := false) (k := (t + 1)) (L := 0) (zT1 ht) (lT1 ht)) (fun a2 => ?_)
  refine r_pure rfl rfl ?_
  refine r_pure (lv' := [some (.ref b), some (.ref t), some (.int v2), some (.int (a1 * a2)), none]) rfl rfl ?_
  refine r_pure rfl rfl ?_
  refine r_pure (lv' := [some (.ref b), some (.ref t), some (.int v2), some (.int (a1 * a2)), some (.int (0 : Int32))]) rfl rfl ?_
  exact lm_le (by omega) (rl_X0_rearLoad_L17 (n := 0) (by omega) b t hb ht v2 S 40 (a1 * a2) (0 : Int32))
/-! X0_surges -/
def s_X0_surges_L2 (b : Nat) (t : Nat) (v2 : Int32) (S : HS) : Nat → Int32 → Option Int32
  | 0, _ => none
  | K + 1, v3 =>
    if (gf S t 1) ≤ v3 then
      some (0 : Int32)
    else
      Option.bind (ag (ga S (b + 1)) v3) fun a1 =>
      Option.bind (ag (ga S (t + 4)) v3) fun a2 =>
      if a2 ≠ (1 : Int32) then
        s_X0_surges_L2 b t v2 S K (v3 + (1 : Int32))
      else
        Option.bind (ag (ga S (b + 1)) v3) fun a3 =>
        if a3 ≤ (0 : Int32) then
          s_X0_surges_L2 b t v2 S K (v3 + (1 : Int32))
        else
          Option.bind (s_X0_isIn v2 v3) fun q4 =>
          if q4 ≠ (0 : Int32) then
            s_X0_surges_L2 b t v2 S K (v3 + (1 : Int32))
          else
            Option.bind (ag (ga S (t + 1)) (7 : Int32)) fun a5 =>
            Option.bind (ag (ga S (t + 2)) v3) fun a6 =>
            if (a1 * (100 : Int32)) ≤ (a5 * a6) then
              s_X0_surges_L2 b t v2 S K (v3 + (1 : Int32))
            else
              Option.bind (ag (ga S (t + 1)) (8 : Int32)) fun a7 =>
              Option.bind (ag (ga S (t + 2)) v3) fun a8 =>
              if (a7 * a8) ≤ (a1 * (100 : Int32)) then
                s_X0_surges_L2 b t v2 S K (v3 + (1 : Int32))
              else
                some (1 : Int32)
def s_X0_surges (b : Nat) (t : Nat) (v2 : Int32) (S : HS) : Option Int32 :=
  s_X0_surges_L2 b t v2 S 40 (0 : Int32)
set_option maxRecDepth 100000 in
theorem rl_X0_surges_L2 {e : Nat} (he : 1 ≤ e) {O : HS} (b : Nat) (t : Nat) (hb : isC b) (ht : isT t) (v2 : Int32) (S : HS) {n : Nat} : ∀ (K : Nat) (v3 : Int32) (j4 : Option Value), Lm (oI (en false O S)) (s_X0_surges_L2 b t v2 S K v3) (run (CF e) (k_X0_surges false) (n + (50 * K + 0)) 2 [some (.ref b), some (.ref t), some (.int v2), some (.int v3), j4] [] (en false O S)) := by
  intro K
  induction K with
  | zero =>
    intros
    exact lm_none
  | succ K ih =>
    intro v3 j4
    rw [show n + (50 * (K + 1) + 0) = n + (50 * K + 0) + 50 by omega]
    rw [s_X0_surges_L2]
    refine r_pure rfl rfl ?_
    refine r_pure rfl rfl ?_
    refine r_get rfl (en_get (b := false) (k := t) (L := 10) (zT0 ht) (lT0 ht)) (fo_get (S := S) rfl) ?_
    refine r_if2 rfl rfl ?_ ?_
    · refine r_pure rfl rfl ?_
      exact r_retZ rfl (Or.inl rfl) rfl
    · refine r_pure rfl rfl ?_
      refine r_get rfl (en_get (b := false) (k := b) (L := 4) (zC0 hb) (lC0 hb)) (fo_get (S := S) rfl) ?_
      refine r_pure rfl rfl ?_
      refine r_iald rfl (en_get (b := false) (k := (b + 1)) (L := 0) (zC1 hb) (lC1 hb)) (fun a1 => ?_)
      refine r_pure rfl rfl ?_
      refine r_pure rfl rfl ?_
      refine r_pure (lv' := [some (.ref b), some (.ref t), some (.int v2), some (.int v3), some (.int (a1 * (100 : Int32)))]) rfl rfl ?_
      refine r_pure rfl rfl ?_
      refine r_get rfl (en_get (b := false) (k := t) (L := 10) (zT0 ht) (lT0 ht)) (fo_get (S := S) rfl) ?_
      refine r_pure rfl rfl ?_
      refine r_iald rfl (en_get (b := false) (k := (t + 4)) (L := 0) (zT4 ht) (lT4 ht)) (fun a2 => ?_)
      refine r_pure rfl rfl ?_
      refine r_if2 rfl rfl ?_ ?_
      · refine r_pure (lv' := [some (.ref b), some (.ref t), some (.int v2), some (.int (v3 + (1 : Int32))), some (.int (a1 * (100 : Int32)))]) rfl rfl ?_
        refine r_pure rfl rfl ?_
        exact lm_le (by omega) (ih (v3 + (1 : Int32)) _)
      · refine r_pure rfl rfl ?_
        refine r_get rfl (en_get (b := false) (k := b) (L := 4) (zC0 hb) (lC0 hb)) (fo_get (S := S) rfl) ?_
        refine r_pure rfl rfl ?_
        refine r_iald rfl (en_get (b := false) (k := (b + 1)) (L := 0) (zC1 hb) (lC1 hb)) (fun a3 => ?_)
        refine r_if1 rfl rfl ?_ ?_
        · refine r_pure (lv' := [some (.ref b), some (.ref t), some (.int v2), some (.int (v3 + (1 : Int32))), some (.int (a1 * (100 : Int32)))]) rfl rfl ?_
          refine r_pure rfl rfl ?_
          exact lm_le (by omega) (ih (v3 + (1 : Int32)) _)
        · refine r_pure rfl rfl ?_
          refine r_pure rfl rfl ?_
          refine r_callS_I rfl (Nat.le_of_ble_eq_true rfl) (Nat.le_of_ble_eq_true rfl) (rf_X0_isIn (by omega) v2 v3) (fun q4 => ?_)
          refine r_if1 rfl rfl ?_ ?_
          · refine r_pure (lv' := [some (.ref b), some (.ref t), some (.int v2), some (.int (v3 + (1 : Int32))), some (.int (a1 * (100 : Int32)))]) rfl rfl ?_
            refine r_pure rfl rfl ?_
            exact lm_le (by omega) (ih (v3 + (1 : Int32)) _)
          · refine r_pure rfl rfl ?_
            refine r_pure rfl rfl ?_
            refine r_get rfl (en_get (b := false) (k := t) (L := 10) (zT0 ht) (lT0 ht)) (fo_get (S := S) rfl) ?_
            refine r_pure rfl rfl ?_
            refine r_iald rfl (en_get (b := false) (k := (t + 1)) (L := 0) (zT1 ht) (lT1 ht)) (fun a5 => ?_)
            refine r_pure rfl rfl ?_
            refine r_get rfl (en_get (b := false) (k := t) (L := 10) (zT0 ht) (lT0 ht)) (fo_get (S := S) rfl) ?_
            refine r_pure rfl rfl ?_
            refine r_iald rfl (en_get (b := false) (k := (t + 2)) (L := 0) (zT2 ht) (lT2 ht)) (fun a6 => ?_)
            refine r_pure rfl rfl ?_
            refine r_if2 rfl rfl ?_ ?_
            · refine r_pure (lv' := [some (.ref b), some (.ref t), some (.int v2), some (.int (v3 + (1 : Int32))), some (.int (a1 * (100 : Int32)))]) rfl rfl ?_
              refine r_pure rfl rfl ?_
              exact lm_le (by omega) (ih (v3 + (1 : Int32)) _)
            · refine r_pure rfl rfl ?_
              refine r_pure rfl rfl ?_
              refine r_get rfl (en_get (b := false) (k := t) (L := 10) (zT0 ht) (lT0 ht)) (fo_get (S := S) rfl) ?_
              refine r_pure rfl rfl ?_
              refine r_iald rfl (en_get (b := false) (k := (t + 1)) (L := 0) (zT1 ht) (lT1 ht)) (fun a7 => ?_)
              refine r_pure rfl rfl ?_
              refine r_get rfl (en_get (b := false) (k := t) (L := 10) (zT0 ht) (lT0 ht)) (fo_get (S := S) rfl) ?_
              refine r_pure rfl rfl ?_
              refine r_iald rfl (en_get (b := false) (k := (t + 2)) (L := 0) (zT2 ht) (lT2 ht)) (fun a8 => ?_)
              refine r_pure rfl rfl ?_
              refine r_if2 rfl rfl ?_ ?_
              · refine r_pure (lv' := [some (.ref b), some (.ref t), some (.int v2), some (.int (v3 + (1 : Int32))), some (.int (a1 * (100 : Int32)))]) rfl rfl ?_
                refine r_pure rfl rfl ?_
                exact lm_le (by omega) (ih (v3 + (1 : Int32)) _)
              · refine r_pure rfl rfl ?_
                exact r_retZ rfl (Or.inr rfl) rfl
set_option maxRecDepth 100000 in
theorem rf_X0_surges {d : Nat} (hd : 2 ≤ d) {O : HS} (b : Nat) (t : Nat) (hb : isC b) (ht : isT t) (v2 : Int32) (S : HS) : Lm (oI (en false O S)) (s_X0_surges b t v2 S) (CF d 11 [.ref b, .ref t, .int v2] (en false O S)) := by
  unfold s_X0_surges
  obtain ⟨e, rfl⟩ : ∃ e, d = e + 1 := ⟨d - 1, by omega⟩
  refine rm_of (lv := [some (.ref b), some (.ref t), some (.int v2), none, none]) (k_X0_surges false) (by omega) rfl rfl (Nat.le_of_ble_eq_true rfl) ?_
  refine lm_le (n := 2002) (by omega) ?_
  show Lm _ _ (run (CF e) _ _ _ _ _ _)
  refine r_pure rfl rfl ?_
  refine r_pure (lv' := [some (.ref b), some (.ref t), some (.int v2), some (.int (0 : Int32)), none]) rfl rfl ?_
  exact lm_le (by omega) (rl_X0_surges_L2 (n := 0) (by omega) b t hb ht v2 S 40 (0 : Int32) _)
/-! X0_standing -/
def s_X0_standing (b : Nat) (t : Nat) (v2 : Int32) (S : HS) : Option Int32 :=
  Option.bind (s_X0_surges b t v2 S) fun q1 =>
  if q1 = (0 : Int32) then
    Option.bind (ag (ga S (t + 1)) (0 : Int32)) fun a2 =>
    Option.bind (s_X0_frontLoad b t v2 S) fun q3 =>
    Option.bind (ag (ga S (t + 1)) (4 : Int32)) fun a4 =>
    if q3 ≤ (a4 * a2) then
      Option.bind (ag (ga S (t + 1)) (3 : Int32)) fun a5 =>
      if (a5 * a2) ≤ q3 then
        Option.bind (s_X0_rearLoad b t v2 S) fun q6 =>
        Option.bind (ag (ga S (t + 1)) (5 : Int32)) fun a7 =>
        if q6 ≤ (a7 * a2) then
          some (0 : Int32)
        else
          some (4 : Int32)
      else
        some (3 : Int32)
    else
      some (2 : Int32)
  else
    some (1 : Int32)
set_option maxRecDepth 100000 in
theorem rf_X0_standing {d : Nat} (hd : 3 ≤ d) {O : HS} (b : Nat) (t : Nat) (hb : isC b) (ht : isT t) (v2 : Int32) (S : HS) : Lm (oI (en false O S)) (s_X0_standing b t v2 S) (CF d 8 [.ref b, .ref t, .int v2] (en false O S)) := by
  unfold s_X0_standing
  obtain ⟨e, rfl⟩ : ∃ e, d = e + 1 := ⟨d - 1, by omega⟩
  refine rm_of (lv := [some (.ref b), some (.ref t), some (.int v2), none, none]) (k_X0_standing false) (by omega) rfl rfl (Nat.le_of_ble_eq_true rfl) ?_
  refine lm_le (n := 45) (by omega) ?_
  show Lm _ _ (run (CF e) _ _ _ _ _ _)
  refine r_pure rfl rfl ?_
  refine r_pure rfl rfl ?_
  refine r_pure rfl rfl ?_
  refine r_callV_I rfl rfl (en_get (b := false) (k := b) (L := 4) (zC0 hb) (lC0 hb)) (Nat.le_of_ble_eq_true rfl) (rf_X0_surges (by omega) b t hb ht v2 S) (fun q1 => ?_)
  refine r_if1 rfl rfl ?_ ?_
  · refine r_pure rfl rfl ?_
    refine r_get rfl (en_get (b := false) (k := t) (L := 10) (zT0 ht) (lT0 ht)) (fo_get (S := S) rfl) ?_
    refine r_pure rfl rfl ?_
    refine r_iald rfl (en_get (b := false) (k := (t + 1)) (L := 0) (zT1 ht) (lT1 ht)) (fun a2 => ?_)
    refine r_pure (lv' := [some (.ref b), some (.ref t), some (.int v2), some (.int a2), none]) rfl rfl ?_
    refine r_pure rfl rfl ?_
    refine r_pure rfl rfl ?_
    refine r_pure rfl rfl ?_
    refine r_callV_I rfl rfl (en_get (b := false) (k := b) (L := 4) (zC0 hb) (lC0 hb)) (Nat.le_of_ble_eq_true rfl) (rf_X0_frontLoad (by omega) b t hb ht v2 S) (fun q3 => ?_)
    refine r_pure (lv' := [some (.ref b), some (.ref t), some (.int v2), some (.int a2), some (.int q3)]) rfl rfl ?_
    refine r_pure rfl rfl ?_
    refine r_pure rfl rfl ?_
    refine r_get rfl (en_get (b := false) (k := t) (L := 10) (zT0 ht) (lT0 ht)) (fo_get (S := S) rfl) ?_
    refine r_pure rfl rfl ?_
    refine r_iald rfl (en_get (b := false) (k := (t + 1)) (L := 0) (zT1 ht) (lT1 ht)) (fun a4 => ?_)
    refine r_pure rfl rfl ?_
    refine r_pure rfl rfl ?_
    refine r_if2 rfl rfl ?_ ?_
    · refine r_pure rfl rfl ?_
      refine r_pure rfl rfl ?_
      refine r_get rfl (en_get (b := false) (k := t) (L := 10) (zT0 ht) (lT0 ht)) (fo_get (S := S) rfl) ?_
      refine r_pure rfl rfl ?_
      refine r_iald rfl (en_get (b := false) (k := (t + 1)) (L := 0) (zT1 ht) (lT1 ht)) (fun a5 => ?_)
      refine r_pure rfl rfl ?_
      refine r_pure rfl rfl ?_
      refine r_if2 rfl rfl ?_ ?_
      · refine r_pure rfl rfl ?_
        refine r_pure rfl rfl ?_
        refine r_pure rfl rfl ?_
        refine r_callV_I rfl rfl (en_get (b := false) (k := b) (L := 4) (zC0 hb) (lC0 hb)) (Nat.le_of_ble_eq_true rfl) (rf_X0_rearLoad (by omega) b t hb ht v2 S) (fun q6 => ?_)
        refine r_pure rfl rfl ?_
        refine r_get rfl (en_get (b := false) (k := t) (L := 10) (zT0 ht) (lT0 ht)) (fo_get (S := S) rfl) ?_
        refine r_pure rfl rfl ?_
        refine r_iald rfl (en_get (b := false) (k := (t + 1)) (L := 0) (zT1 ht) (lT1 ht)) (fun a7 => ?_)
        refine r_pure rfl rfl ?_
        refine r_pure rfl rfl ?_
        refine r_if2 rfl rfl ?_ ?_
        · refine r_pure rfl rfl ?_
          exact r_retI rfl rfl
        · refine r_pure rfl rfl ?_
          refine r_pure rfl rfl ?_
          exact r_retI rfl rfl
      · refine r_pure rfl rfl ?_
        exact r_retI rfl rfl
    · refine r_pure rfl rfl ?_
      exact r_retI rfl rfl
  · refine r_pure rfl rfl ?_
    exact r_retI rfl rfl
/-! X7_now -/
def s_X7_now (v1 : Int32) (S : HS) : Option Int32 :=
  if v1 = (0 : Int32) then
    Option.bind (tl (gr S 0 4)) fun t1 =>
    some (gf S t1 1)
  else if v1 = (1 : Int32) then
    Option.bind (tl (gr S 0 4)) fun t2 =>
    some (gf S t2 6)
  else if v1 = (2 : Int32) then
    some (gf S 22 1)
  else if v1 = (3 : Int32) then
    Option.bind (tl (gr S 0 4)) fun t3 =>
    Option.bind (s_J13_bitCount_95d88 (gl S t3)) fun q4 =>
    some q4
  else if v1 = (4 : Int32) then
    Option.bind (tl (gr S 0 4)) fun t5 =>
    Option.bind (s_X0_frontLoad 23 t5 (0 : Int32) S) fun q6 =>
    some q6
  else if v1 = (5 : Int32) then
    Option.bind (tl (gr S 0 4)) fun t7 =>
    Option.bind (s_X0_rearLoad 23 t7 (0 : Int32) S) fun q8 =>
    some q8
  else if v1 = (6 : Int32) then
    Option.bind (tl (gr S 0 4)) fun t9 =>
    Option.bind (s_X0_standing 23 t9 (0 : Int32) S) fun q10 =>
    some q10
  else if v1 = (7 : Int32) then
    some (gf S 22 4)
  else if v1 = (8 : Int32) then
    some (gf S 30 2)
  else if v1 = (9 : Int32) then
    some (gf S 0 1)
  else 
    some (-100000000 : Int32)
set_option maxRecDepth 100000 in
theorem rf_X7_now {d : Nat} (hd : 4 ≤ d) {O : HS} (v1 : Int32) (S : HS) : Lm (oI (en false O S)) (s_X7_now v1 S) (CF d 73 [.ref 0, .int v1] (en false O S)) := by
  unfold s_X7_now
  obtain ⟨e, rfl⟩ : ∃ e, d = e + 1 := ⟨d - 1, by omega⟩
  refine rm_of (lv := [some (.ref 0), some (.int v1)]) (k_X7_now false) (by omega) rfl rfl (Nat.le_of_ble_eq_true rfl) ?_
  refine lm_le (n := 10) (by omega) ?_
  show Lm _ _ (run (CF e) _ _ _ _ _ _)
  refine r_pure rfl rfl ?_
  refine r_sw rfl ?_
  refine sw_one (t := 56) (by decide) ?_ (fun hx0 => ?_)
  · refine r_pure rfl rfl ?_
    refine r_getT rfl ⟨rfl, by decide⟩ rfl rfl (fun t1 ht1 => ?_)
    refine r_get rfl (en_get (b := false) (k := t1) (L := 10) (zT0 ht1) (lT0 ht1)) (fo_get (S := S) rfl) ?_
    exact r_retI rfl rfl
  refine sw_one (t := 64) (by decide) ?_ (fun hx1 => ?_)
  · refine r_pure rfl rfl ?_
    refine r_getT rfl ⟨rfl, by decide⟩ rfl rfl (fun t2 ht2 => ?_)
    refine r_get rfl (en_get (b := false) (k := t2) (L := 10) (zT0 ht2) (lT0 ht2)) (fo_get (S := S) rfl) ?_
    exact r_retI rfl rfl
  refine sw_one (t := 72) (by decide) ?_ (fun hx2 => ?_)
  · refine r_pure rfl rfl ?_
    refine r_get rfl (en_get (b := false) (k := 0) (L := 11) ⟨rfl, by decide⟩ rfl) (fo_get (S := S) rfl) ?_
    refine r_get rfl (en_get (b := false) (k := 22) (L := 9) ⟨rfl, by decide⟩ rfl) (fo_get (S := S) rfl) ?_
    exact r_retI rfl rfl
  refine sw_one (t := 80) (by decide) ?_ (fun hx3 => ?_)
  · refine r_pure rfl rfl ?_
    refine r_getT rfl ⟨rfl, by decide⟩ rfl rfl (fun t3 ht3 => ?_)
    refine r_get rfl (en_get (b := false) (k := t3) (L := 10) (zT0 ht3) (lT0 ht3)) (fo_get (S := S) rfl) ?_
    refine r_callS_I rfl (Nat.le_of_ble_eq_true rfl) (Nat.le_of_ble_eq_true rfl) (rf_J13_bitCount_95d88 (by omega) (gl S t3)) (fun q4 => ?_)
    exact r_retI rfl rfl
  refine sw_one (t := 91) (by decide) ?_ (fun hx4 => ?_)
  · refine r_pure rfl rfl ?_
    refine r_get rfl (en_get (b := false) (k := 0) (L := 11) ⟨rfl, by decide⟩ rfl) (fo_get (S := S) rfl) ?_
    refine r_get rfl (en_get (b := false) (k := 22) (L := 9) ⟨rfl, by decide⟩ rfl) (fo_get (S := S) rfl) ?_
    refine r_pure rfl rfl ?_
    refine r_getT rfl ⟨rfl, by decide⟩ rfl rfl (fun t5 ht5 => ?_)
    refine r_pure rfl rfl ?_
    refine r_callV_I rfl rfl (en_get (b := false) (k := 23) (L := 4) ⟨rfl, by decide⟩ rfl) (Nat.le_of_ble_eq_true rfl) (rf_X0_frontLoad (by omega) 23 t5 mC23 ht5 (0 : Int32) S) (fun q6 => ?_)
    exact r_retI rfl rfl
  refine sw_one (t := 107) (by decide) ?_ (fun hx5 => ?_)
  · refine r_pure rfl rfl ?_
    refine r_get rfl (en_get (b := false) (k := 0) (L := 11) ⟨rfl, by decide⟩ rfl) (fo_get (S := S) rfl) ?_
    refine r_get rfl (en_get (b := false) (k := 22) (L := 9) ⟨rfl, by decide⟩ rfl) (fo_get (S := S) rfl) ?_
    refine r_pure rfl rfl ?_
    refine r_getT rfl ⟨rfl, by decide⟩ rfl rfl (fun t7 ht7 => ?_)
    refine r_pure rfl rfl ?_
    refine r_callV_I rfl rfl (en_get (b := false) (k := 23) (L := 4) ⟨rfl, by decide⟩ rfl) (Nat.le_of_ble_eq_true rfl) (rf_X0_rearLoad (by omega) 23 t7 mC23 ht7 (0 : Int32) S) (fun q8 => ?_)
    exact r_retI rfl rfl
  refine sw_one (t := 123) (by decide) ?_ (fun hx6 => ?_)
  · refine r_pure rfl rfl ?_
    refine r_get rfl (en_get (b := false) (k := 0) (L := 11) ⟨rfl, by decide⟩ rfl) (fo_get (S := S) rfl) ?_
    refine r_get rfl (en_get (b := false) (k := 22) (L := 9) ⟨rfl, by decide⟩ rfl) (fo_get (S := S) rfl) ?_
    refine r_pure rfl rfl ?_
    refine r_getT rfl ⟨rfl, by decide⟩ rfl rfl (fun t9 ht9 => ?_)
    refine r_pure rfl rfl ?_
    refine r_callV_I rfl rfl (en_get (b := false) (k := 23) (L := 4) ⟨rfl, by decide⟩ rfl) (Nat.le_of_ble_eq_true rfl) (rf_X0_standing (by omega) 23 t9 mC23 ht9 (0 : Int32) S) (fun q10 => ?_)
    exact r_retI rfl rfl
  refine sw_one (t := 139) (by decide) ?_ (fun hx7 => ?_)
  · refine r_pure rfl rfl ?_
    refine r_get rfl (en_get (b := false) (k := 0) (L := 11) ⟨rfl, by decide⟩ rfl) (fo_get (S := S) rfl) ?_
    refine r_get rfl (en_get (b := false) (k := 22) (L := 9) ⟨rfl, by decide⟩ rfl) (fo_get (S := S) rfl) ?_
    exact r_retI rfl rfl
  refine sw_one (t := 147) (by decide) ?_ (fun hx8 => ?_)
  · refine r_pure rfl rfl ?_
    refine r_get rfl (en_get (b := false) (k := 0) (L := 11) ⟨rfl, by decide⟩ rfl) (fo_get (S := S) rfl) ?_
    refine r_get rfl (en_get (b := false) (k := 30) (L := 5) ⟨rfl, by decide⟩ rfl) (fo_get (S := S) rfl) ?_
    exact r_retI rfl rfl
  refine sw_one (t := 155) (by decide) ?_ (fun hx9 => ?_)
  · refine r_pure rfl rfl ?_
    refine r_get rfl (en_get (b := false) (k := 0) (L := 11) ⟨rfl, by decide⟩ rfl) (fo_get (S := S) rfl) ?_
    exact r_retI rfl rfl
  refine sw_def (sw_out (m := 10) rfl (by decide) (fun k hk => (by
      match k, hk with
      | 0, _ => exact hx0
      | 1, _ => exact hx1
      | 2, _ => exact hx2
      | 3, _ => exact hx3
      | 4, _ => exact hx4
      | 5, _ => exact hx5
      | 6, _ => exact hx6
      | 7, _ => exact hx7
      | 8, _ => exact hx8
      | 9, _ => exact hx9
      | k + 10, hk => exact absurd hk (by omega)))) ?_
  refine r_pure rfl rfl ?_
  exact r_retI rfl rfl
/-! X6_hasCompartment -/
def s_X6_hasCompartment (t : Nat) (v1 : Int32) (S : HS) : Option Int32 :=
  if v1 < (0 : Int32) then
    some (0 : Int32)
  else
    if (gf S t 1) ≤ v1 then
      some (0 : Int32)
    else
      some (1 : Int32)
set_option maxRecDepth 100000 in
theorem rf_X6_hasCompartment {d : Nat} (hd : 1 ≤ d) {O : HS} (t : Nat) (ht : isT t) (v1 : Int32) (S : HS) : Lm (oI (en false O S)) (s_X6_hasCompartment t v1 S) (CF d 63 [.ref t, .int v1] (en false O S)) := by
  unfold s_X6_hasCompartment
  obtain ⟨e, rfl⟩ : ∃ e, d = e + 1 := ⟨d - 1, by omega⟩
  refine rm_of (lv := [some (.ref t), some (.int v1)]) (k_X6_hasCompartment false) (by omega) rfl rfl (Nat.le_of_ble_eq_true rfl) ?_
  refine lm_le (n := 9) (by omega) ?_
  show Lm _ _ (run (CF e) _ _ _ _ _ _)
  refine r_pure rfl rfl ?_
  refine r_if1 rfl rfl ?_ ?_
  · refine r_pure rfl rfl ?_
    exact r_retZ rfl (Or.inl rfl) rfl
  · refine r_pure rfl rfl ?_
    refine r_pure rfl rfl ?_
    refine r_get rfl (en_get (b := false) (k := t) (L := 10) (zT0 ht) (lT0 ht)) (fo_get (S := S) rfl) ?_
    refine r_if2 rfl rfl ?_ ?_
    · refine r_pure rfl rfl ?_
      exact r_retZ rfl (Or.inl rfl) rfl
    · refine r_pure rfl rfl ?_
      refine r_pure rfl rfl ?_
      exact r_retZ rfl (Or.inr rfl) rfl
/-! X6_top -/
def s_X6_top (t : Nat) (v1 : Int32) (S : HS) : Option Int32 :=
  Option.bind (ag (ga S (t + 2)) v1) fun a1 =>
  Option.bind (ag (ga S (t + 1)) (6 : Int32)) fun a2 =>
  some ((a1 * a2) / (100 : Int32))
set_option maxRecDepth 100000 in
theorem rf_X6_top {d : Nat} (hd : 1 ≤ d) {O : HS} (t : Nat) (ht : isT t) (v1 : Int32) (S : HS) : Lm (oI (en false O S)) (s_X6_top t v1 S) (CF d 65 [.ref t, .int v1] (en false O S)) := by
  unfold s_X6_top
  obtain ⟨e, rfl⟩ : ∃ e, d = e + 1 := ⟨d - 1, by omega⟩
  refine rm_of (lv := [some (.ref t), some (.int v1)]) (k_X6_top false) (by omega) rfl rfl (Nat.le_of_ble_eq_true rfl) ?_
  refine lm_le (n := 12) (by omega) ?_
  show Lm _ _ (run (CF e) _ _ _ _ _ _)
  refine r_pure rfl rfl ?_
  refine r_get rfl (en_get (b := false) (k := t) (L := 10) (zT0 ht) (lT0 ht)) (fo_get (S := S) rfl) ?_
  refine r_pure rfl rfl ?_
  refine r_iald rfl (en_get (b := false) (k := (t + 2)) (L := 0) (zT2 ht) (lT2 ht)) (fun a1 => ?_)
  refine r_pure rfl rfl ?_
  refine r_get rfl (en_get (b := false) (k := t) (L := 10) (zT0 ht) (lT0 ht)) (fo_get (S := S) rfl) ?_
  refine r_pure rfl rfl ?_
  refine r_iald rfl (en_get (b := false) (k := (t + 1)) (L := 0) (zT1 ht) (lT1 ht)) (fun a2 => ?_)
  refine r_pure rfl rfl ?_
  refine r_pure rfl rfl ?_
  refine r_div rfl (by decide) ?_
  exact r_retI rfl rfl
/-! X7_compartment -/
def s_X7_compartment (v1 : Int32) (v2 : Int32) (S : HS) : Option Int32 :=
  Option.bind (tl (gr S 0 4)) fun t1 =>
  Option.bind (s_X6_hasCompartment t1 v1 S) fun q2 =>
  if q2 ≠ (0 : Int32) then
    if v2 = (0 : Int32) then
      Option.bind (tl (gr S 0 4)) fun t3 =>
      Option.bind (ag (ga S (t3 + 2)) v1) fun a4 =>
      some a4
    else if v2 = (1 : Int32) then
      Option.bind (tl (gr S 0 4)) fun t5 =>
      Option.bind (ag (ga S (t5 + 3)) v1) fun a6 =>
      some a6
    else if v2 = (2 : Int32) then
      Option.bind (tl (gr S 0 4)) fun t7 =>
      Option.bind (ag (ga S (t7 + 4)) v1) fun a8 =>
      some a8
    else if v2 = (3 : Int32) then
      Option.bind (tl (gr S 0 4)) fun t9 =>
      Option.bind (s_X6_top t9 v1 S) fun q10 =>
      some q10
    else if v2 = (4 : Int32) then
      Option.bind (ag (ga S 24) v1) fun a11 =>
      some a11
    else if v2 = (5 : Int32) then
      Option.bind (ag (ga S 25) v1) fun a12 =>
      some a12
    else if v2 = (6 : Int32) then
      Option.bind (ag (ga S 26) v1) fun a13 =>
      some a13
    else 
      some (-1 : Int32)
  else
    some (-1 : Int32)
set_option maxRecDepth 100000 in
theorem rf_X7_compartment {d : Nat} (hd : 2 ≤ d) {O : HS} (v1 : Int32) (v2 : Int32) (S : HS) : Lm (oI (en false O S)) (s_X7_compartment v1 v2 S) (CF d 74 [.ref 0, .int v1, .int v2] (en false O S)) := by
  unfold s_X7_compartment
  obtain ⟨e, rfl⟩ : ∃ e, d = e + 1 := ⟨d - 1, by omega⟩
  refine rm_of (lv := [some (.ref 0), some (.int v1), some (.int v2)]) (k_X7_compartment false) (by omega) rfl rfl (Nat.le_of_ble_eq_true rfl) ?_
  refine lm_le (n := 14) (by omega) ?_
  show Lm _ _ (run (CF e) _ _ _ _ _ _)
  refine r_pure rfl rfl ?_
  refine r_getT rfl ⟨rfl, by decide⟩ rfl rfl (fun t1 ht1 => ?_)
  refine r_pure rfl rfl ?_
  refine r_callV_I rfl rfl (en_get (b := false) (k := t1) (L := 10) (zT0 ht1) (lT0 ht1)) (Nat.le_of_ble_eq_true rfl) (rf_X6_hasCompartment (by omega) t1 ht1 v1 S) (fun q2 => ?_)
  refine r_if1 rfl rfl ?_ ?_
  · refine r_pure rfl rfl ?_
    refine r_sw rfl ?_
    refine sw_one (t := 56) (by decide) ?_ (fun hx0 => ?_)
    · refine r_pure rfl rfl ?_
      refine r_getT rfl ⟨rfl, by decide⟩ rfl rfl (fun t3 ht3 => ?_)
      refine r_get rfl (en_get (b := false) (k := t3) (L := 10) (zT0 ht3) (lT0 ht3)) (fo_get (S := S) rfl) ?_
      refine r_pure rfl rfl ?_
      refine r_iald rfl (en_get (b := false) (k := (t3 + 2)) (L := 0) (zT2 ht3) (lT2 ht3)) (fun a4 => ?_)
      exact r_retI rfl rfl
    refine sw_one (t := 66) (by decide) ?_ (fun hx1 => ?_)
    · refine r_pure rfl rfl ?_
      refine r_getT rfl ⟨rfl, by decide⟩ rfl rfl (fun t5 ht5 => ?_)
      refine r_get rfl (en_get (b := false) (k := t5) (L := 10) (zT0 ht5) (lT0 ht5)) (fo_get (S := S) rfl) ?_
      refine r_pure rfl rfl ?_
      refine r_iald rfl (en_get (b := false) (k := (t5 + 3)) (L := 0) (zT3 ht5) (lT3 ht5)) (fun a6 => ?_)
      exact r_retI rfl rfl
    refine sw_one (t := 76) (by decide) ?_ (fun hx2 => ?_)
    · refine r_pure rfl rfl ?_
      refine r_getT rfl ⟨rfl, by decide⟩ rfl rfl (fun t7 ht7 => ?_)
      refine r_get rfl (en_get (b := false) (k := t7) (L := 10) (zT0 ht7) (lT0 ht7)) (fo_get (S := S) rfl) ?_
      refine r_pure rfl rfl ?_
      refine r_iald rfl (en_get (b := false) (k := (t7 + 4)) (L := 0) (zT4 ht7) (lT4 ht7)) (fun a8 => ?_)
      exact r_retI rfl rfl
    refine sw_one (t := 86) (by decide) ?_ (fun hx3 => ?_)
    · refine r_pure rfl rfl ?_
      refine r_getT rfl ⟨rfl, by decide⟩ rfl rfl (fun t9 ht9 => ?_)
      refine r_pure rfl rfl ?_
      refine r_callV_I rfl rfl (en_get (b := false) (k := t9) (L := 10) (zT0 ht9) (lT0 ht9)) (Nat.le_of_ble_eq_true rfl) (rf_X6_top (by omega) t9 ht9 v1 S) (fun q10 => ?_)
      exact r_retI rfl rfl
    refine sw_one (t := 95) (by decide) ?_ (fun hx4 => ?_)
    · refine r_pure rfl rfl ?_
      refine r_get rfl (en_get (b := false) (k := 0) (L := 11) ⟨rfl, by decide⟩ rfl) (fo_get (S := S) rfl) ?_
      refine r_get rfl (en_get (b := false) (k := 22) (L := 9) ⟨rfl, by decide⟩ rfl) (fo_get (S := S) rfl) ?_
      refine r_get rfl (en_get (b := false) (k := 23) (L := 4) ⟨rfl, by decide⟩ rfl) (fo_get (S := S) rfl) ?_
      refine r_pure rfl rfl ?_
      refine r_iald rfl (en_get (b := false) (k := 24) (L := 0) ⟨rfl, by decide⟩ rfl) (fun a11 => ?_)
      exact r_retI rfl rfl
    refine sw_one (t := 108) (by decide) ?_ (fun hx5 => ?_)
    · refine r_pure rfl rfl ?_
      refine r_get rfl (en_get (b := false) (k := 0) (L := 11) ⟨rfl, by decide⟩ rfl) (fo_get (S := S) rfl) ?_
      refine r_get rfl (en_get (b := false) (k := 22) (L := 9) ⟨rfl, by decide⟩ rfl) (fo_get (S := S) rfl) ?_
      refine r_get rfl (en_get (b := false) (k := 23) (L := 4) ⟨rfl, by decide⟩ rfl) (fo_get (S := S) rfl) ?_
      refine r_pure rfl rfl ?_
      refine r_iald rfl (en_get (b := false) (k := 25) (L := 0) ⟨rfl, by decide⟩ rfl) (fun a12 => ?_)
      exact r_retI rfl rfl
    refine sw_one (t := 121) (by decide) ?_ (fun hx6 => ?_)
    · refine r_pure rfl rfl ?_
      refine r_get rfl (en_get (b := false) (k := 0) (L := 11) ⟨rfl, by decide⟩ rfl) (fo_get (S := S) rfl) ?_
      refine r_get rfl (en_get (b := false) (k := 22) (L := 9) ⟨rfl, by decide⟩ rfl) (fo_get (S := S) rfl) ?_
      refine r_get rfl (en_get (b := false) (k := 23) (L := 4) ⟨rfl, by decide⟩ rfl) (fo_get (S := S) rfl) ?_
      refine r_pure rfl rfl ?_
      refine r_iald rfl (en_get (b := false) (k := 26) (L := 0) ⟨rfl, by decide⟩ rfl) (fun a13 => ?_)
      exact r_retI rfl rfl
    refine sw_def (sw_out (m := 7) rfl (by decide) (fun k hk => (by
        match k, hk with
        | 0, _ => exact hx0
        | 1, _ => exact hx1
        | 2, _ => exact hx2
        | 3, _ => exact hx3
        | 4, _ => exact hx4
        | 5, _ => exact hx5
        | 6, _ => exact hx6
        | k + 7, hk => exact absurd hk (by omega)))) ?_
    refine r_pure rfl rfl ?_
    exact r_retI rfl rfl
  · refine r_pure rfl rfl ?_
    exact r_retI rfl rfl
