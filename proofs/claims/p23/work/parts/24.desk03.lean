/-! X5_hasDrop -/
def s_X5_hasDrop (v1 : Int32) (S : HS) : Option Int32 :=
  if v1 < (0 : Int32) then
    some (0 : Int32)
  else
    if (gf S 22 1) ≤ v1 then
      some (0 : Int32)
    else
      some (1 : Int32)
set_option maxRecDepth 100000 in
theorem rf_X5_hasDrop {d : Nat} (hd : 1 ≤ d) {O : HS} (v1 : Int32) (S : HS) : Lm (oI (en false O S)) (s_X5_hasDrop v1 S) (CF d 57 [.ref 22, .int v1] (en false O S)) := by
  unfold s_X5_hasDrop
  obtain ⟨e, rfl⟩ : ∃ e, d = e + 1 := ⟨d - 1, by omega⟩
  refine rm_of (lv := [some (.ref 22), some (.int v1)]) (k_X5_hasDrop false) (by omega) rfl rfl (Nat.le_of_ble_eq_true rfl) ?_
  refine lm_le (n := 9) (by omega) ?_
  show Lm _ _ (run (CF e) _ _ _ _ _ _)
  refine r_pure rfl rfl ?_
  refine r_if1 rfl rfl ?_ ?_
  · refine r_pure rfl rfl ?_
    exact r_retZ rfl (Or.inl rfl) rfl
  · refine r_pure rfl rfl ?_
    refine r_pure rfl rfl ?_
    refine r_get rfl (en_get (b := false) (k := 22) (L := 9) ⟨rfl, by decide⟩ rfl) (fo_get (S := S) rfl) ?_
    refine r_if2 rfl rfl ?_ ?_
    · refine r_pure rfl rfl ?_
      exact r_retZ rfl (Or.inl rfl) rfl
    · refine r_pure rfl rfl ?_
      refine r_pure rfl rfl ?_
      exact r_retZ rfl (Or.inr rfl) rfl
/-! X0_loaded -/
def s_X0_loaded_L4 (b : Nat) (v1 : Int32) (S : HS) : Nat → Int32 → Int32 → Option Int32
  | 0, _, _ => none
  | K + 1, v2, v3 =>
    if (5 : Int32) ≤ v3 then
      some v2
    else
      Option.bind (ag (ga S (b + 2)) v3) fun a1 =>
      if a1 ≠ v1 then
        s_X0_loaded_L4 b v1 S K v2 (v3 + (1 : Int32))
      else
        Option.bind (ag (ga S (b + 1)) v3) fun a2 =>
        s_X0_loaded_L4 b v1 S K (v2 + a2) (v3 + (1 : Int32))
def s_X0_loaded (b : Nat) (v1 : Int32) (S : HS) : Option Int32 :=
  s_X0_loaded_L4 b v1 S 40 (0 : Int32) (0 : Int32)
set_option maxRecDepth 100000 in
theorem rl_X0_loaded_L4 {e : Nat} (he : 0 ≤ e) {O : HS} (b : Nat) (hb : isC b) (v1 : Int32) (S : HS) {n : Nat} : ∀ (K : Nat) (v2 : Int32) (v3 : Int32), Lm (oI (en false O S)) (s_X0_loaded_L4 b v1 S K v2 v3) (run (CF e) (k_X0_loaded false) (n + (18 * K + 0)) 4 [some (.ref b), some (.int v1), some (.int v2), some (.int v3)] [] (en false O S)) := by
  intro K
  induction K with
  | zero =>
    intros
    exact lm_none
  | succ K ih =>
    intro v2 v3
    rw [show n + (18 * (K + 1) + 0) = n + (18 * K + 0) + 18 by omega]
    rw [s_X0_loaded_L4]
    refine r_pure rfl rfl ?_
    refine r_pure rfl rfl ?_
    refine r_if2 rfl rfl ?_ ?_
    · refine r_pure rfl rfl ?_
      exact r_retI rfl rfl
    · refine r_pure rfl rfl ?_
      refine r_get rfl (en_get (b := false) (k := b) (L := 4) (zC0 hb) (lC0 hb)) (fo_get (S := S) rfl) ?_
      refine r_pure rfl rfl ?_
      refine r_iald rfl (en_get (b := false) (k := (b + 2)) (L := 0) (zC2 hb) (lC2 hb)) (fun a1 => ?_)
      refine r_pure rfl rfl ?_
      refine r_if2 rfl rfl ?_ ?_
      · refine r_pure (lv' := [some (.ref b), some (.int v1), some (.int v2), some (.int (v3 + (1 : Int32)))]) rfl rfl ?_
        refine r_pure rfl rfl ?_
        exact lm_le (by omega) (ih v2 (v3 + (1 : Int32)))
      · refine r_pure rfl rfl ?_
        refine r_pure rfl rfl ?_
        refine r_get rfl (en_get (b := false) (k := b) (L := 4) (zC0 hb) (lC0 hb)) (fo_get (S := S) rfl) ?_
        refine r_pure rfl rfl ?_
        refine r_iald rfl (en_get (b := false) (k := (b + 1)) (L := 0) (zC1 hb) (lC1 hb)) (fun a2 => ?_)
        refine r_pure rfl rfl ?_
        refine r_pure (lv' := [some (.ref b), some (.int v1), some (.int (v2 + a2)), some (.int v3)]) rfl rfl ?_
        refine r_pure (lv' := [some (.ref b), some (.int v1), some (.int (v2 + a2)), some (.int (v3 + (1 : Int32)))]) rfl rfl ?_
        refine r_pure rfl rfl ?_
        exact lm_le (by omega) (ih (v2 + a2) (v3 + (1 : Int32)))
set_option maxRecDepth 100000 in
theorem rf_X0_loaded {d : Nat} (hd : 1 ≤ d) {O : HS} (b : Nat) (hb : isC b) (v1 : Int32) (S : HS) : Lm (oI (en false O S)) (s_X0_loaded b v1 S) (CF d 6 [.ref b, .int v1] (en false O S)) := by
  unfold s_X0_loaded
  obtain ⟨e, rfl⟩ : ∃ e, d = e + 1 := ⟨d - 1, by omega⟩
  refine rm_of (lv := [some (.ref b), some (.int v1), none, none]) (k_X0_loaded false) (by omega) rfl rfl (Nat.le_of_ble_eq_true rfl) ?_
  refine lm_le (n := 724) (by omega) ?_
  show Lm _ _ (run (CF e) _ _ _ _ _ _)
  refine r_pure rfl rfl ?_
  refine r_pure (lv' := [some (.ref b), some (.int v1), some (.int (0 : Int32)), none]) rfl rfl ?_
  refine r_pure rfl rfl ?_
  refine r_pure (lv' := [some (.ref b), some (.int v1), some (.int (0 : Int32)), some (.int (0 : Int32))]) rfl rfl ?_
  exact lm_le (by omega) (rl_X0_loaded_L4 (n := 0) (by omega) b hb v1 S 40 (0 : Int32) (0 : Int32))
/-! X5_how -/
def s_X5_how (t : Nat) (v2 : Int32) (S : HS) : Option Int32 :=
  Option.bind (ag (ga S 28) v2) fun a1 =>
  if a1 = (0 : Int32) then
    Option.bind (s_X0_loaded 23 v2 S) fun q2 =>
    Option.bind (ag (ga S (t + 8)) v2) fun a3 =>
    if a3 ≤ q2 then
      some (1 : Int32)
    else
      some (0 : Int32)
  else
    Option.bind (ag (ga S 28) v2) fun a4 =>
    some a4
set_option maxRecDepth 100000 in
theorem rf_X5_how {d : Nat} (hd : 2 ≤ d) {O : HS} (t : Nat) (ht : isT t) (v2 : Int32) (S : HS) : Lm (oI (en false O S)) (s_X5_how t v2 S) (CF d 58 [.ref 22, .ref t, .int v2] (en false O S)) := by
  unfold s_X5_how
  obtain ⟨e, rfl⟩ : ∃ e, d = e + 1 := ⟨d - 1, by omega⟩
  refine rm_of (lv := [some (.ref 22), some (.ref t), some (.int v2)]) (k_X5_how false) (by omega) rfl rfl (Nat.le_of_ble_eq_true rfl) ?_
  refine lm_le (n := 17) (by omega) ?_
  show Lm _ _ (run (CF e) _ _ _ _ _ _)
  refine r_pure rfl rfl ?_
  refine r_get rfl (en_get (b := false) (k := 22) (L := 9) ⟨rfl, by decide⟩ rfl) (fo_get (S := S) rfl) ?_
  refine r_pure rfl rfl ?_
  refine r_iald rfl (en_get (b := false) (k := 28) (L := 0) ⟨rfl, by decide⟩ rfl) (fun a1 => ?_)
  refine r_if1 rfl rfl ?_ ?_
  · refine r_pure rfl rfl ?_
    refine r_get rfl (en_get (b := false) (k := 22) (L := 9) ⟨rfl, by decide⟩ rfl) (fo_get (S := S) rfl) ?_
    refine r_pure rfl rfl ?_
    refine r_callV_I rfl rfl (en_get (b := false) (k := 23) (L := 4) ⟨rfl, by decide⟩ rfl) (Nat.le_of_ble_eq_true rfl) (rf_X0_loaded (by omega) 23 mC23 v2 S) (fun q2 => ?_)
    refine r_pure rfl rfl ?_
    refine r_get rfl (en_get (b := false) (k := t) (L := 10) (zT0 ht) (lT0 ht)) (fo_get (S := S) rfl) ?_
    refine r_pure rfl rfl ?_
    refine r_iald rfl (en_get (b := false) (k := (t + 8)) (L := 0) (zT8 ht) (lT8 ht)) (fun a3 => ?_)
    refine r_if2 rfl rfl ?_ ?_
    · refine r_pure rfl rfl ?_
      exact r_retI rfl rfl
    · refine r_pure rfl rfl ?_
      refine r_pure rfl rfl ?_
      exact r_retI rfl rfl
  · refine r_pure rfl rfl ?_
    refine r_get rfl (en_get (b := false) (k := 22) (L := 9) ⟨rfl, by decide⟩ rfl) (fo_get (S := S) rfl) ?_
    refine r_pure rfl rfl ?_
    refine r_iald rfl (en_get (b := false) (k := 28) (L := 0) ⟨rfl, by decide⟩ rfl) (fun a4 => ?_)
    exact r_retI rfl rfl
/-! X5_shortOf -/
def s_X5_shortOf (t : Nat) (v2 : Int32) (S : HS) : Option Int32 :=
  Option.bind (ag (ga S 28) v2) fun a1 =>
  if a1 ≠ (2 : Int32) then
    some (0 : Int32)
  else
    Option.bind (ag (ga S (t + 8)) v2) fun a2 =>
    Option.bind (ag (ga S 29) v2) fun a3 =>
    some (a2 - a3)
set_option maxRecDepth 100000 in
theorem rf_X5_shortOf {d : Nat} (hd : 1 ≤ d) {O : HS} (t : Nat) (ht : isT t) (v2 : Int32) (S : HS) : Lm (oI (en false O S)) (s_X5_shortOf t v2 S) (CF d 59 [.ref 22, .ref t, .int v2] (en false O S)) := by
  unfold s_X5_shortOf
  obtain ⟨e, rfl⟩ : ∃ e, d = e + 1 := ⟨d - 1, by omega⟩
  refine rm_of (lv := [some (.ref 22), some (.ref t), some (.int v2)]) (k_X5_shortOf false) (by omega) rfl rfl (Nat.le_of_ble_eq_true rfl) ?_
  refine lm_le (n := 17) (by omega) ?_
  show Lm _ _ (run (CF e) _ _ _ _ _ _)
  refine r_pure rfl rfl ?_
  refine r_get rfl (en_get (b := false) (k := 22) (L := 9) ⟨rfl, by decide⟩ rfl) (fo_get (S := S) rfl) ?_
  refine r_pure rfl rfl ?_
  refine r_iald rfl (en_get (b := false) (k := 28) (L := 0) ⟨rfl, by decide⟩ rfl) (fun a1 => ?_)
  refine r_pure rfl rfl ?_
  refine r_if2 rfl rfl ?_ ?_
  · refine r_pure rfl rfl ?_
    exact r_retI rfl rfl
  · refine r_pure rfl rfl ?_
    refine r_get rfl (en_get (b := false) (k := t) (L := 10) (zT0 ht) (lT0 ht)) (fo_get (S := S) rfl) ?_
    refine r_pure rfl rfl ?_
    refine r_iald rfl (en_get (b := false) (k := (t + 8)) (L := 0) (zT8 ht) (lT8 ht)) (fun a2 => ?_)
    refine r_pure rfl rfl ?_
    refine r_get rfl (en_get (b := false) (k := 22) (L := 9) ⟨rfl, by decide⟩ rfl) (fo_get (S := S) rfl) ?_
    refine r_pure rfl rfl ?_
    refine r_iald rfl (en_get (b := false) (k := 29) (L := 0) ⟨rfl, by decide⟩ rfl) (fun a3 => ?_)
    refine r_pure rfl rfl ?_
    refine r_pure rfl rfl ?_
    exact r_retI rfl rfl
/-! X7_drop -/
def s_X7_drop (v1 : Int32) (v2 : Int32) (S : HS) : Option Int32 :=
  Option.bind (s_X5_hasDrop v1 S) fun q1 =>
  if q1 = (0 : Int32) then
    none
  else
    if v2 < (0 : Int32) then
      none
    else
      if v2 ≤ (5 : Int32) then
        if v2 = (0 : Int32) then
          Option.bind (tl (gr S 0 4)) fun t2 =>
          Option.bind (ag (ga S (t2 + 7)) v1) fun a3 =>
          some a3
        else if v2 = (1 : Int32) then
          Option.bind (tl (gr S 0 4)) fun t4 =>
          Option.bind (ag (ga S (t4 + 8)) v1) fun a5 =>
          some a5
        else if v2 = (2 : Int32) then
          Option.bind (s_X0_loaded 23 v1 S) fun q6 =>
          some q6
        else if v2 = (3 : Int32) then
          Option.bind (tl (gr S 0 4)) fun t7 =>
          Option.bind (s_X5_how t7 v1 S) fun q8 =>
          some q8
        else if v2 = (4 : Int32) then
          Option.bind (ag (ga S 29) v1) fun a9 =>
          some a9
        else 
          Option.bind (tl (gr S 0 4)) fun t10 =>
          Option.bind (s_X5_shortOf t10 v1 S) fun q11 =>
          some q11
      else
        none
set_option maxRecDepth 100000 in
theorem rf_X7_drop {d : Nat} (hd : 3 ≤ d) {O : HS} (v1 : Int32) (v2 : Int32) (S : HS) : Lm (oI (en false O S)) (s_X7_drop v1 v2 S) (CF d 75 [.ref 0, .int v1, .int v2] (en false O S)) := by
  unfold s_X7_drop
  obtain ⟨e, rfl⟩ : ∃ e, d = e + 1 := ⟨d - 1, by omega⟩
  refine rm_of (lv := [some (.ref 0), some (.int v1), some (.int v2)]) (k_X7_drop false) (by omega) rfl rfl (Nat.le_of_ble_eq_true rfl) ?_
  refine lm_le (n := 19) (by omega) ?_
  show Lm _ _ (run (CF e) _ _ _ _ _ _)
  refine r_pure rfl rfl ?_
  refine r_get rfl (en_get (b := false) (k := 0) (L := 11) ⟨rfl, by decide⟩ rfl) (fo_get (S := S) rfl) ?_
  refine r_pure rfl rfl ?_
  refine r_callV_I rfl rfl (en_get (b := false) (k := 22) (L := 9) ⟨rfl, by decide⟩ rfl) (Nat.le_of_ble_eq_true rfl) (rf_X5_hasDrop (by omega) v1 S) (fun q1 => ?_)
  refine r_if1 rfl rfl ?_ ?_
  · exact lm_none
  · refine r_pure rfl rfl ?_
    refine r_if1 rfl rfl ?_ ?_
    · exact lm_none
    · refine r_pure rfl rfl ?_
      refine r_pure rfl rfl ?_
      refine r_if2 rfl rfl ?_ ?_
      · refine r_pure rfl rfl ?_
        refine r_sw rfl ?_
        refine sw_one (t := 64) (by decide) ?_ (fun hx0 => ?_)
        · refine r_pure rfl rfl ?_
          refine r_getT rfl ⟨rfl, by decide⟩ rfl rfl (fun t2 ht2 => ?_)
          refine r_get rfl (en_get (b := false) (k := t2) (L := 10) (zT0 ht2) (lT0 ht2)) (fo_get (S := S) rfl) ?_
          refine r_pure rfl rfl ?_
          refine r_iald rfl (en_get (b := false) (k := (t2 + 7)) (L := 0) (zT7 ht2) (lT7 ht2)) (fun a3 => ?_)
          exact r_retI rfl rfl
        refine sw_one (t := 74) (by decide) ?_ (fun hx1 => ?_)
        · refine r_pure rfl rfl ?_
          refine r_getT rfl ⟨rfl, by decide⟩ rfl rfl (fun t4 ht4 => ?_)
          refine r_get rfl (en_get (b := false) (k := t4) (L := 10) (zT0 ht4) (lT0 ht4)) (fo_get (S := S) rfl) ?_
          refine r_pure rfl rfl ?_
          refine r_iald rfl (en_get (b := false) (k := (t4 + 8)) (L := 0) (zT8 ht4) (lT8 ht4)) (fun a5 => ?_)
          exact r_retI rfl rfl
        refine sw_one (t := 84) (by decide) ?_ (fun hx2 => ?_)
        · refine r_pure rfl rfl ?_
          refine r_get rfl (en_get (b := false) (k := 0) (L := 11) ⟨rfl, by decide⟩ rfl) (fo_get (S := S) rfl) ?_
          refine r_get rfl (en_get (b := false) (k := 22) (L := 9) ⟨rfl, by decide⟩ rfl) (fo_get (S := S) rfl) ?_
          refine r_pure rfl rfl ?_
          refine r_callV_I rfl rfl (en_get (b := false) (k := 23) (L := 4) ⟨rfl, by decide⟩ rfl) (Nat.le_of_ble_eq_true rfl) (rf_X0_loaded (by omega) 23 mC23 v1 S) (fun q6 => ?_)
          exact r_retI rfl rfl
        refine sw_one (t := 96) (by decide) ?_ (fun hx3 => ?_)
        · refine r_pure rfl rfl ?_
          refine r_get rfl (en_get (b := false) (k := 0) (L := 11) ⟨rfl, by decide⟩ rfl) (fo_get (S := S) rfl) ?_
          refine r_pure rfl rfl ?_
          refine r_getT rfl ⟨rfl, by decide⟩ rfl rfl (fun t7 ht7 => ?_)
          refine r_pure rfl rfl ?_
          refine r_callV_I rfl rfl (en_get (b := false) (k := 22) (L := 9) ⟨rfl, by decide⟩ rfl) (Nat.le_of_ble_eq_true rfl) (rf_X5_how (by omega) t7 ht7 v1 S) (fun q8 => ?_)
          exact r_retI rfl rfl
        refine sw_one (t := 109) (by decide) ?_ (fun hx4 => ?_)
        · refine r_pure rfl rfl ?_
          refine r_get rfl (en_get (b := false) (k := 0) (L := 11) ⟨rfl, by decide⟩ rfl) (fo_get (S := S) rfl) ?_
          refine r_get rfl (en_get (b := false) (k := 22) (L := 9) ⟨rfl, by decide⟩ rfl) (fo_get (S := S) rfl) ?_
          refine r_pure rfl rfl ?_
          refine r_iald rfl (en_get (b := false) (k := 29) (L := 0) ⟨rfl, by decide⟩ rfl) (fun a9 => ?_)
          exact r_retI rfl rfl
        refine sw_def (sw_out (m := 5) rfl (by decide) (fun k hk => (by
            match k, hk with
            | 0, _ => exact hx0
            | 1, _ => exact hx1
            | 2, _ => exact hx2
            | 3, _ => exact hx3
            | 4, _ => exact hx4
            | k + 5, hk => exact absurd hk (by omega)))) ?_
        refine r_pure rfl rfl ?_
        refine r_get rfl (en_get (b := false) (k := 0) (L := 11) ⟨rfl, by decide⟩ rfl) (fo_get (S := S) rfl) ?_
        refine r_pure rfl rfl ?_
        refine r_getT rfl ⟨rfl, by decide⟩ rfl rfl (fun t10 ht10 => ?_)
        refine r_pure rfl rfl ?_
        refine r_callV_I rfl rfl (en_get (b := false) (k := 22) (L := 9) ⟨rfl, by decide⟩ rfl) (Nat.le_of_ble_eq_true rfl) (rf_X5_shortOf (by omega) t10 ht10 v1 S) (fun q11 => ?_)
        exact r_retI rfl rfl
      · exact lm_none
/-! X6_hasLiquid -/
def s_X6_hasLiquid (t : Nat) (v1 : Int32) (S : HS) : Option Int32 :=
  if v1 < (0 : Int32) then
    some (0 : Int32)
  else
    if (gf S t 6) ≤ v1 then
      some (0 : Int32)
    else
      some (1 : Int32)
set_option maxRecDepth 100000 in
theorem rf_X6_hasLiquid {d : Nat} (hd : 1 ≤ d) {O : HS} (t : Nat) (ht : isT t) (v1 : Int32) (S : HS) : Lm (oI (en false O S)) (s_X6_hasLiquid t v1 S) (CF d 64 [.ref t, .int v1] (en false O S)) := by
  unfold s_X6_hasLiquid
  obtain ⟨e, rfl⟩ : ∃ e, d = e + 1 := ⟨d - 1, by omega⟩
  refine rm_of (lv := [some (.ref t), some (.int v1)]) (k_X6_hasLiquid false) (by omega) rfl rfl (Nat.le_of_ble_eq_true rfl) ?_
  refine lm_le (n := 9) (by omega) ?_
  show Lm _ _ (run (CF e) _ _ _ _ _ _)
  refine r_pure rfl rfl ?_
  refine r_if1 rfl rfl ?_ ?_
  · refine r_pure rfl rfl ?_
    exact r_retZ rfl (Or.inl rfl) rfl
  · refine r_pure rfl rfl ?_
    refine r_pure rfl rfl ?_
    refine r_get rfl (en_get (b := false) (k := t) (L := 10) (zT0 ht) (lT0 ht)) (fo_get (S := S) rfl) ?_
    refine r_if2 rfl rfl ?_ ?_
    · refine r_pure rfl rfl ?_
      exact r_retZ rfl (Or.inl rfl) rfl
    · refine r_pure rfl rfl ?_
      refine r_pure rfl rfl ?_
      exact r_retZ rfl (Or.inr rfl) rfl
/-! X6_isBarred -/
def s_X6_isBarred (t : Nat) (v1 : Int32) (v2 : Int32) (S : HS) : Option Int32 :=
  if v1 = (-1 : Int32) then
    some (0 : Int32)
  else
    if (lg_cmp (((gl S t) >>> (((v1 * (6 : Int32)) + v2).toInt64 &&& (63 : Int64))) &&& (1 : Int64)) (0 : Int64)) = (0 : Int32) then
      some (0 : Int32)
    else
      some (1 : Int32)
set_option maxRecDepth 100000 in
theorem rf_X6_isBarred {d : Nat} (hd : 1 ≤ d) {O : HS} (t : Nat) (ht : isT t) (v1 : Int32) (v2 : Int32) (S : HS) : Lm (oI (en false O S)) (s_X6_isBarred t v1 v2 S) (CF d 67 [.ref t, .int v1, .int v2] (en false O S)) := by
  unfold s_X6_isBarred
  obtain ⟨e, rfl⟩ : ∃ e, d = e + 1 := ⟨d - 1, by omega⟩
  refine rm_of (lv := [some (.ref t), some (.int v1), some (.int v2)]) (k_X6_isBarred false) (by omega) rfl rfl (Nat.le_of_ble_eq_true rfl) ?_
  refine lm_le (n := 19) (by omega) ?_
  show Lm _ _ (run (CF e) _ _ _ _ _ _)
  refine r_pure rfl rfl ?_
  refine r_pure rfl rfl ?_
  refine r_if2 rfl rfl ?_ ?_
  · refine r_pure rfl rfl ?_
    exact r_retZ rfl (Or.inl rfl) rfl
  · refine r_pure rfl rfl ?_
    refine r_get rfl (en_get (b := false) (k := t) (L := 10) (zT0 ht) (lT0 ht)) (fo_get (S := S) rfl) ?_
    refine r_pure rfl rfl ?_
    refine r_pure rfl rfl ?_
    refine r_pure rfl rfl ?_
    refine r_pure rfl rfl ?_
    refine r_pure rfl rfl ?_
    refine r_pure rfl rfl ?_
    refine r_pure rfl rfl ?_
    refine r_pure rfl rfl ?_
    refine r_pure rfl rfl ?_
    refine r_pure rfl rfl ?_
    refine r_if1 rfl rfl ?_ ?_
    · refine r_pure rfl rfl ?_
      exact r_retZ rfl (Or.inl rfl) rfl
    · refine r_pure rfl rfl ?_
      refine r_pure rfl rfl ?_
      exact r_retZ rfl (Or.inr rfl) rfl
/-! X7_may -/
def s_X7_may (v1 : Int32) (v2 : Int32) (S : HS) : Option Int32 :=
  Option.bind (tl (gr S 0 4)) fun t1 =>
  Option.bind (s_X6_hasCompartment t1 v1 S) fun q2 =>
  if q2 = (0 : Int32) then
    some (0 : Int32)
  else
    Option.bind (tl (gr S 0 4)) fun t3 =>
    Option.bind (s_X6_hasLiquid t3 v2 S) fun q4 =>
    if q4 = (0 : Int32) then
      some (0 : Int32)
    else
      Option.bind (tl (gr S 0 4)) fun t5 =>
      Option.bind (ag (ga S 26) v1) fun a6 =>
      Option.bind (s_X6_isBarred t5 a6 v2 S) fun q7 =>
      if q7 ≠ (0 : Int32) then
        some (0 : Int32)
      else
        some (1 : Int32)
set_option maxRecDepth 100000 in
theorem rf_X7_may {d : Nat} (hd : 2 ≤ d) {O : HS} (v1 : Int32) (v2 : Int32) (S : HS) : Lm (oI (en false O S)) (s_X7_may v1 v2 S) (CF d 76 [.ref 0, .int v1, .int v2] (en false O S)) := by
  unfold s_X7_may
  obtain ⟨e, rfl⟩ : ∃ e, d = e + 1 := ⟨d - 1, by omega⟩
  refine rm_of (lv := [some (.ref 0), some (.int v1), some (.int v2)]) (k_X7_may false) (by omega) rfl rfl (Nat.le_of_ble_eq_true rfl) ?_
  refine lm_le (n := 24) (by omega) ?_
  show Lm _ _ (run (CF e) _ _ _ _ _ _)
  refine r_pure rfl rfl ?_
  refine r_getT rfl ⟨rfl, by decide⟩ rfl rfl (fun t1 ht1 => ?_)
  refine r_pure rfl rfl ?_
  refine r_callV_I rfl rfl (en_get (b := false) (k := t1) (L := 10) (zT0 ht1) (lT0 ht1)) (Nat.le_of_ble_eq_true rfl) (rf_X6_hasCompartment (by omega) t1 ht1 v1 S) (fun q2 => ?_)
  refine r_if1 rfl rfl ?_ ?_
  · refine r_pure rfl rfl ?_
    exact r_retZ rfl (Or.inl rfl) rfl
  · refine r_pure rfl rfl ?_
    refine r_getT rfl ⟨rfl, by decide⟩ rfl rfl (fun t3 ht3 => ?_)
    refine r_pure rfl rfl ?_
    refine r_callV_I rfl rfl (en_get (b := false) (k := t3) (L := 10) (zT0 ht3) (lT0 ht3)) (Nat.le_of_ble_eq_true rfl) (rf_X6_hasLiquid (by omega) t3 ht3 v2 S) (fun q4 => ?_)
    refine r_if1 rfl rfl ?_ ?_
    · refine r_pure rfl rfl ?_
      exact r_retZ rfl (Or.inl rfl) rfl
    · refine r_pure rfl rfl ?_
      refine r_getT rfl ⟨rfl, by decide⟩ rfl rfl (fun t5 ht5 => ?_)
      refine r_pure rfl rfl ?_
      refine r_get rfl (en_get (b := false) (k := 0) (L := 11) ⟨rfl, by decide⟩ rfl) (fo_get (S := S) rfl) ?_
      refine r_get rfl (en_get (b := false) (k := 22) (L := 9) ⟨rfl, by decide⟩ rfl) (fo_get (S := S) rfl) ?_
      refine r_get rfl (en_get (b := false) (k := 23) (L := 4) ⟨rfl, by decide⟩ rfl) (fo_get (S := S) rfl) ?_
      refine r_pure rfl rfl ?_
      refine r_iald rfl (en_get (b := false) (k := 26) (L := 0) ⟨rfl, by decide⟩ rfl) (fun a6 => ?_)
      refine r_pure rfl rfl ?_
      refine r_callV_I rfl rfl (en_get (b := false) (k := t5) (L := 10) (zT0 ht5) (lT0 ht5)) (Nat.le_of_ble_eq_true rfl) (rf_X6_isBarred (by omega) t5 ht5 a6 v2 S) (fun q7 => ?_)
      refine r_if1 rfl rfl ?_ ?_
      · refine r_pure rfl rfl ?_
        exact r_retZ rfl (Or.inl rfl) rfl
      · refine r_pure rfl rfl ?_
        refine r_pure rfl rfl ?_
        exact r_retZ rfl (Or.inr rfl) rfl
/-! X0_copyFrom -/
def s_X0_copyFrom (b : Nat) (c : Nat) (S : HS) : Option HS :=
  Option.bind (wc S (b + 1) (c + 1) (5 : Int32)) fun S1 =>
  Option.bind (wc S1 (b + 4) (c + 4) (5 : Int32)) fun S2 =>
  Option.bind (wc S2 (b + 2) (c + 2) (5 : Int32)) fun S3 =>
  Option.bind (wc S3 (b + 3) (c + 3) (5 : Int32)) fun S4 =>
  some S4
set_option maxRecDepth 100000 in
theorem rf_X0_copyFrom {d : Nat} (hd : 1 ≤ d) {O : HS} (b : Nat) (c : Nat) (hb : isC b) (hc : isC c) (S : HS) : Lm (oV false O) (s_X0_copyFrom b c S) (CF d 1 [.ref b, .ref c] (en false O S)) := by
  unfold s_X0_copyFrom
  obtain ⟨e, rfl⟩ : ∃ e, d = e + 1 := ⟨d - 1, by omega⟩
  refine rm_of (lv := [some (.ref b), some (.ref c)]) (k_X0_copyFrom false) (by omega) rfl rfl (Nat.le_of_ble_eq_true rfl) ?_
  refine lm_le (n := 33) (by omega) ?_
  show Lm _ _ (run (CF e) _ _ _ _ _ _)
  refine r_pure rfl rfl ?_
  refine r_get rfl (en_get (b := false) (k := c) (L := 4) (zC0 hc) (lC0 hc)) (fo_get (S := S) rfl) ?_
  refine r_pure rfl rfl ?_
  refine r_pure rfl rfl ?_
  refine r_get rfl (en_get (b := false) (k := b) (L := 4) (zC0 hb) (lC0 hb)) (fo_get (S := S) rfl) ?_
  refine r_pure rfl rfl ?_
  refine r_pure rfl rfl ?_
  refine r_copy rfl (zC1 hb) (zC1 hc) (lC1 hb) (lC1 hc) (Nat.le_of_ble_eq_true rfl) (fun S1 => ?_)
  refine r_pure rfl rfl ?_
  refine r_get rfl (en_get (b := false) (k := c) (L := 4) (zC0 hc) (lC0 hc)) (fo_get (S := S1) rfl) ?_
  refine r_pure rfl rfl ?_
  refine r_pure rfl rfl ?_
  refine r_get rfl (en_get (b := false) (k := b) (L := 4) (zC0 hb) (lC0 hb)) (fo_get (S := S1) rfl) ?_
  refine r_pure rfl rfl ?_
  refine r_pure rfl rfl ?_
  refine r_copy rfl (zC4 hb) (zC4 hc) (lC4 hb) (lC4 hc) (Nat.le_of_ble_eq_true rfl) (fun S2 => ?_)
  refine r_pure rfl rfl ?_
  refine r_get rfl (en_get (b := false) (k := c) (L := 4) (zC0 hc) (lC0 hc)) (fo_get (S := S2) rfl) ?_
  refine r_pure rfl rfl ?_
  refine r_pure rfl rfl ?_
  refine r_get rfl (en_get (b := false) (k := b) (L := 4) (zC0 hb) (lC0 hb)) (fo_get (S := S2) rfl) ?_
  refine r_pure rfl rfl ?_
  refine r_pure rfl rfl ?_
  refine r_copy rfl (zC2 hb) (zC2 hc) (lC2 hb) (lC2 hc) (Nat.le_of_ble_eq_true rfl) (fun S3 => ?_)
  refine r_pure rfl rfl ?_
  refine r_get rfl (en_get (b := false) (k := c) (L := 4) (zC0 hc) (lC0 hc)) (fo_get (S := S3) rfl) ?_
  refine r_pure rfl rfl ?_
  refine r_pure rfl rfl ?_
  refine r_get rfl (en_get (b := false) (k := b) (L := 4) (zC0 hb) (lC0 hb)) (fo_get (S := S3) rfl) ?_
  refine r_pure rfl rfl ?_
  refine r_pure rfl rfl ?_
  refine r_copy rfl (zC3 hb) (zC3 hc) (lC3 hb) (lC3 hc) (Nat.le_of_ble_eq_true rfl) (fun S4 => ?_)
  exact r_retV rfl rfl
/-! X0_lay -/
def s_X0_lay (b : Nat) (t : Nat) (v2 : Int32) (v3 : Int32) (v4 : Int32) (v5 : Int32) (S : HS) : Option HS :=
  Option.bind (wa S (b + 1) v2 v5) fun S1 =>
  Option.bind (ag (ga S1 (t + 6)) v4) fun a2 =>
  Option.bind (wa S1 (b + 4) v2 (v5 * a2)) fun S3 =>
  Option.bind (wa S3 (b + 2) v2 v3) fun S4 =>
  Option.bind (wa S4 (b + 3) v2 v4) fun S5 =>
  some S5
set_option maxRecDepth 100000 in
theorem rf_X0_lay {d : Nat} (hd : 1 ≤ d) {O : HS} (b : Nat) (t : Nat) (hb : isC b) (ht : isT t) (v2 : Int32) (v3 : Int32) (v4 : Int32) (v5 : Int32) (S : HS) : Lm (oV false O) (s_X0_lay b t v2 v3 v4 v5 S) (CF d 3 [.ref b, .ref t, .int v2, .int v3, .int v4, .int v5] (en false O S)) := by
  unfold s_X0_lay
  obtain ⟨e, rfl⟩ : ∃ e, d = e + 1 := ⟨d - 1, by omega⟩
  refine rm_of (lv := [some (.ref b), some (.ref t), some (.int v2), some (.int v3), some (.int v4), some (.int v5)]) (k_X0_lay false) (by omega) rfl rfl (Nat.le_of_ble_eq_true rfl) ?_
  refine lm_le (n := 26) (by omega) ?_
  show Lm _ _ (run (CF e) _ _ _ _ _ _)
  refine r_pure rfl rfl ?_
  refine r_get rfl (en_get (b := false) (k := b) (L := 4) (zC0 hb) (lC0 hb)) (fo_get (S := S) rfl) ?_
  refine r_pure rfl rfl ?_
  refine r_pure rfl rfl ?_
  refine r_iastI rfl (zC1 hb) (lC1 hb) (fun S1 => ?_)
  refine r_pure rfl rfl ?_
  refine r_get rfl (en_get (b := false) (k := b) (L := 4) (zC0 hb) (lC0 hb)) (fo_get (S := S1) rfl) ?_
  refine r_pure rfl rfl ?_
  refine r_pure rfl rfl ?_
  refine r_pure rfl rfl ?_
  refine r_get rfl (en_get (b := false) (k := t) (L := 10) (zT0 ht) (lT0 ht)) (fo_get (S := S1) rfl) ?_
  refine r_pure rfl rfl ?_
  refine r_iald rfl (en_get (b := false) (k := (t + 6)) (L := 0) (zT6 ht) (lT6 ht)) (fun a2 => ?_)
  refine r_pure rfl rfl ?_
  refine r_iastI rfl (zC4 hb) (lC4 hb) (fun S3 => ?_)
  refine r_pure rfl rfl ?_
  refine r_get rfl (en_get (b := false) (k := b) (L := 4) (zC0 hb) (lC0 hb)) (fo_get (S := S3) rfl) ?_
  refine r_pure rfl rfl ?_
  refine r_pure rfl rfl ?_
  refine r_iastI rfl (zC2 hb) (lC2 hb) (fun S4 => ?_)
  refine r_pure rfl rfl ?_
  refine r_get rfl (en_get (b := false) (k := b) (L := 4) (zC0 hb) (lC0 hb)) (fo_get (S := S4) rfl) ?_
  refine r_pure rfl rfl ?_
  refine r_pure rfl rfl ?_
  refine r_iastI rfl (zC3 hb) (lC3 hb) (fun S5 => ?_)
  exact r_retV rfl rfl
/-! X7_would -/
def s_X7_would (v1 : Int32) (v2 : Int32) (v3 : Int32) (S : HS) : Option (Int32 × HS) :=
  Option.bind (tl (gr S 0 4)) fun t1 =>
  Option.bind (s_X6_hasCompartment t1 v1 S) fun q2 =>
  if q2 = (0 : Int32) then
    some ((-1 : Int32), S)
  else
    Option.bind (tl (gr S 0 4)) fun t3 =>
    Option.bind (s_X6_hasLiquid t3 v2 S) fun q4 =>
    if q4 = (0 : Int32) then
      some ((-1 : Int32), S)
    else
      if v3 < (0 : Int32) then
        some ((-1 : Int32), S)
      else
        Option.bind (tl (gr S 0 4)) fun t5 =>
        Option.bind (ag (ga S (t5 + 2)) v1) fun a6 =>
        if v3 ≤ a6 then
          Option.bind (s_X0_copyFrom 112 23 S) fun q7 =>
          Option.bind (tl (gr q7 0 4)) fun t8 =>
          Option.bind (s_X0_lay 112 t8 v1 (-1 : Int32) v2 v3 q7) fun q9 =>
          Option.bind (tl (gr q9 0 4)) fun t10 =>
          Option.bind (s_X0_standing 112 t10 (0 : Int32) q9) fun q11 =>
          some (q11, q9)
        else
          some ((-1 : Int32), S)
set_option maxRecDepth 100000 in
theorem rf_X7_would {d : Nat} (hd : 4 ≤ d) {O : HS} (v1 : Int32) (v2 : Int32) (v3 : Int32) (S : HS) : Lm (oIW false O) (s_X7_would v1 v2 v3 S) (CF d 77 [.ref 0, .int v1, .int v2, .int v3] (en false O S)) := by
  unfold s_X7_would
  obtain ⟨e, rfl⟩ : ∃ e, d = e + 1 := ⟨d - 1, by omega⟩
  refine rm_of (lv := [some (.ref 0), some (.int v1), some (.int v2), some (.int v3)]) (k_X7_would false) (by omega) rfl rfl (Nat.le_of_ble_eq_true rfl) ?_
  refine lm_le (n := 41) (by omega) ?_
  show Lm _ _ (run (CF e) _ _ _ _ _ _)
  refine r_pure rfl rfl ?_
  refine r_getT rfl ⟨rfl, by decide⟩ rfl rfl (fun t1 ht1 => ?_)
  refine r_pure rfl rfl ?_
  refine r_callV_I rfl rfl (en_get (b := false) (k := t1) (L := 10) (zT0 ht1) (lT0 ht1)) (Nat.le_of_ble_eq_true rfl) (rf_X6_hasCompartment (by omega) t1 ht1 v1 S) (fun q2 => ?_)
  refine r_if1 rfl rfl ?_ ?_
  · refine r_pure rfl rfl ?_
    exact r_retI rfl rfl
  · refine r_pure rfl rfl ?_
    refine r_getT rfl ⟨rfl, by decide⟩ rfl rfl (fun t3 ht3 => ?_)
    refine r_pure rfl rfl ?_
    refine r_callV_I rfl rfl (en_get (b := false) (k := t3) (L := 10) (zT0 ht3) (lT0 ht3)) (Nat.le_of_ble_eq_true rfl) (rf_X6_hasLiquid (by omega) t3 ht3 v2 S) (fun q4 => ?_)
    refine r_if1 rfl rfl ?_ ?_
    · refine r_pure rfl rfl ?_
      exact r_retI rfl rfl
    · refine r_pure rfl rfl ?_
      refine r_if1 rfl rfl ?_ ?_
      · refine r_pure rfl rfl ?_
        exact r_retI rfl rfl
      · refine r_pure rfl rfl ?_
        refine r_pure rfl rfl ?_
        refine r_getT rfl ⟨rfl, by decide⟩ rfl rfl (fun t5 ht5 => ?_)
        refine r_get rfl (en_get (b := false) (k := t5) (L := 10) (zT0 ht5) (lT0 ht5)) (fo_get (S := S) rfl) ?_
        refine r_pure rfl rfl ?_
        refine r_iald rfl (en_get (b := false) (k := (t5 + 2)) (L := 0) (zT2 ht5) (lT2 ht5)) (fun a6 => ?_)
        refine r_if2 rfl rfl ?_ ?_
        · refine r_pure rfl rfl ?_
          refine r_get rfl (en_get (b := false) (k := 0) (L := 11) ⟨rfl, by decide⟩ rfl) (fo_get (S := S) rfl) ?_
          refine r_pure rfl rfl ?_
          refine r_get rfl (en_get (b := false) (k := 0) (L := 11) ⟨rfl, by decide⟩ rfl) (fo_get (S := S) rfl) ?_
          refine r_get rfl (en_get (b := false) (k := 22) (L := 9) ⟨rfl, by decide⟩ rfl) (fo_get (S := S) rfl) ?_
          refine r_callV_VW rfl rfl (en_get (b := false) (k := 112) (L := 4) ⟨rfl, by decide⟩ rfl) (Nat.le_of_ble_eq_true rfl) (rf_X0_copyFrom (by omega) 112 23 mC112 mC23 S) (fun q7 => ?_)
          refine r_pure rfl rfl ?_
          refine r_get rfl (en_get (b := false) (k := 0) (L := 11) ⟨rfl, by decide⟩ rfl) (fo_get (S := q7) rfl) ?_
          refine r_pure rfl rfl ?_
          refine r_getT rfl ⟨rfl, by decide⟩ rfl rfl (fun t8 ht8 => ?_)
          refine r_pure rfl rfl ?_
          refine r_pure rfl rfl ?_
          refine r_pure rfl rfl ?_
          refine r_pure rfl rfl ?_
          refine r_callV_VW rfl rfl (en_get (b := false) (k := 112) (L := 4) ⟨rfl, by decide⟩ rfl) (Nat.le_of_ble_eq_true rfl) (rf_X0_lay (by omega) 112 t8 mC112 ht8 v1 (-1 : Int32) v2 v3 q7) (fun q9 => ?_)
          refine r_pure rfl rfl ?_
          refine r_get rfl (en_get (b := false) (k := 0) (L := 11) ⟨rfl, by decide⟩ rfl) (fo_get (S := q9) rfl) ?_
          refine r_pure rfl rfl ?_
          refine r_getT rfl ⟨rfl, by decide⟩ rfl rfl (fun t10 ht10 => ?_)
          refine r_pure rfl rfl ?_
          refine r_callV_I rfl rfl (en_get (b := false) (k := 112) (L := 4) ⟨rfl, by decide⟩ rfl) (Nat.le_of_ble_eq_true rfl) (rf_X0_standing (by omega) 112 t10 mC112 ht10 (0 : Int32) q9) (fun q11 => ?_)
          exact r_retI rfl rfl
        · refine r_pure rfl rfl ?_
          exact r_retI rfl rfl
/-! X0_partsOf -/
def s_X0_partsOf_L4 (b : Nat) (v1 : Int32) (S : HS) : Nat → Int32 → Int32 → Option Int32
  | 0, _, _ => none
  | K + 1, v2, v3 =>
    if (5 : Int32) ≤ v3 then
      some v2
    else
      Option.bind (ag (ga S (b + 2)) v3) fun a1 =>
      if a1 ≠ v1 then
        s_X0_partsOf_L4 b v1 S K v2 (v3 + (1 : Int32))
      else
        s_X0_partsOf_L4 b v1 S K (v2 ||| ((1 : Int32) <<< (v3 &&& (31 : Int32)))) (v3 + (1 : Int32))
def s_X0_partsOf (b : Nat) (v1 : Int32) (S : HS) : Option Int32 :=
  s_X0_partsOf_L4 b v1 S 40 (0 : Int32) (0 : Int32)
set_option maxRecDepth 100000 in
theorem rl_X0_partsOf_L4 {e : Nat} (he : 0 ≤ e) {O : HS} (b : Nat) (hb : isC b) (v1 : Int32) (S : HS) {n : Nat} : ∀ (K : Nat) (v2 : Int32) (v3 : Int32), Lm (oI (en false O S)) (s_X0_partsOf_L4 b v1 S K v2 v3) (run (CF e) (k_X0_partsOf false) (n + (17 * K + 0)) 4 [some (.ref b), some (.int v1), some (.int v2), some (.int v3)] [] (en false O S)) := by
  intro K
  induction K with
  | zero =>
    intros
    exact lm_none
  | succ K ih =>
    intro v2 v3
    rw [show n + (17 * (K + 1) + 0) = n + (17 * K + 0) + 17 by omega]
    rw [s_X0_partsOf_L4]
    refine r_pure rfl rfl ?_
    refine r_pure rfl rfl ?_
    refine r_if2 rfl rfl ?_ ?_
    · refine r_pure rfl rfl ?_
      exact r_retI rfl rfl
    · refine r_pure rfl rfl ?_
      refine r_get rfl (en_get (b := false) (k := b) (L := 4) (zC0 hb) (lC0 hb)) (fo_get (S := S) rfl) ?_
      refine r_pure rfl rfl ?_
      refine r_iald rfl (en_get (b := false) (k := (b + 2)) (L := 0) (zC2 hb) (lC2 hb)) (fun a1 => ?_)
      refine r_pure rfl rfl ?_
      refine r_if2 rfl rfl ?_ ?_
      · refine r_pure (lv' := [some (.ref b), some (.int v1), some (.int v2), some (.int (v3 + (1 : Int32)))]) rfl rfl ?_
        refine r_pure rfl rfl ?_
        exact lm_le (by omega) (ih v2 (v3 + (1 : Int32)))
      · refine r_pure rfl rfl ?_
        refine r_pure rfl rfl ?_
        refine r_pure rfl rfl ?_
        refine r_pure rfl rfl ?_
        refine r_pure rfl rfl ?_
        refine r_pure (lv' := [some (.ref b), some (.int v1), some (.int (v2 ||| ((1 : Int32) <<< (v3 &&& (31 : Int32))))), some (.int v3)]) rfl rfl ?_
        refine r_pure (lv' := [some (.ref b), some (.int v1), some (.int (v2 ||| ((1 : Int32) <<< (v3 &&& (31 : Int32))))), some (.int (v3 + (1 : Int32)))]) rfl rfl ?_
        refine r_pure rfl rfl ?_
        exact lm_le (by omega) (ih (v2 ||| ((1 : Int32) <<< (v3 &&& (31 : Int32)))) (v3 + (1 : Int32)))
set_option maxRecDepth 100000 in
theorem rf_X0_partsOf {d : Nat} (hd : 1 ≤ d) {O : HS} (b : Nat) (hb : isC b) (v1 : Int32) (S : HS) : Lm (oI (en false O S)) (s_X0_partsOf b v1 S) (CF d 7 [.ref b, .int v1] (en false O S)) := by
  unfold s_X0_partsOf
  obtain ⟨e, rfl⟩ : ∃ e, d = e + 1 := ⟨d - 1, by omega⟩
  refine rm_of (lv := [some (.ref b), some (.int v1), none, none]) (k_X0_partsOf false) (by omega) rfl rfl (Nat.le_of_ble_eq_true rfl) ?_
  refine lm_le (n := 684) (by omega) ?_
  show Lm _ _ (run (CF e) _ _ _ _ _ _)
  refine r_pure rfl rfl ?_
  refine r_pure (lv' := [some (.ref b), some (.int v1), some (.int (0 : Int32)), none]) rfl rfl ?_
  refine r_pure rfl rfl ?_
  refine r_pure (lv' := [some (.ref b), some (.int v1), some (.int (0 : Int32)), some (.int (0 : Int32))]) rfl rfl ?_
  exact lm_le (by omega) (rl_X0_partsOf_L4 (n := 0) (by omega) b hb v1 S 40 (0 : Int32) (0 : Int32))
/-! X2_collect -/
def s_X2_collect_L8 (o : Nat) (t : Nat) (c : Nat) (v3 : Int32) : Nat → Int32 → HS → Option HS
  | 0, _, _ => none
  | K + 1, v4, S =>
    if v3 ≤ v4 then
      some S
    else
      if (5 : Int32) ≤ (gf S o 0) then
        some S
      else
        Option.bind (s_X0_loaded c v4 S) fun q2 =>
        Option.bind (ag (ga S (t + 8)) v4) fun a3 =>
        if q2 ≠ a3 then
          s_X2_collect_L8 o t c v3 K (v4 + (1 : Int32)) S
        else
          Option.bind (wa S (o + 1) (gf S o 0) v4) fun S4 =>
          Option.bind (s_X0_partsOf c v4 S4) fun q5 =>
          Option.bind (wa S4 (o + 2) (gf S4 o 0) q5) fun S6 =>
          Option.bind (pf S6 o 0 ((gf S6 o 0) + (1 : Int32))) fun S7 =>
          s_X2_collect_L8 o t c v3 K (v4 + (1 : Int32)) S7
def s_X2_collect (o : Nat) (t : Nat) (c : Nat) (v3 : Int32) (S : HS) : Option HS :=
  Option.bind (pf S o 0 (0 : Int32)) fun S1 =>
  s_X2_collect_L8 o t c v3 40 (0 : Int32) S1
set_option maxRecDepth 100000 in
theorem rl_X2_collect_L8 {e : Nat} (he : 1 ≤ e) {O : HS} (o : Nat) (t : Nat) (c : Nat) (ho : isO o) (ht : isT t) (hc : isC c) (v3 : Int32) {n : Nat} : ∀ (K : Nat) (v4 : Int32) (S : HS), Lm (oV false O) (s_X2_collect_L8 o t c v3 K v4 S) (run (CF e) (k_X2_collect false) (n + (37 * K + 0)) 8 [some (.ref o), some (.ref t), some (.ref c), some (.int v3), some (.int v4)] [] (en false O S)) := by
  intro K
  induction K with
  | zero =>
    intros
    exact lm_none
  | succ K ih =>
    intro v4 S
    rw [show n + (37 * (K + 1) + 0) = n + (37 * K + 0) + 37 by omega]
    rw [s_X2_collect_L8]
    refine r_pure rfl rfl ?_
    refine r_pure rfl rfl ?_
    refine r_if2 rfl rfl ?_ ?_
    · exact r_retV rfl rfl
    · refine r_pure rfl rfl ?_
      refine r_get rfl (en_get (b := false) (k := o) (L := 6) (zO0 ho) (lO0 ho)) (fo_get (S := S) rfl) ?_
      refine r_pure rfl rfl ?_
      refine r_if2 rfl rfl ?_ ?_
      · exact r_retV rfl rfl
      · refine r_pure rfl rfl ?_
        refine r_pure rfl rfl ?_
        refine r_callV_I rfl rfl (en_get (b := false) (k := c) (L := 4) (zC0 hc) (lC0 hc)) (Nat.le_of_ble_eq_true rfl) (rf_X0_loaded (by omega) c hc v4 S) (fun q2 => ?_)
        refine r_pure rfl rfl ?_
        refine r_get rfl (en_get (b := false) (k := t) (L := 10) (zT0 ht) (lT0 ht)) (fo_get (S := S) rfl) ?_
        refine r_pure rfl rfl ?_
        refine r_iald rfl (en_get (b := false) (k := (t + 8)) (L := 0) (zT8 ht) (lT8 ht)) (fun a3 => ?_)
        refine r_if2 rfl rfl ?_ ?_
        · refine r_pure (lv' := [some (.ref o), some (.ref t), some (.ref c), some (.int v3), some (.int (v4 + (1 : Int32)))]) rfl rfl ?_
          refine r_pure rfl rfl ?_
          exact lm_le (by omega) (ih (v4 + (1 : Int32)) S)
        · refine r_pure rfl rfl ?_
          refine r_get rfl (en_get (b := false) (k := o) (L := 6) (zO0 ho) (lO0 ho)) (fo_get (S := S) rfl) ?_
          refine r_pure rfl rfl ?_
          refine r_get rfl (en_get (b := false) (k := o) (L := 6) (zO0 ho) (lO0 ho)) (fo_get (S := S) rfl) ?_
          refine r_pure rfl rfl ?_
          refine r_iastI rfl (zO1 ho) (lO1 ho) (fun S4 => ?_)
          refine r_pure rfl rfl ?_
          refine r_get rfl (en_get (b := false) (k := o) (L := 6) (zO0 ho) (lO0 ho)) (fo_get (S := S4) rfl) ?_
          refine r_pure rfl rfl ?_
          refine r_get rfl (en_get (b := false) (k := o) (L := 6) (zO0 ho) (lO0 ho)) (fo_get (S := S4) rfl) ?_
          refine r_pure rfl rfl ?_
          refine r_pure rfl rfl ?_
          refine r_callV_I rfl rfl (en_get (b := false) (k := c) (L := 4) (zC0 hc) (lC0 hc)) (Nat.le_of_ble_eq_true rfl) (rf_X0_partsOf (by omega) c hc v4 S4) (fun q5 => ?_)
          refine r_iastI rfl (zO2 ho) (lO2 ho) (fun S6 => ?_)
          refine r_pure rfl rfl ?_
          refine r_pure rfl rfl ?_
          refine r_get rfl (en_get (b := false) (k := o) (L := 6) (zO0 ho) (lO0 ho)) (fo_get (S := S6) rfl) ?_
          refine r_pure rfl rfl ?_
          refine r_pure rfl rfl ?_
          refine r_putI rfl (zO0 ho) (lO0 ho) rfl rfl (fun S7 => ?_)
          refine r_pure (lv' := [some (.ref o), some (.ref t), some (.ref c), some (.int v3), some (.int (v4 + (1 : Int32)))]) rfl rfl ?_
          refine r_pure rfl rfl ?_
          exact lm_le (by omega) (ih (v4 + (1 : Int32)) S7)
set_option maxRecDepth 100000 in
theorem rf_X2_collect {d : Nat} (hd : 2 ≤ d) {O : HS} (o : Nat) (t : Nat) (c : Nat) (ho : isO o) (ht : isT t) (hc : isC c) (v3 : Int32) (S : HS) : Lm (oV false O) (s_X2_collect o t c v3 S) (CF d 20 [.ref o, .ref t, .ref c, .int v3] (en false O S)) := by
  unfold s_X2_collect
  obtain ⟨e, rfl⟩ : ∃ e, d = e + 1 := ⟨d - 1, by omega⟩
  refine rm_of (lv := [some (.ref o), some (.ref t), some (.ref c), some (.int v3), none]) (k_X2_collect false) (by omega) rfl rfl (Nat.le_of_ble_eq_true rfl) ?_
  refine lm_le (n := 1485) (by omega) ?_
  show Lm _ _ (run (CF e) _ _ _ _ _ _)
  refine r_pure rfl rfl ?_
  refine r_pure rfl rfl ?_
  refine r_putI rfl (zO0 ho) (lO0 ho) rfl rfl (fun S1 => ?_)
  refine r_pure rfl rfl ?_
  refine r_pure (lv' := [some (.ref o), some (.ref t), some (.ref c), some (.int v3), some (.int (0 : Int32))]) rfl rfl ?_
  exact lm_le (by omega) (rl_X2_collect_L8 (n := 0) (by omega) o t c ho ht hc v3 40 (0 : Int32) S1)
/-! X2_partsOfAll -/
def s_X2_partsOfAll_L4 (o : Nat) (v1 : Int32) (S : HS) : Nat → Int32 → Int32 → Option Int32
  | 0, _, _ => none
  | K + 1, v2, v3 =>
    if (gf S o 0) ≤ v3 then
      some v2
    else
      if ((v1 >>> (v3 &&& (31 : Int32))) &&& (1 : Int32)) = (0 : Int32) then
        s_X2_partsOfAll_L4 o v1 S K v2 (v3 + (1 : Int32))
      else
        Option.bind (ag (ga S (o + 2)) v3) fun a1 =>
        s_X2_partsOfAll_L4 o v1 S K (v2 ||| a1) (v3 + (1 : Int32))
def s_X2_partsOfAll (o : Nat) (v1 : Int32) (S : HS) : Option Int32 :=
  s_X2_partsOfAll_L4 o v1 S 40 (0 : Int32) (0 : Int32)
set_option maxRecDepth 100000 in
theorem rl_X2_partsOfAll_L4 {e : Nat} (he : 0 ≤ e) {O : HS} (o : Nat) (ho : isO o) (v1 : Int32) (S : HS) {n : Nat} : ∀ (K : Nat) (v2 : Int32) (v3 : Int32), Lm (oI (en false O S)) (s_X2_partsOfAll_L4 o v1 S K v2 v3) (run (CF e) (k_X2_partsOfAll false) (n + (19 * K + 0)) 4 [some (.ref o), some (.int v1), some (.int v2), some (.int v3)] [] (en false O S)) := by
  intro K
  induction K with
  | zero =>
    intros
    exact lm_none
  | succ K ih =>
    intro v2 v3
    rw [show n + (19 * (K + 1) + 0) = n + (19 * K + 0) + 19 by omega]
    rw [s_X2_partsOfAll_L4]
    refine r_pure rfl rfl ?_
    refine r_pure rfl rfl ?_
    refine r_get rfl (en_get (b := false) (k := o) (L := 6) (zO0 ho) (lO0 ho)) (fo_get (S := S) rfl) ?_
    refine r_if2 rfl rfl ?_ ?_
    · refine r_pure rfl rfl ?_
      exact r_retI rfl rfl
    · refine r_pure rfl rfl ?_
      refine r_pure rfl rfl ?_
      refine r_pure rfl rfl ?_
      refine r_pure rfl rfl ?_
      refine r_pure rfl rfl ?_
      refine r_if1 rfl rfl ?_ ?_
      · refine r_pure (lv' := [some (.ref o), some (.int v1), some (.int v2), some (.int (v3 + (1 : Int32)))]) rfl rfl ?_
        refine r_pure rfl rfl ?_
        exact lm_le (by omega) (ih v2 (v3 + (1 : Int32)))
      · refine r_pure rfl rfl ?_
        refine r_pure rfl rfl ?_
        refine r_get rfl (en_get (b := false) (k := o) (L := 6) (zO0 ho) (lO0 ho)) (fo_get (S := S) rfl) ?_
        refine r_pure rfl rfl ?_
        refine r_iald rfl (en_get (b := false) (k := (o + 2)) (L := 0) (zO2 ho) (lO2 ho)) (fun a1 => ?_)
        refine r_pure rfl rfl ?_
        refine r_pure (lv' := [some (.ref o), some (.int v1), some (.int (v2 ||| a1)), some (.int v3)]) rfl rfl ?_
        refine r_pure (lv' := [some (.ref o), some (.int v1), some (.int (v2 ||| a1)), some (.int (v3 + (1 : Int32)))]) rfl rfl ?_
        refine r_pure rfl rfl ?_
        exact lm_le (by omega) (ih (v2 ||| a1) (v3 + (1 : Int32)))
set_option maxRecDepth 100000 in
theorem rf_X2_partsOfAll {d : Nat} (hd : 1 ≤ d) {O : HS} (o : Nat) (ho : isO o) (v1 : Int32) (S : HS) : Lm (oI (en false O S)) (s_X2_partsOfAll o v1 S) (CF d 21 [.ref o, .int v1] (en false O S)) := by
  unfold s_X2_partsOfAll
  obtain ⟨e, rfl⟩ : ∃ e, d = e + 1 := ⟨d - 1, by omega⟩
  refine rm_of (lv := [some (.ref o), some (.int v1), none, none]) (k_X2_partsOfAll false) (by omega) rfl rfl (Nat.le_of_ble_eq_true rfl) ?_
  refine lm_le (n := 764) (by omega) ?_
  show Lm _ _ (run (CF e) _ _ _ _ _ _)
  refine r_pure rfl rfl ?_
  refine r_pure (lv' := [some (.ref o), some (.int v1), some (.int (0 : Int32)), none]) rfl rfl ?_
  refine r_pure rfl rfl ?_
  refine r_pure (lv' := [some (.ref o), some (.int v1), some (.int (0 : Int32)), some (.int (0 : Int32))]) rfl rfl ?_
  exact lm_le (by omega) (rl_X2_partsOfAll_L4 (n := 0) (by omega) o ho v1 S 40 (0 : Int32) (0 : Int32))
/-! X2_waysBehind -/
def s_X2_waysBehind_L4 (o : Nat) (v1 : Int32) (S : HS) : Nat → Int32 → Int32 → Option Int32
  | 0, _, _ => none
  | K + 1, v2, v3 =>
    if (gf S o 0) ≤ v3 then
      some v2
    else
      if ((v1 >>> (v3 &&& (31 : Int32))) &&& (1 : Int32)) ≠ (0 : Int32) then
        s_X2_waysBehind_L4 o v1 S K v2 (v3 + (1 : Int32))
      else
        Option.bind (ag (ga S (o + 3)) (v1 ||| ((1 : Int32) <<< (v3 &&& (31 : Int32))))) fun a1 =>
        s_X2_waysBehind_L4 o v1 S K (v2 + a1) (v3 + (1 : Int32))
def s_X2_waysBehind (o : Nat) (v1 : Int32) (S : HS) : Option Int32 :=
  s_X2_waysBehind_L4 o v1 S 40 (0 : Int32) (0 : Int32)
set_option maxRecDepth 100000 in
theorem rl_X2_waysBehind_L4 {e : Nat} (he : 0 ≤ e) {O : HS} (o : Nat) (ho : isO o) (v1 : Int32) (S : HS) {n : Nat} : ∀ (K : Nat) (v2 : Int32) (v3 : Int32), Lm (oI (en false O S)) (s_X2_waysBehind_L4 o v1 S K v2 v3) (run (CF e) (k_X2_waysBehind false) (n + (23 * K + 0)) 4 [some (.ref o), some (.int v1), some (.int v2), some (.int v3)] [] (en false O S)) := by
  intro K
  induction K with
  | zero =>
    intros
    exact lm_none
  | succ K ih =>
    intro v2 v3
    rw [show n + (23 * (K + 1) + 0) = n + (23 * K + 0) + 23 by omega]
    rw [s_X2_waysBehind_L4]
    refine r_pure rfl rfl ?_
    refine r_pure rfl rfl ?_
    refine r_get rfl (en_get (b := false) (k := o) (L := 6) (zO0 ho) (lO0 ho)) (fo_get (S := S) rfl) ?_
    refine r_if2 rfl rfl ?_ ?_
    · refine r_pure rfl rfl ?_
      exact r_retI rfl rfl
    · refine r_pure rfl rfl ?_
      refine r_pure rfl rfl ?_
      refine r_pure rfl rfl ?_
      refine r_pure rfl rfl ?_
      refine r_pure rfl rfl ?_
      refine r_if1 rfl rfl ?_ ?_
      · refine r_pure (lv' := [some (.ref o), some (.int v1), some (.int v2), some (.int (v3 + (1 : Int32)))]) rfl rfl ?_
        refine r_pure rfl rfl ?_
        exact lm_le (by omega) (ih v2 (v3 + (1 : Int32)))
      · refine r_pure rfl rfl ?_
        refine r_pure rfl rfl ?_
        refine r_get rfl (en_get (b := false) (k := o) (L := 6) (zO0 ho) (lO0 ho)) (fo_get (S := S) rfl) ?_
        refine r_pure rfl rfl ?_
        refine r_pure rfl rfl ?_
        refine r_pure rfl rfl ?_
        refine r_pure rfl rfl ?_
        refine r_pure rfl rfl ?_
        refine r_iald rfl (en_get (b := false) (k := (o + 3)) (L := 0) (zO3 ho) (lO3 ho)) (fun a1 => ?_)
        refine r_pure rfl rfl ?_
        refine r_pure (lv' := [some (.ref o), some (.int v1), some (.int (v2 + a1)), some (.int v3)]) rfl rfl ?_
        refine r_pure (lv' := [some (.ref o), some (.int v1), some (.int (v2 + a1)), some (.int (v3 + (1 : Int32)))]) rfl rfl ?_
        refine r_pure rfl rfl ?_
        exact lm_le (by omega) (ih (v2 + a1) (v3 + (1 : Int32)))
set_option maxRecDepth 100000 in
theorem rf_X2_waysBehind {d : Nat} (hd : 1 ≤ d) {O : HS} (o : Nat) (ho : isO o) (v1 : Int32) (S : HS) : Lm (oI (en false O S)) (s_X2_waysBehind o v1 S) (CF d 22 [.ref o, .int v1] (en false O S)) := by
  unfold s_X2_waysBehind
  obtain ⟨e, rfl⟩ : ∃ e, d = e + 1 := ⟨d - 1, by omega⟩
  refine rm_of (lv := [some (.ref o), some (.int v1), none, none]) (k_X2_waysBehind false) (by omega) rfl rfl (Nat.le_of_ble_eq_true rfl) ?_
  refine lm_le (n := 924) (by omega) ?_
  show Lm _ _ (run (CF e) _ _ _ _ _ _)
  refine r_pure rfl rfl ?_
  refine r_pure (lv' := [some (.ref o), some (.int v1), some (.int (0 : Int32)), none]) rfl rfl ?_
  refine r_pure rfl rfl ?_
  refine r_pure (lv' := [some (.ref o), some (.int v1), some (.int (0 : Int32)), some (.int (0 : Int32))]) rfl rfl ?_
  exact lm_le (by omega) (rl_X2_waysBehind_L4 (n := 0) (by omega) o ho v1 S 40 (0 : Int32) (0 : Int32))
