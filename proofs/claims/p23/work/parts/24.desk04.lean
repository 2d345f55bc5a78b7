/-! X2_count -/
def s_X2_count_J50 (o : Nat) (t : Nat) (c : Nat) (rc21 : Int32 → HS → Option (Int32 × HS)) (v4 : Int32) (v5 : Int32) (x0 : Int32) (S : HS) : Option (Int32 × HS) :=
  if x0 ≠ (0 : Int32) then
    if v5 ≠ v4 then
      Option.bind (s_X2_waysBehind o v5 S) fun q3 =>
      Option.bind (wa S (o + 3) v5 q3) fun S4 =>
      rc21 (v5 + (-1 : Int32)) S4
    else
      Option.bind (wa S (o + 3) v5 (1 : Int32)) fun S5 =>
      rc21 (v5 + (-1 : Int32)) S5
  else
    Option.bind (wa S (o + 3) v5 (0 : Int32)) fun S6 =>
    rc21 (v5 + (-1 : Int32)) S6
def s_X2_count_J45 (o : Nat) (t : Nat) (c : Nat) (rc21 : Int32 → HS → Option (Int32 × HS)) (v4 : Int32) (v5 : Int32) (S : HS) : Option (Int32 × HS) :=
  s_X2_count_J50 o t c rc21 v4 v5 (1 : Int32) S
def s_X2_count_L21 (o : Nat) (t : Nat) (c : Nat) (v4 : Int32) : Nat → Int32 → HS → Option (Int32 × HS)
  | 0, _, _ => none
  | K + 1, v5, S =>
    if v5 < (0 : Int32) then
      Option.bind (ag (ga S (o + 3)) (0 : Int32)) fun a2 =>
      some (a2, S)
    else
      if v5 = (0 : Int32) then
        s_X2_count_J45 o t c (s_X2_count_L21 o t c v4 K) v4 v5 S
      else
        Option.bind (s_X2_partsOfAll o v5 S) fun q7 =>
        Option.bind (s_X0_standing c t q7 S) fun q8 =>
        if q8 ≠ (0 : Int32) then
          s_X2_count_J50 o t c (s_X2_count_L21 o t c v4 K) v4 v5 (0 : Int32) S
        else
          s_X2_count_J45 o t c (s_X2_count_L21 o t c v4 K) v4 v5 S
def s_X2_count (o : Nat) (t : Nat) (c : Nat) (v3 : Int32) (S : HS) : Option (Int32 × HS) :=
  Option.bind (s_X2_collect o t c v3 S) fun q1 =>
  s_X2_count_L21 o t c (((1 : Int32) <<< ((gf q1 o 0) &&& (31 : Int32))) - (1 : Int32)) 40 (((1 : Int32) <<< ((gf q1 o 0) &&& (31 : Int32))) - (1 : Int32)) q1
set_option maxRecDepth 100000 in
theorem rj_X2_count_J50 {e : Nat} (he : 3 ≤ e) {O : HS} (o : Nat) (t : Nat) (c : Nat) (ho : isO o) (ht : isT t) (hc : isC c) (rc21 : Int32 → HS → Option (Int32 × HS)) (v4 : Int32) (v5 : Int32) (x0 : Int32) {n : Nat} (hrc21 : ∀ (v5 : Int32) (S : HS) (j3 : Option Value) (j6 : Option Value), Lm (oIW false O) (rc21 v5 S) (run (CF e) (k_X2_count false) n 21 [some (.ref o), some (.ref t), some (.ref c), j3, some (.int v4), some (.int v5), j6] [] (en false O S))) (S : HS) (j3 : Option Value) (j6 : Option Value) : Lm (oIW false O) (s_X2_count_J50 o t c rc21 v4 v5 x0 S) (run (CF e) (k_X2_count false) (n + 15) 50 [some (.ref o), some (.ref t), some (.ref c), j3, some (.int v4), some (.int v5), j6] [.int x0] (en false O S)) := by
  unfold s_X2_count_J50
  refine r_pure (lv' := [some (.ref o), some (.ref t), some (.ref c), _, some (.int v4), some (.int v5), some (.int x0)]) rfl rfl ?_
  refine r_pure rfl rfl ?_
  refine r_if1 rfl rfl ?_ ?_
  · refine r_pure rfl rfl ?_
    refine r_get rfl (en_get (b := false) (k := o) (L := 6) (zO0 ho) (lO0 ho)) (fo_get (S := S) rfl) ?_
    refine r_pure rfl rfl ?_
    refine r_pure rfl rfl ?_
    refine r_pure rfl rfl ?_
    refine r_if2 rfl rfl ?_ ?_
    · refine r_pure rfl rfl ?_
      refine r_pure rfl rfl ?_
      refine r_callV_I rfl rfl (en_get (b := false) (k := o) (L := 6) (zO0 ho) (lO0 ho)) (Nat.le_of_ble_eq_true rfl) (rf_X2_waysBehind (by omega) o ho v5 S) (fun q3 => ?_)
      refine r_iastI rfl (zO3 ho) (lO3 ho) (fun S4 => ?_)
      refine r_pure (lv' := [some (.ref o), some (.ref t), some (.ref c), _, some (.int v4), some (.int (v5 + (-1 : Int32))), some (.int x0)]) rfl rfl ?_
      refine r_pure rfl rfl ?_
      exact lm_le (by omega) (hrc21 (v5 + (-1 : Int32)) S4 _ _)
    · refine r_pure rfl rfl ?_
      refine r_pure rfl rfl ?_
      refine r_iastI rfl (zO3 ho) (lO3 ho) (fun S5 => ?_)
      refine r_pure (lv' := [some (.ref o), some (.ref t), some (.ref c), _, some (.int v4), some (.int (v5 + (-1 : Int32))), some (.int x0)]) rfl rfl ?_
      refine r_pure rfl rfl ?_
      exact lm_le (by omega) (hrc21 (v5 + (-1 : Int32)) S5 _ _)
  · refine r_pure rfl rfl ?_
    refine r_get rfl (en_get (b := false) (k := o) (L := 6) (zO0 ho) (lO0 ho)) (fo_get (S := S) rfl) ?_
    refine r_pure rfl rfl ?_
    refine r_pure rfl rfl ?_
    refine r_iastI rfl (zO3 ho) (lO3 ho) (fun S6 => ?_)
    refine r_pure rfl rfl ?_
    refine r_pure (lv' := [some (.ref o), some (.ref t), some (.ref c), _, some (.int v4), some (.int (v5 + (-1 : Int32))), some (.int x0)]) rfl rfl ?_
    refine r_pure rfl rfl ?_
    exact lm_le (by omega) (hrc21 (v5 + (-1 : Int32)) S6 _ _)
set_option maxRecDepth 100000 in
theorem rj_X2_count_J45 {e : Nat} (he : 3 ≤ e) {O : HS} (o : Nat) (t : Nat) (c : Nat) (ho : isO o) (ht : isT t) (hc : isC c) (rc21 : Int32 → HS → Option (Int32 × HS)) (v4 : Int32) (v5 : Int32) {n : Nat} (hrc21 : ∀ (v5 : Int32) (S : HS) (j3 : Option Value) (j6 : Option Value), Lm (oIW false O) (rc21 v5 S) (run (CF e) (k_X2_count false) n 21 [some (.ref o), some (.ref t), some (.ref c), j3, some (.int v4), some (.int v5), j6] [] (en false O S))) (S : HS) (j3 : Option Value) (j6 : Option Value) : Lm (oIW false O) (s_X2_count_J45 o t c rc21 v4 v5 S) (run (CF e) (k_X2_count false) (n + 17) 45 [some (.ref o), some (.ref t), some (.ref c), j3, some (.int v4), some (.int v5), j6] [] (en false O S)) := by
  unfold s_X2_count_J45
  refine r_pure rfl rfl ?_
  refine r_pure rfl rfl ?_
  exact lm_le (by omega) (rj_X2_count_J50 (by omega) o t c ho ht hc rc21 v4 v5 (1 : Int32) hrc21 S _ _)
set_option maxRecDepth 100000 in
theorem rl_X2_count_L21 {e : Nat} (he : 3 ≤ e) {O : HS} (o : Nat) (t : Nat) (c : Nat) (ho : isO o) (ht : isT t) (hc : isC c) (v4 : Int32) {n : Nat} : ∀ (K : Nat) (v5 : Int32) (S : HS) (j3 : Option Value) (j6 : Option Value), Lm (oIW false O) (s_X2_count_L21 o t c v4 K v5 S) (run (CF e) (k_X2_count false) (n + (28 * K + 0)) 21 [some (.ref o), some (.ref t), some (.ref c), j3, some (.int v4), some (.int v5), j6] [] (en false O S)) := by
  intro K
  induction K with
  | zero =>
    intros
    exact lm_none
  | succ K ih =>
    intro v5 S j3 j6
    rw [show n + (28 * (K + 1) + 0) = n + (28 * K + 0) + 28 by omega]
    rw [s_X2_count_L21]
    refine r_pure rfl rfl ?_
    refine r_if1 rfl rfl ?_ ?_
    · refine r_pure rfl rfl ?_
      refine r_get rfl (en_get (b := false) (k := o) (L := 6) (zO0 ho) (lO0 ho)) (fo_get (S := S) rfl) ?_
      refine r_pure rfl rfl ?_
      refine r_iald rfl (en_get (b := false) (k := (o + 3)) (L := 0) (zO3 ho) (lO3 ho)) (fun a2 => ?_)
      exact r_retI rfl rfl
    · refine r_pure rfl rfl ?_
      refine r_if1 rfl rfl ?_ ?_
      · exact lm_le (by omega) (rj_X2_count_J45 (by omega) o t c ho ht hc (s_X2_count_L21 o t c v4 K) v4 v5 ih S _ _)
      · refine r_pure rfl rfl ?_
        refine r_pure rfl rfl ?_
        refine r_pure rfl rfl ?_
        refine r_pure rfl rfl ?_
        refine r_callV_I rfl rfl (en_get (b := false) (k := o) (L := 6) (zO0 ho) (lO0 ho)) (Nat.le_of_ble_eq_true rfl) (rf_X2_partsOfAll (by omega) o ho v5 S) (fun q7 => ?_)
        refine r_callV_I rfl rfl (en_get (b := false) (k := c) (L := 4) (zC0 hc) (lC0 hc)) (Nat.le_of_ble_eq_true rfl) (rf_X0_standing (by omega) c t hc ht q7 S) (fun q8 => ?_)
        refine r_if1 rfl rfl ?_ ?_
        · refine r_pure rfl rfl ?_
          exact lm_le (by omega) (rj_X2_count_J50 (by omega) o t c ho ht hc (s_X2_count_L21 o t c v4 K) v4 v5 (0 : Int32) ih S _ _)
        · exact lm_le (by omega) (rj_X2_count_J45 (by omega) o t c ho ht hc (s_X2_count_L21 o t c v4 K) v4 v5 ih S _ _)
set_option maxRecDepth 100000 in
theorem rf_X2_count {d : Nat} (hd : 4 ≤ d) {O : HS} (o : Nat) (t : Nat) (c : Nat) (ho : isO o) (ht : isT t) (hc : isC c) (v3 : Int32) (S : HS) : Lm (oIW false O) (s_X2_count o t c v3 S) (CF d 18 [.ref o, .ref t, .ref c, .int v3] (en false O S)) := by
  unfold s_X2_count
  obtain ⟨e, rfl⟩ : ∃ e, d = e + 1 := ⟨d - 1, by omega⟩
  refine rm_of (lv := [some (.ref o), some (.ref t), some (.ref c), some (.int v3), none, none, none]) (k_X2_count false) (by omega) rfl rfl (Nat.le_of_ble_eq_true rfl) ?_
  refine lm_le (n := 1134) (by omega) ?_
  show Lm _ _ (run (CF e) _ _ _ _ _ _)
  refine r_pure rfl rfl ?_
  refine r_pure rfl rfl ?_
  refine r_pure rfl rfl ?_
  refine r_pure rfl rfl ?_
  refine r_callV_VW rfl rfl (en_get (b := false) (k := o) (L := 6) (zO0 ho) (lO0 ho)) (Nat.le_of_ble_eq_true rfl) (rf_X2_collect (by omega) o t c ho ht hc v3 S) (fun q1 => ?_)
  refine r_pure rfl rfl ?_
  refine r_pure rfl rfl ?_
  refine r_get rfl (en_get (b := false) (k := o) (L := 6) (zO0 ho) (lO0 ho)) (fo_get (S := q1) rfl) ?_
  refine r_pure rfl rfl ?_
  refine r_pure rfl rfl ?_
  refine r_pure rfl rfl ?_
  refine r_pure (lv' := [some (.ref o), some (.ref t), some (.ref c), some (.int v3), some (.int (((1 : Int32) <<< ((gf q1 o 0) &&& (31 : Int32))) - (1 : Int32))), none, none]) rfl rfl ?_
  refine r_pure rfl rfl ?_
  refine r_pure (lv' := [some (.ref o), some (.ref t), some (.ref c), some (.int v3), some (.int (((1 : Int32) <<< ((gf q1 o 0) &&& (31 : Int32))) - (1 : Int32))), some (.int (((1 : Int32) <<< ((gf q1 o 0) &&& (31 : Int32))) - (1 : Int32))), none]) rfl rfl ?_
  exact lm_le (by omega) (rl_X2_count_L21 (n := 0) (by omega) o t c ho ht hc (((1 : Int32) <<< ((gf q1 o 0) &&& (31 : Int32))) - (1 : Int32)) 40 (((1 : Int32) <<< ((gf q1 o 0) &&& (31 : Int32))) - (1 : Int32)) q1 _ _)
/-! X7_orders -/
def s_X7_orders (S : HS) : Option (Int32 × HS) :=
  Option.bind (tl (gr S 0 4)) fun t1 =>
  Option.bind (s_X2_count 117 t1 23 (gf S 22 1) S) fun q2 =>
  some (q2.1, q2.2)
set_option maxRecDepth 100000 in
theorem rf_X7_orders {d : Nat} (hd : 5 ≤ d) {O : HS} (S : HS) : Lm (oIW false O) (s_X7_orders S) (CF d 78 [.ref 0] (en false O S)) := by
  unfold s_X7_orders
  obtain ⟨e, rfl⟩ : ∃ e, d = e + 1 := ⟨d - 1, by omega⟩
  refine rm_of (lv := [some (.ref 0)]) (k_X7_orders false) (by omega) rfl rfl (Nat.le_of_ble_eq_true rfl) ?_
  refine lm_le (n := 12) (by omega) ?_
  show Lm _ _ (run (CF e) _ _ _ _ _ _)
  refine r_pure rfl rfl ?_
  refine r_get rfl (en_get (b := false) (k := 0) (L := 11) ⟨rfl, by decide⟩ rfl) (fo_get (S := S) rfl) ?_
  refine r_pure rfl rfl ?_
  refine r_getT rfl ⟨rfl, by decide⟩ rfl rfl (fun t1 ht1 => ?_)
  refine r_pure rfl rfl ?_
  refine r_get rfl (en_get (b := false) (k := 0) (L := 11) ⟨rfl, by decide⟩ rfl) (fo_get (S := S) rfl) ?_
  refine r_get rfl (en_get (b := false) (k := 22) (L := 9) ⟨rfl, by decide⟩ rfl) (fo_get (S := S) rfl) ?_
  refine r_pure rfl rfl ?_
  refine r_get rfl (en_get (b := false) (k := 0) (L := 11) ⟨rfl, by decide⟩ rfl) (fo_get (S := S) rfl) ?_
  refine r_get rfl (en_get (b := false) (k := 22) (L := 9) ⟨rfl, by decide⟩ rfl) (fo_get (S := S) rfl) ?_
  refine r_callV_IW rfl rfl (en_get (b := false) (k := 117) (L := 6) ⟨rfl, by decide⟩ rfl) (Nat.le_of_ble_eq_true rfl) (rf_X2_count (by omega) 117 t1 23 mO117 ht1 mC23 (gf S 22 1) S) (fun q2 => ?_)
  exact r_retI rfl rfl
/-! X2_leastBehind -/
def s_X2_leastBehind_L2 (o : Nat) (v1 : Int32) (S : HS) : Nat → Int32 → Option Int32
  | 0, _ => none
  | K + 1, v2 =>
    if (gf S o 0) ≤ v2 then
      some (-1 : Int32)
    else
      if ((v1 >>> (v2 &&& (31 : Int32))) &&& (1 : Int32)) ≠ (0 : Int32) then
        s_X2_leastBehind_L2 o v1 S K (v2 + (1 : Int32))
      else
        Option.bind (ag (ga S (o + 3)) (v1 ||| ((1 : Int32) <<< (v2 &&& (31 : Int32))))) fun a1 =>
        if a1 ≤ (0 : Int32) then
          s_X2_leastBehind_L2 o v1 S K (v2 + (1 : Int32))
        else
          some v2
def s_X2_leastBehind (o : Nat) (v1 : Int32) (S : HS) : Option Int32 :=
  s_X2_leastBehind_L2 o v1 S 40 (0 : Int32)
set_option maxRecDepth 100000 in
theorem rl_X2_leastBehind_L2 {e : Nat} (he : 0 ≤ e) {O : HS} (o : Nat) (ho : isO o) (v1 : Int32) (S : HS) {n : Nat} : ∀ (K : Nat) (v2 : Int32), Lm (oI (en false O S)) (s_X2_leastBehind_L2 o v1 S K v2) (run (CF e) (k_X2_leastBehind false) (n + (21 * K + 0)) 2 [some (.ref o), some (.int v1), some (.int v2)] [] (en false O S)) := by
  intro K
  induction K with
  | zero =>
    intros
    exact lm_none
  | succ K ih =>
    intro v2
    rw [show n + (21 * (K + 1) + 0) = n + (21 * K + 0) + 21 by omega]
    rw [s_X2_leastBehind_L2]
    refine r_pure rfl rfl ?_
    refine r_pure rfl rfl ?_
    refine r_get rfl (en_get (b := false) (k := o) (L := 6) (zO0 ho) (lO0 ho)) (fo_get (S := S) rfl) ?_
    refine r_if2 rfl rfl ?_ ?_
    · refine r_pure rfl rfl ?_
      exact r_retI rfl rfl
    · refine r_pure rfl rfl ?_
      refine r_pure rfl rfl ?_
      refine r_pure rfl rfl ?_
      refine r_pure rfl rfl ?_
      refine r_pure rfl rfl ?_
      refine r_if1 rfl rfl ?_ ?_
      · refine r_pure (lv' := [some (.ref o), some (.int v1), some (.int (v2 + (1 : Int32)))]) rfl rfl ?_
        refine r_pure rfl rfl ?_
        exact lm_le (by omega) (ih (v2 + (1 : Int32)))
      · refine r_pure rfl rfl ?_
        refine r_get rfl (en_get (b := false) (k := o) (L := 6) (zO0 ho) (lO0 ho)) (fo_get (S := S) rfl) ?_
        refine r_pure rfl rfl ?_
        refine r_pure rfl rfl ?_
        refine r_pure rfl rfl ?_
        refine r_pure rfl rfl ?_
        refine r_pure rfl rfl ?_
        refine r_iald rfl (en_get (b := false) (k := (o + 3)) (L := 0) (zO3 ho) (lO3 ho)) (fun a1 => ?_)
        refine r_if1 rfl rfl ?_ ?_
        · refine r_pure (lv' := [some (.ref o), some (.int v1), some (.int (v2 + (1 : Int32)))]) rfl rfl ?_
          refine r_pure rfl rfl ?_
          exact lm_le (by omega) (ih (v2 + (1 : Int32)))
        · refine r_pure rfl rfl ?_
          exact r_retI rfl rfl
set_option maxRecDepth 100000 in
theorem rf_X2_leastBehind {d : Nat} (hd : 1 ≤ d) {O : HS} (o : Nat) (ho : isO o) (v1 : Int32) (S : HS) : Lm (oI (en false O S)) (s_X2_leastBehind o v1 S) (CF d 23 [.ref o, .int v1] (en false O S)) := by
  unfold s_X2_leastBehind
  obtain ⟨e, rfl⟩ : ∃ e, d = e + 1 := ⟨d - 1, by omega⟩
  refine rm_of (lv := [some (.ref o), some (.int v1), none]) (k_X2_leastBehind false) (by omega) rfl rfl (Nat.le_of_ble_eq_true rfl) ?_
  refine lm_le (n := 842) (by omega) ?_
  show Lm _ _ (run (CF e) _ _ _ _ _ _)
  refine r_pure rfl rfl ?_
  refine r_pure (lv' := [some (.ref o), some (.int v1), some (.int (0 : Int32))]) rfl rfl ?_
  exact lm_le (by omega) (rl_X2_leastBehind_L2 (n := 0) (by omega) o ho v1 S 40 (0 : Int32))
/-! X2_dropOfFirst -/
def s_X2_dropOfFirst_L30 (o : Nat) (v1 : Int32) (S : HS) : Nat → Int32 → Int32 → Int32 → Option Int32
  | 0, _, _, _ => none
  | K + 1, v2, v3, v4 =>
    if v1 < v4 then
      Option.bind (ag (ga S (o + 1)) v3) fun a2 =>
      some a2
    else
      Option.bind (s_X2_leastBehind o v2 S) fun q3 =>
      if q3 ≠ (-1 : Int32) then
        s_X2_dropOfFirst_L30 o v1 S K (v2 ||| ((1 : Int32) <<< (q3 &&& (31 : Int32)))) q3 (v4 + (1 : Int32))
      else
        some (-1 : Int32)
def s_X2_dropOfFirst (o : Nat) (v1 : Int32) (S : HS) : Option Int32 :=
  if v1 < (0 : Int32) then
    some (-1 : Int32)
  else
    if (gf S o 0) ≤ v1 then
      some (-1 : Int32)
    else
      Option.bind (ag (ga S (o + 3)) (0 : Int32)) fun a1 =>
      if a1 ≠ (0 : Int32) then
        s_X2_dropOfFirst_L30 o v1 S 40 (0 : Int32) (-1 : Int32) (0 : Int32)
      else
        some (-1 : Int32)
set_option maxRecDepth 100000 in
theorem rl_X2_dropOfFirst_L30 {e : Nat} (he : 1 ≤ e) {O : HS} (o : Nat) (ho : isO o) (v1 : Int32) (S : HS) {n : Nat} : ∀ (K : Nat) (v2 : Int32) (v3 : Int32) (v4 : Int32), Lm (oI (en false O S)) (s_X2_dropOfFirst_L30 o v1 S K v2 v3 v4) (run (CF e) (k_X2_dropOfFirst false) (n + (18 * K + 0)) 30 [some (.ref o), some (.int v1), some (.int v2), some (.int v3), some (.int v4)] [] (en false O S)) := by
  intro K
  induction K with
  | zero =>
    intros
    exact lm_none
  | succ K ih =>
    intro v2 v3 v4
    rw [show n + (18 * (K + 1) + 0) = n + (18 * K + 0) + 18 by omega]
    rw [s_X2_dropOfFirst_L30]
    refine r_pure rfl rfl ?_
    refine r_pure rfl rfl ?_
    refine r_if2 rfl rfl ?_ ?_
    · refine r_pure rfl rfl ?_
      refine r_get rfl (en_get (b := false) (k := o) (L := 6) (zO0 ho) (lO0 ho)) (fo_get (S := S) rfl) ?_
      refine r_pure rfl rfl ?_
      refine r_iald rfl (en_get (b := false) (k := (o + 1)) (L := 0) (zO1 ho) (lO1 ho)) (fun a2 => ?_)
      exact r_retI rfl rfl
    · refine r_pure rfl rfl ?_
      refine r_pure rfl rfl ?_
      refine r_callV_I rfl rfl (en_get (b := false) (k := o) (L := 6) (zO0 ho) (lO0 ho)) (Nat.le_of_ble_eq_true rfl) (rf_X2_leastBehind (by omega) o ho v2 S) (fun q3 => ?_)
      refine r_pure (lv' := [some (.ref o), some (.int v1), some (.int v2), some (.int q3), some (.int v4)]) rfl rfl ?_
      refine r_pure rfl rfl ?_
      refine r_pure rfl rfl ?_
      refine r_if2 rfl rfl ?_ ?_
      · refine r_pure rfl rfl ?_
        refine r_pure rfl rfl ?_
        refine r_pure rfl rfl ?_
        refine r_pure rfl rfl ?_
        refine r_pure rfl rfl ?_
        refine r_pure (lv' := [some (.ref o), some (.int v1), some (.int (v2 ||| ((1 : Int32) <<< (q3 &&& (31 : Int32))))), some (.int q3), some (.int v4)]) rfl rfl ?_
        refine r_pure (lv' := [some (.ref o), some (.int v1), some (.int (v2 ||| ((1 : Int32) <<< (q3 &&& (31 : Int32))))), some (.int q3), some (.int (v4 + (1 : Int32)))]) rfl rfl ?_
        refine r_pure rfl rfl ?_
        exact lm_le (by omega) (ih (v2 ||| ((1 : Int32) <<< (q3 &&& (31 : Int32)))) q3 (v4 + (1 : Int32)))
      · refine r_pure rfl rfl ?_
        exact r_retI rfl rfl
set_option maxRecDepth 100000 in
theorem rf_X2_dropOfFirst {d : Nat} (hd : 2 ≤ d) {O : HS} (o : Nat) (ho : isO o) (v1 : Int32) (S : HS) : Lm (oI (en false O S)) (s_X2_dropOfFirst o v1 S) (CF d 19 [.ref o, .int v1] (en false O S)) := by
  unfold s_X2_dropOfFirst
  obtain ⟨e, rfl⟩ : ∃ e, d = e + 1 := ⟨d - 1, by omega⟩
  refine rm_of (lv := [some (.ref o), some (.int v1), none, none, none]) (k_X2_dropOfFirst false) (by omega) rfl rfl (Nat.le_of_ble_eq_true rfl) ?_
  refine lm_le (n := 737) (by omega) ?_
  show Lm _ _ (run (CF e) _ _ _ _ _ _)
  refine r_pure rfl rfl ?_
  refine r_if1 rfl rfl ?_ ?_
  · refine r_pure rfl rfl ?_
    exact r_retI rfl rfl
  · refine r_pure rfl rfl ?_
    refine r_pure rfl rfl ?_
    refine r_get rfl (en_get (b := false) (k := o) (L := 6) (zO0 ho) (lO0 ho)) (fo_get (S := S) rfl) ?_
    refine r_if2 rfl rfl ?_ ?_
    · refine r_pure rfl rfl ?_
      exact r_retI rfl rfl
    · refine r_pure rfl rfl ?_
      refine r_get rfl (en_get (b := false) (k := o) (L := 6) (zO0 ho) (lO0 ho)) (fo_get (S := S) rfl) ?_
      refine r_pure rfl rfl ?_
      refine r_iald rfl (en_get (b := false) (k := (o + 3)) (L := 0) (zO3 ho) (lO3 ho)) (fun a1 => ?_)
      refine r_if1 rfl rfl ?_ ?_
      · refine r_pure rfl rfl ?_
        refine r_pure (lv' := [some (.ref o), some (.int v1), some (.int (0 : Int32)), none, none]) rfl rfl ?_
        refine r_pure rfl rfl ?_
        refine r_pure (lv' := [some (.ref o), some (.int v1), some (.int (0 : Int32)), some (.int (-1 : Int32)), none]) rfl rfl ?_
        refine r_pure rfl rfl ?_
        refine r_pure (lv' := [some (.ref o), some (.int v1), some (.int (0 : Int32)), some (.int (-1 : Int32)), some (.int (0 : Int32))]) rfl rfl ?_
        exact lm_le (by omega) (rl_X2_dropOfFirst_L30 (n := 0) (by omega) o ho v1 S 40 (0 : Int32) (-1 : Int32) (0 : Int32))
      · refine r_pure rfl rfl ?_
        exact r_retI rfl rfl
/-! X7_ordered -/
def s_X7_ordered (v1 : Int32) (S : HS) : Option (Int32 × HS) :=
  Option.bind (tl (gr S 0 4)) fun t1 =>
  Option.bind (s_X2_count 117 t1 23 (gf S 22 1) S) fun q2 =>
  Option.bind (s_X2_dropOfFirst 117 v1 q2.2) fun q3 =>
  some (q3, q2.2)
set_option maxRecDepth 100000 in
theorem rf_X7_ordered {d : Nat} (hd : 5 ≤ d) {O : HS} (v1 : Int32) (S : HS) : Lm (oIW false O) (s_X7_ordered v1 S) (CF d 79 [.ref 0, .int v1] (en false O S)) := by
  unfold s_X7_ordered
  obtain ⟨e, rfl⟩ : ∃ e, d = e + 1 := ⟨d - 1, by omega⟩
  refine rm_of (lv := [some (.ref 0), some (.int v1)]) (k_X7_ordered false) (by omega) rfl rfl (Nat.le_of_ble_eq_true rfl) ?_
  refine lm_le (n := 17) (by omega) ?_
  show Lm _ _ (run (CF e) _ _ _ _ _ _)
  refine r_pure rfl rfl ?_
  refine r_get rfl (en_get (b := false) (k := 0) (L := 11) ⟨rfl, by decide⟩ rfl) (fo_get (S := S) rfl) ?_
  refine r_pure rfl rfl ?_
  refine r_getT rfl ⟨rfl, by decide⟩ rfl rfl (fun t1 ht1 => ?_)
  refine r_pure rfl rfl ?_
  refine r_get rfl (en_get (b := false) (k := 0) (L := 11) ⟨rfl, by decide⟩ rfl) (fo_get (S := S) rfl) ?_
  refine r_get rfl (en_get (b := false) (k := 22) (L := 9) ⟨rfl, by decide⟩ rfl) (fo_get (S := S) rfl) ?_
  refine r_pure rfl rfl ?_
  refine r_get rfl (en_get (b := false) (k := 0) (L := 11) ⟨rfl, by decide⟩ rfl) (fo_get (S := S) rfl) ?_
  refine r_get rfl (en_get (b := false) (k := 22) (L := 9) ⟨rfl, by decide⟩ rfl) (fo_get (S := S) rfl) ?_
  refine r_callV_IW rfl rfl (en_get (b := false) (k := 117) (L := 6) ⟨rfl, by decide⟩ rfl) (Nat.le_of_ble_eq_true rfl) (rf_X2_count (by omega) 117 t1 23 mO117 ht1 mC23 (gf S 22 1) S) (fun q2 => ?_)
  refine r_pure rfl rfl ?_
  refine r_pure rfl rfl ?_
  refine r_get rfl (en_get (b := false) (k := 0) (L := 11) ⟨rfl, by decide⟩ rfl) (fo_get (S := q2.2) rfl) ?_
  refine r_pure rfl rfl ?_
  refine r_callV_I rfl rfl (en_get (b := false) (k := 117) (L := 6) ⟨rfl, by decide⟩ rfl) (Nat.le_of_ble_eq_true rfl) (rf_X2_dropOfFirst (by omega) 117 mO117 v1 q2.2) (fun q3 => ?_)
  exact r_retI rfl rfl
/-! X7_isSo -/
def s_X7_isSo (v1 : Int32) (v2 : Int32) (S : HS) : Option Int32 :=
  Option.bind (s_X5_hasDrop v1 S) fun q1 =>
  if q1 = (0 : Int32) then
    some (0 : Int32)
  else
    Option.bind (tl (gr S 0 4)) fun t2 =>
    Option.bind (s_X5_how t2 v1 S) fun q3 =>
    if q3 ≠ v2 then
      some (0 : Int32)
    else
      some (1 : Int32)
set_option maxRecDepth 100000 in
theorem rf_X7_isSo {d : Nat} (hd : 3 ≤ d) {O : HS} (v1 : Int32) (v2 : Int32) (S : HS) : Lm (oI (en false O S)) (s_X7_isSo v1 v2 S) (CF d 92 [.ref 0, .int v1, .int v2] (en false O S)) := by
  unfold s_X7_isSo
  obtain ⟨e, rfl⟩ : ∃ e, d = e + 1 := ⟨d - 1, by omega⟩
  refine rm_of (lv := [some (.ref 0), some (.int v1), some (.int v2)]) (k_X7_isSo false) (by omega) rfl rfl (Nat.le_of_ble_eq_true rfl) ?_
  refine lm_le (n := 16) (by omega) ?_
  show Lm _ _ (run (CF e) _ _ _ _ _ _)
  refine r_pure rfl rfl ?_
  refine r_get rfl (en_get (b := false) (k := 0) (L := 11) ⟨rfl, by decide⟩ rfl) (fo_get (S := S) rfl) ?_
  refine r_pure rfl rfl ?_
  refine r_callV_I rfl rfl (en_get (b := false) (k := 22) (L := 9) ⟨rfl, by decide⟩ rfl) (Nat.le_of_ble_eq_true rfl) (rf_X5_hasDrop (by omega) v1 S) (fun q1 => ?_)
  refine r_if1 rfl rfl ?_ ?_
  · refine r_pure rfl rfl ?_
    exact r_retZ rfl (Or.inl rfl) rfl
  · refine r_pure rfl rfl ?_
    refine r_get rfl (en_get (b := false) (k := 0) (L := 11) ⟨rfl, by decide⟩ rfl) (fo_get (S := S) rfl) ?_
    refine r_pure rfl rfl ?_
    refine r_getT rfl ⟨rfl, by decide⟩ rfl rfl (fun t2 ht2 => ?_)
    refine r_pure rfl rfl ?_
    refine r_callV_I rfl rfl (en_get (b := false) (k := 22) (L := 9) ⟨rfl, by decide⟩ rfl) (Nat.le_of_ble_eq_true rfl) (rf_X5_how (by omega) t2 ht2 v1 S) (fun q3 => ?_)
    refine r_pure rfl rfl ?_
    refine r_if2 rfl rfl ?_ ?_
    · refine r_pure rfl rfl ?_
      exact r_retZ rfl (Or.inl rfl) rfl
    · refine r_pure rfl rfl ?_
      refine r_pure rfl rfl ?_
      exact r_retZ rfl (Or.inr rfl) rfl
/-! X7_without -/
def s_X7_without (v1 : Int32) (S : HS) : Option Int32 :=
  Option.bind (s_X7_isSo v1 (1 : Int32) S) fun q1 =>
  if q1 ≠ (0 : Int32) then
    Option.bind (tl (gr S 0 4)) fun t2 =>
    Option.bind (s_X0_partsOf 23 v1 S) fun q3 =>
    Option.bind (s_X0_standing 23 t2 q3 S) fun q4 =>
    some q4
  else
    some (-1 : Int32)
set_option maxRecDepth 100000 in
theorem rf_X7_without {d : Nat} (hd : 4 ≤ d) {O : HS} (v1 : Int32) (S : HS) : Lm (oI (en false O S)) (s_X7_without v1 S) (CF d 80 [.ref 0, .int v1] (en false O S)) := by
  unfold s_X7_without
  obtain ⟨e, rfl⟩ : ∃ e, d = e + 1 := ⟨d - 1, by omega⟩
  refine rm_of (lv := [some (.ref 0), some (.int v1)]) (k_X7_without false) (by omega) rfl rfl (Nat.le_of_ble_eq_true rfl) ?_
  refine lm_le (n := 17) (by omega) ?_
  show Lm _ _ (run (CF e) _ _ _ _ _ _)
  refine r_pure rfl rfl ?_
  refine r_pure rfl rfl ?_
  refine r_pure rfl rfl ?_
  refine r_callV_I rfl rfl (en_get (b := false) (k := 0) (L := 11) ⟨rfl, by decide⟩ rfl) (Nat.le_of_ble_eq_true rfl) (rf_X7_isSo (by omega) v1 (1 : Int32) S) (fun q1 => ?_)
  refine r_if1 rfl rfl ?_ ?_
  · refine r_pure rfl rfl ?_
    refine r_get rfl (en_get (b := false) (k := 0) (L := 11) ⟨rfl, by decide⟩ rfl) (fo_get (S := S) rfl) ?_
    refine r_get rfl (en_get (b := false) (k := 22) (L := 9) ⟨rfl, by decide⟩ rfl) (fo_get (S := S) rfl) ?_
    refine r_pure rfl rfl ?_
    refine r_getT rfl ⟨rfl, by decide⟩ rfl rfl (fun t2 ht2 => ?_)
    refine r_pure rfl rfl ?_
    refine r_get rfl (en_get (b := false) (k := 0) (L := 11) ⟨rfl, by decide⟩ rfl) (fo_get (S := S) rfl) ?_
    refine r_get rfl (en_get (b := false) (k := 22) (L := 9) ⟨rfl, by decide⟩ rfl) (fo_get (S := S) rfl) ?_
    refine r_pure rfl rfl ?_
    refine r_callV_I rfl rfl (en_get (b := false) (k := 23) (L := 4) ⟨rfl, by decide⟩ rfl) (Nat.le_of_ble_eq_true rfl) (rf_X0_partsOf (by omega) 23 mC23 v1 S) (fun q3 => ?_)
    refine r_callV_I rfl rfl (en_get (b := false) (k := 23) (L := 4) ⟨rfl, by decide⟩ rfl) (Nat.le_of_ble_eq_true rfl) (rf_X0_standing (by omega) 23 t2 mC23 ht2 q3 S) (fun q4 => ?_)
    exact r_retI rfl rfl
  · refine r_pure rfl rfl ?_
    exact r_retI rfl rfl
/-! X3_prepare -/
def s_X3_prepare_L189 (t : Nat) : Nat → Int32 → HS → Option HS
  | 0, _, _ => none
  | K + 1, v4, S =>
    if v4 < (0 : Int32) then
      some S
    else
      Option.bind (ag (ga S 134) (v4 + (1 : Int32))) fun a12 =>
      Option.bind (ag (ga S 127) v4) fun a13 =>
      if a13 ≠ (0 : Int32) then
        Option.bind (wa S 134 v4 (a12 + (0 : Int32))) fun S14 =>
        s_X3_prepare_L189 t K (v4 + (-1 : Int32)) S14
      else
        Option.bind (tl (gr S 121 2)) fun t15 =>
        Option.bind (s_X6_top t15 v4 S) fun q16 =>
        Option.bind (wa S 134 v4 (a12 + q16)) fun S17 =>
        s_X3_prepare_L189 t K (v4 + (-1 : Int32)) S17
def s_X3_prepare_J165 (t : Nat) (S : HS) : Option HS :=
  Option.bind (tl (gr S 121 2)) fun t9 =>
  Option.bind (wa S 134 (gf S t9 1) (0 : Int32)) fun S10 =>
  Option.bind (tl (gr S10 121 2)) fun t11 =>
  s_X3_prepare_L189 t 40 ((gf S10 t11 1) - (1 : Int32)) S10
def s_X3_prepare_L52 (t : Nat) : Nat → Int32 → HS → Option HS
  | 0, _, _ => none
  | K + 1, v4, S =>
    Option.bind (rc (gr S 121 3) 22) fun _ =>
    if (gf S 22 1) ≤ v4 then
      s_X3_prepare_J165 t S
    else
      if (4 : Int32) ≤ (gf S 121 5) then
        s_X3_prepare_J165 t S
      else
        Option.bind (rc (gr S 121 3) 22) fun _ =>
        Option.bind (tl (gr S 121 2)) fun t18 =>
        Option.bind (s_X5_how t18 v4 S) fun q19 =>
        if q19 ≠ (0 : Int32) then
          s_X3_prepare_L52 t K (v4 + (1 : Int32)) S
        else
          Option.bind (wa S 131 (gf S 121 5) v4) fun S20 =>
          Option.bind (tl (gr S20 121 2)) fun t21 =>
          Option.bind (ag (ga S20 (t21 + 8)) v4) fun a22 =>
          Option.bind (rc (gr S20 121 3) 22) fun _ =>
          Option.bind (s_X0_loaded 23 v4 S20) fun q23 =>
          Option.bind (wa S20 132 (gf S20 121 5) (a22 - q23)) fun S24 =>
          Option.bind (ag (ga S24 132) (gf S24 121 5)) fun a25 =>
          Option.bind (wa S24 133 (gf S24 121 5) a25) fun S26 =>
          Option.bind (pf S26 121 5 ((gf S26 121 5) + (1 : Int32))) fun S27 =>
          s_X3_prepare_L52 t K (v4 + (1 : Int32)) S27
def s_X3_prepare (t : Nat) (v3 : Int32) (S : HS) : Option HS :=
  Option.bind (pr S 121 2 (.ref t)) fun S1 =>
  Option.bind (pr S1 121 3 (.ref 22)) fun S2 =>
  Option.bind (pz S2 121 4 v3) fun S3 =>
  Option.bind (rc (gr S3 121 3) 22) fun _ =>
  Option.bind (s_X0_copyFrom 126 23 S3) fun q4 =>
  Option.bind (pf q4 121 10 (0 : Int32)) fun S5 =>
  Option.bind (pf S5 121 11 (0 : Int32)) fun S6 =>
  Option.bind (pf S6 121 12 (0 : Int32)) fun S7 =>
  Option.bind (pf S7 121 5 (0 : Int32)) fun S8 =>
  s_X3_prepare_L52 t 40 (0 : Int32) S8
set_option maxRecDepth 100000 in
theorem rl_X3_prepare_L189 {e : Nat} (he : 2 ≤ e) {O : HS} (t : Nat) (ht : isT t) {n : Nat} : ∀ (K : Nat) (v4 : Int32) (S : HS) (j1 : Option Value) (j2 : Option Value) (j3 : Option Value), Lm (oV false O) (s_X3_prepare_L189 t K v4 S) (run (CF e) (k_X3_prepare false) (n + (26 * K + 0)) 189 [some (.ref 121), j1, j2, j3, some (.int v4)] [] (en false O S)) := by
  intro K
  induction K with
  | zero =>
    intros
    exact lm_none
  | succ K ih =>
    intro v4 S j1 j2 j3
    rw [show n + (26 * (K + 1) + 0) = n + (26 * K + 0) + 26 by omega]
    rw [s_X3_prepare_L189]
    refine r_pure rfl rfl ?_
    refine r_if1 rfl rfl ?_ ?_
    · exact r_retV rfl rfl
    · refine r_pure rfl rfl ?_
      refine r_get rfl (en_get (b := false) (k := 121) (L := 7) ⟨rfl, by decide⟩ rfl) (fo_get (S := S) rfl) ?_
      refine r_pure rfl rfl ?_
      refine r_pure rfl rfl ?_
      refine r_get rfl (en_get (b := false) (k := 121) (L := 7) ⟨rfl, by decide⟩ rfl) (fo_get (S := S) rfl) ?_
      refine r_pure rfl rfl ?_
      refine r_pure rfl rfl ?_
      refine r_pure rfl rfl ?_
      refine r_iald rfl (en_get (b := false) (k := 134) (L := 0) ⟨rfl, by decide⟩ rfl) (fun a12 => ?_)
      refine r_pure rfl rfl ?_
      refine r_get rfl (en_get (b := false) (k := 121) (L := 7) ⟨rfl, by decide⟩ rfl) (fo_get (S := S) rfl) ?_
      refine r_get rfl (en_get (b := false) (k := 126) (L := 4) ⟨rfl, by decide⟩ rfl) (fo_get (S := S) rfl) ?_
      refine r_pure rfl rfl ?_
      refine r_iald rfl (en_get (b := false) (k := 127) (L := 0) ⟨rfl, by decide⟩ rfl) (fun a13 => ?_)
      refine r_if1 rfl rfl ?_ ?_
      · refine r_pure rfl rfl ?_
        refine r_pure rfl rfl ?_
        refine r_iastI rfl ⟨rfl, by decide⟩ rfl (fun S14 => ?_)
        refine r_pure (lv' := [some (.ref 121), _, _, _, some (.int (v4 + (-1 : Int32)))]) rfl rfl ?_
        refine r_pure rfl rfl ?_
        exact lm_le (by omega) (ih (v4 + (-1 : Int32)) S14 _ _ _)
      · refine r_pure rfl rfl ?_
        refine r_getT rfl ⟨rfl, by decide⟩ rfl rfl (fun t15 ht15 => ?_)
        refine r_pure rfl rfl ?_
        refine r_callV_I rfl rfl (en_get (b := false) (k := t15) (L := 10) (zT0 ht15) (lT0 ht15)) (Nat.le_of_ble_eq_true rfl) (rf_X6_top (by omega) t15 ht15 v4 S) (fun q16 => ?_)
        refine r_pure rfl rfl ?_
        refine r_pure rfl rfl ?_
        refine r_iastI rfl ⟨rfl, by decide⟩ rfl (fun S17 => ?_)
        refine r_pure (lv' := [some (.ref 121), _, _, _, some (.int (v4 + (-1 : Int32)))]) rfl rfl ?_
        refine r_pure rfl rfl ?_
        exact lm_le (by omega) (ih (v4 + (-1 : Int32)) S17 _ _ _)
set_option maxRecDepth 100000 in
theorem rj_X3_prepare_J165 {e : Nat} (he : 2 ≤ e) {O : HS} (t : Nat) (ht : isT t) {n : Nat} (S : HS) (j1 : Option Value) (j2 : Option Value) (j3 : Option Value) (j4 : Option Value) : Lm (oV false O) (s_X3_prepare_J165 t S) (run (CF e) (k_X3_prepare false) (n + 1053) 165 [some (.ref 121), j1, j2, j3, j4] [] (en false O S)) := by
  unfold s_X3_prepare_J165
  refine r_pure rfl rfl ?_
  refine r_get rfl (en_get (b := false) (k := 121) (L := 7) ⟨rfl, by decide⟩ rfl) (fo_get (S := S) rfl) ?_
  refine r_pure rfl rfl ?_
  refine r_getT rfl ⟨rfl, by decide⟩ rfl rfl (fun t9 ht9 => ?_)
  refine r_get rfl (en_get (b := false) (k := t9) (L := 10) (zT0 ht9) (lT0 ht9)) (fo_get (S := S) rfl) ?_
  refine r_pure rfl rfl ?_
  refine r_iastI rfl ⟨rfl, by decide⟩ rfl (fun S10 => ?_)
  refine r_pure rfl rfl ?_
  refine r_getT rfl ⟨rfl, by decide⟩ rfl rfl (fun t11 ht11 => ?_)
  refine r_get rfl (en_get (b := false) (k := t11) (L := 10) (zT0 ht11) (lT0 ht11)) (fo_get (S := S10) rfl) ?_
  refine r_pure rfl rfl ?_
  refine r_pure rfl rfl ?_
  refine r_pure (lv' := [some (.ref 121), _, _, _, some (.int ((gf S10 t11 1) - (1 : Int32)))]) rfl rfl ?_
  exact lm_le (by omega) (rl_X3_prepare_L189 (n := 0) (by omega) t ht 40 ((gf S10 t11 1) - (1 : Int32)) S10 _ _ _)
set_option maxRecDepth 100000 in
theorem rl_X3_prepare_L52 {e : Nat} (he : 2 ≤ e) {O : HS} (t : Nat) (ht : isT t) {n : Nat} : ∀ (K : Nat) (v4 : Int32) (S : HS) (j1 : Option Value) (j2 : Option Value) (j3 : Option Value), Lm (oV false O) (s_X3_prepare_L52 t K v4 S) (run (CF e) (k_X3_prepare false) (n + (56 * K + 1053)) 52 [some (.ref 121), j1, j2, j3, some (.int v4)] [] (en false O S)) := by
  intro K
  induction K with
  | zero =>
    intros
    exact lm_none
  | succ K ih =>
    intro v4 S j1 j2 j3
    rw [show n + (56 * (K + 1) + 1053) = n + (56 * K + 1053) + 56 by omega]
    rw [s_X3_prepare_L52]
    refine r_pure rfl rfl ?_
    refine r_pure rfl rfl ?_
    refine r_getC rfl ⟨rfl, by decide⟩ rfl rfl ?_
    refine r_get rfl (en_get (b := false) (k := 22) (L := 9) ⟨rfl, by decide⟩ rfl) (fo_get (S := S) rfl) ?_
    refine r_if2 rfl rfl ?_ ?_
    · exact lm_le (by omega) (rj_X3_prepare_J165 (n := 0) (by omega) t ht S _ _ _ _)
    · refine r_pure rfl rfl ?_
      refine r_get rfl (en_get (b := false) (k := 121) (L := 7) ⟨rfl, by decide⟩ rfl) (fo_get (S := S) rfl) ?_
      refine r_pure rfl rfl ?_
      refine r_if2 rfl rfl ?_ ?_
      · exact lm_le (by omega) (rj_X3_prepare_J165 (n := 0) (by omega) t ht S _ _ _ _)
      · refine r_pure rfl rfl ?_
        refine r_getC rfl ⟨rfl, by decide⟩ rfl rfl ?_
        refine r_pure rfl rfl ?_
        refine r_getT rfl ⟨rfl, by decide⟩ rfl rfl (fun t18 ht18 => ?_)
        refine r_pure rfl rfl ?_
        refine r_callV_I rfl rfl (en_get (b := false) (k := 22) (L := 9) ⟨rfl, by decide⟩ rfl) (Nat.le_of_ble_eq_true rfl) (rf_X5_how (by omega) t18 ht18 v4 S) (fun q19 => ?_)
        refine r_if1 rfl rfl ?_ ?_
        · refine r_pure (lv' := [some (.ref 121), _, _, _, some (.int (v4 + (1 : Int32)))]) rfl rfl ?_
          refine r_pure rfl rfl ?_
          exact lm_le (by omega) (ih (v4 + (1 : Int32)) S _ _ _)
        · refine r_pure rfl rfl ?_
          refine r_get rfl (en_get (b := false) (k := 121) (L := 7) ⟨rfl, by decide⟩ rfl) (fo_get (S := S) rfl) ?_
          refine r_pure rfl rfl ?_
          refine r_get rfl (en_get (b := false) (k := 121) (L := 7) ⟨rfl, by decide⟩ rfl) (fo_get (S := S) rfl) ?_
          refine r_pure rfl rfl ?_
          refine r_iastI rfl ⟨rfl, by decide⟩ rfl (fun S20 => ?_)
          refine r_pure rfl rfl ?_
          refine r_get rfl (en_get (b := false) (k := 121) (L := 7) ⟨rfl, by decide⟩ rfl) (fo_get (S := S20) rfl) ?_
          refine r_pure rfl rfl ?_
          refine r_get rfl (en_get (b := false) (k := 121) (L := 7) ⟨rfl, by decide⟩ rfl) (fo_get (S := S20) rfl) ?_
          refine r_pure rfl rfl ?_
          refine r_getT rfl ⟨rfl, by decide⟩ rfl rfl (fun t21 ht21 => ?_)
          refine r_get rfl (en_get (b := false) (k := t21) (L := 10) (zT0 ht21) (lT0 ht21)) (fo_get (S := S20) rfl) ?_
          refine r_pure rfl rfl ?_
          refine r_iald rfl (en_get (b := false) (k := (t21 + 8)) (L := 0) (zT8 ht21) (lT8 ht21)) (fun a22 => ?_)
          refine r_pure rfl rfl ?_
          refine r_getC rfl ⟨rfl, by decide⟩ rfl rfl ?_
          refine r_get rfl (en_get (b := false) (k := 22) (L := 9) ⟨rfl, by decide⟩ rfl) (fo_get (S := S20) rfl) ?_
          refine r_pure rfl rfl ?_
          refine r_callV_I rfl rfl (en_get (b := false) (k := 23) (L := 4) ⟨rfl, by decide⟩ rfl) (Nat.le_of_ble_eq_true rfl) (rf_X0_loaded (by omega) 23 mC23 v4 S20) (fun q23 => ?_)
          refine r_pure rfl rfl ?_
          refine r_iastI rfl ⟨rfl, by decide⟩ rfl (fun S24 => ?_)
          refine r_pure rfl rfl ?_
          refine r_get rfl (en_get (b := false) (k := 121) (L := 7) ⟨rfl, by decide⟩ rfl) (fo_get (S := S24) rfl) ?_
          refine r_pure rfl rfl ?_
          refine r_get rfl (en_get (b := false) (k := 121) (L := 7) ⟨rfl, by decide⟩ rfl) (fo_get (S := S24) rfl) ?_
          refine r_pure rfl rfl ?_
          refine r_get rfl (en_get (b := false) (k := 121) (L := 7) ⟨rfl, by decide⟩ rfl) (fo_get (S := S24) rfl) ?_
          refine r_pure rfl rfl ?_
          refine r_get rfl (en_get (b := false) (k := 121) (L := 7) ⟨rfl, by decide⟩ rfl) (fo_get (S := S24) rfl) ?_
          refine r_iald rfl (en_get (b := false) (k := 132) (L := 0) ⟨rfl, by decide⟩ rfl) (fun a25 => ?_)
          refine r_iastI rfl ⟨rfl, by decide⟩ rfl (fun S26 => ?_)
          refine r_pure rfl rfl ?_
          refine r_pure rfl rfl ?_
          refine r_get rfl (en_get (b := false) (k := 121) (L := 7) ⟨rfl, by decide⟩ rfl) (fo_get (S := S26) rfl) ?_
          refine r_pure rfl rfl ?_
          refine r_pure rfl rfl ?_
          refine r_putI rfl ⟨rfl, by decide⟩ rfl rfl rfl (fun S27 => ?_)
          refine r_pure (lv' := [some (.ref 121), _, _, _, some (.int (v4 + (1 : Int32)))]) rfl rfl ?_
          refine r_pure rfl rfl ?_
          exact lm_le (by omega) (ih (v4 + (1 : Int32)) S27 _ _ _)
set_option maxRecDepth 100000 in
theorem rf_X3_prepare {d : Nat} (hd : 3 ≤ d) {O : HS} (t : Nat) (ht : isT t) (v3 : Int32) (S : HS) : Lm (oV false O) (s_X3_prepare t v3 S) (CF d 27 [.ref 121, .ref t, .ref 22, .int v3] (en false O S)) := by
  unfold s_X3_prepare
  obtain ⟨e, rfl⟩ : ∃ e, d = e + 1 := ⟨d - 1, by omega⟩
  refine rm_of (lv := [some (.ref 121), some (.ref t), some (.ref 22), some (.int v3), none]) (k_X3_prepare false) (by omega) rfl rfl (Nat.le_of_ble_eq_true rfl) ?_
  refine lm_le (n := 3322) (by omega) ?_
  show Lm _ _ (run (CF e) _ _ _ _ _ _)
  refine r_pure rfl rfl ?_
  refine r_pure rfl rfl ?_
  refine r_putR rfl ⟨rfl, by decide⟩ rfl rfl rfl (fun S1 => ?_)
  refine r_pure rfl rfl ?_
  refine r_pure rfl rfl ?_
  refine r_putR rfl ⟨rfl, by decide⟩ rfl rfl rfl (fun S2 => ?_)
  refine r_pure rfl rfl ?_
  refine r_pure rfl rfl ?_
  refine r_putZ rfl ⟨rfl, by decide⟩ rfl rfl (fun S3 => ?_)
  refine r_pure rfl rfl ?_
  refine r_get rfl (en_get (b := false) (k := 121) (L := 7) ⟨rfl, by decide⟩ rfl) (fo_get (S := S3) rfl) ?_
  refine r_pure rfl rfl ?_
  refine r_getC rfl ⟨rfl, by decide⟩ rfl rfl ?_
  refine r_get rfl (en_get (b := false) (k := 22) (L := 9) ⟨rfl, by decide⟩ rfl) (fo_get (S := S3) rfl) ?_
  refine r_callV_VW rfl rfl (en_get (b := false) (k := 126) (L := 4) ⟨rfl, by decide⟩ rfl) (Nat.le_of_ble_eq_true rfl) (rf_X0_copyFrom (by omega) 126 23 mC126 mC23 S3) (fun q4 => ?_)
  refine r_pure rfl rfl ?_
  refine r_pure rfl rfl ?_
  refine r_putI rfl ⟨rfl, by decide⟩ rfl rfl rfl (fun S5 => ?_)
  refine r_pure rfl rfl ?_
  refine r_pure rfl rfl ?_
  refine r_putI rfl ⟨rfl, by decide⟩ rfl rfl rfl (fun S6 => ?_)
  refine r_pure rfl rfl ?_
  refine r_pure rfl rfl ?_
  refine r_putI rfl ⟨rfl, by decide⟩ rfl rfl rfl (fun S7 => ?_)
  refine r_pure rfl rfl ?_
  refine r_pure rfl rfl ?_
  refine r_putI rfl ⟨rfl, by decide⟩ rfl rfl rfl (fun S8 => ?_)
  refine r_pure rfl rfl ?_
  refine r_pure (lv' := [some (.ref 121), some (.ref t), some (.ref 22), some (.int v3), some (.int (0 : Int32))]) rfl rfl ?_
  exact lm_le (by omega) (rl_X3_prepare_L52 (n := 0) (by omega) t ht 40 (0 : Int32) S8 _ _ _)
/-! X3_isHopeless -/
def s_X3_isHopeless_L31 (v1 : Int32) (S : HS) : Nat → Int32 → Int32 → Option Int32
  | 0, _, _ => none
  | K + 1, v2, v3 =>
    if (gf S 121 5) ≤ v3 then
      Option.bind (ag (ga S 134) v1) fun a1 =>
      if v2 ≤ a1 then
        some (0 : Int32)
      else
        some (1 : Int32)
    else
      if (gf S 121 4) ≠ (0 : Int32) then
        Option.bind (ag (ga S 133) v3) fun a2 =>
        s_X3_isHopeless_L31 v1 S K (v2 + a2) (v3 + (1 : Int32))
      else
        Option.bind (ag (ga S 133) v3) fun a3 =>
        Option.bind (ag (ga S 132) v3) fun a4 =>
        if a4 ≤ a3 then
          s_X3_isHopeless_L31 v1 S K v2 (v3 + (1 : Int32))
        else
          Option.bind (ag (ga S 133) v3) fun a5 =>
          s_X3_isHopeless_L31 v1 S K (v2 + a5) (v3 + (1 : Int32))
def s_X3_isHopeless (v1 : Int32) (S : HS) : Option Int32 :=
  if (gf S 121 4) = (0 : Int32) then
    s_X3_isHopeless_L31 v1 S 40 (0 : Int32) (0 : Int32)
  else
    if (gf S 121 12) = (0 : Int32) then
      s_X3_isHopeless_L31 v1 S 40 (0 : Int32) (0 : Int32)
    else
      if (gf S 121 11) < (gf S 121 13) then
        s_X3_isHopeless_L31 v1 S 40 (0 : Int32) (0 : Int32)
      else
        some (1 : Int32)
set_option maxRecDepth 100000 in
theorem rl_X3_isHopeless_L31 {e : Nat} (he : 0 ≤ e) {O : HS} (v1 : Int32) (S : HS) {n : Nat} : ∀ (K : Nat) (v2 : Int32) (v3 : Int32), Lm (oI (en false O S)) (s_X3_isHopeless_L31 v1 S K v2 v3) (run (CF e) (k_X3_isHopeless false) (n + (25 * K + 0)) 31 [some (.ref 121), some (.int v1), some (.int v2), some (.int v3)] [] (en false O S)) := by
  intro K
  induction K with
  | zero =>
    intros
    exact lm_none
  | succ K ih =>
    intro v2 v3
    rw [show n + (25 * (K + 1) + 0) = n + (25 * K + 0) + 25 by omega]
    rw [s_X3_isHopeless_L31]
    refine r_pure rfl rfl ?_
    refine r_pure rfl rfl ?_
    refine r_get rfl (en_get (b := false) (k := 121) (L := 7) ⟨rfl, by decide⟩ rfl) (fo_get (S := S) rfl) ?_
    refine r_if2 rfl rfl ?_ ?_
    · refine r_pure rfl rfl ?_
      refine r_pure rfl rfl ?_
      refine r_get rfl (en_get (b := false) (k := 121) (L := 7) ⟨rfl, by decide⟩ rfl) (fo_get (S := S) rfl) ?_
      refine r_pure rfl rfl ?_
      refine r_iald rfl (en_get (b := false) (k := 134) (L := 0) ⟨rfl, by decide⟩ rfl) (fun a1 => ?_)
      refine r_if2 rfl rfl ?_ ?_
      · refine r_pure rfl rfl ?_
        exact r_retZ rfl (Or.inl rfl) rfl
      · refine r_pure rfl rfl ?_
        refine r_pure rfl rfl ?_
        exact r_retZ rfl (Or.inr rfl) rfl
    · refine r_pure rfl rfl ?_
      refine r_get rfl (en_get (b := false) (k := 121) (L := 7) ⟨rfl, by decide⟩ rfl) (fo_get (S := S) rfl) ?_
      refine r_if1 rfl rfl ?_ ?_
      · refine r_pure rfl rfl ?_
        refine r_pure rfl rfl ?_
        refine r_get rfl (en_get (b := false) (k := 121) (L := 7) ⟨rfl, by decide⟩ rfl) (fo_get (S := S) rfl) ?_
        refine r_pure rfl rfl ?_
        refine r_iald rfl (en_get (b := false) (k := 133) (L := 0) ⟨rfl, by decide⟩ rfl) (fun a2 => ?_)
        refine r_pure rfl rfl ?_
        refine r_pure (lv' := [some (.ref 121), some (.int v1), some (.int (v2 + a2)), some (.int v3)]) rfl rfl ?_
        refine r_pure (lv' := [some (.ref 121), some (.int v1), some (.int (v2 + a2)), some (.int (v3 + (1 : Int32)))]) rfl rfl ?_
        refine r_pure rfl rfl ?_
        exact lm_le (by omega) (ih (v2 + a2) (v3 + (1 : Int32)))
      · refine r_pure rfl rfl ?_
        refine r_get rfl (en_get (b := false) (k := 121) (L := 7) ⟨rfl, by decide⟩ rfl) (fo_get (S := S) rfl) ?_
        refine r_pure rfl rfl ?_
        refine r_iald rfl (en_get (b := false) (k := 133) (L := 0) ⟨rfl, by decide⟩ rfl) (fun a3 => ?_)
        refine r_pure rfl rfl ?_
        refine r_get rfl (en_get (b := false) (k := 121) (L := 7) ⟨rfl, by decide⟩ rfl) (fo_get (S := S) rfl) ?_
        refine r_pure rfl rfl ?_
        refine r_iald rfl (en_get (b := false) (k := 132) (L := 0) ⟨rfl, by decide⟩ rfl) (fun a4 => ?_)
        refine r_if2 rfl rfl ?_ ?_
        · refine r_pure (lv' := [some (.ref 121), some (.int v1), some (.int v2), some (.int (v3 + (1 : Int32)))]) rfl rfl ?_
          refine r_pure rfl rfl ?_
          exact lm_le (by omega) (ih v2 (v3 + (1 : Int32)))
        · refine r_pure rfl rfl ?_
          refine r_pure rfl rfl ?_
          refine r_get rfl (en_get (b := false) (k := 121) (L := 7) ⟨rfl, by decide⟩ rfl) (fo_get (S := S) rfl) ?_
          refine r_pure rfl rfl ?_
          refine r_iald rfl (en_get (b := false) (k := 133) (L := 0) ⟨rfl, by decide⟩ rfl) (fun a5 => ?_)
          refine r_pure rfl rfl ?_
          refine r_pure (lv' := [some (.ref 121), some (.int v1), some (.int (v2 + a5)), some (.int v3)]) rfl rfl ?_
          refine r_pure (lv' := [some (.ref 121), some (.int v1), some (.int (v2 + a5)), some (.int (v3 + (1 : Int32)))]) rfl rfl ?_
          refine r_pure rfl rfl ?_
          exact lm_le (by omega) (ih (v2 + a5) (v3 + (1 : Int32)))
set_option maxRecDepth 100000 in
theorem rf_X3_isHopeless {d : Nat} (hd : 1 ≤ d) {O : HS} (v1 : Int32) (S : HS) : Lm (oI (en false O S)) (s_X3_isHopeless v1 S) (CF d 29 [.ref 121, .int v1] (en false O S)) := by
  unfold s_X3_isHopeless
  obtain ⟨e, rfl⟩ : ∃ e, d = e + 1 := ⟨d - 1, by omega⟩
  refine rm_of (lv := [some (.ref 121), some (.int v1), none, none]) (k_X3_isHopeless false) (by omega) rfl rfl (Nat.le_of_ble_eq_true rfl) ?_
  refine lm_le (n := 1015) (by omega) ?_
  show Lm _ _ (run (CF e) _ _ _ _ _ _)
  refine r_pure rfl rfl ?_
  refine r_get rfl (en_get (b := false) (k := 121) (L := 7) ⟨rfl, by decide⟩ rfl) (fo_get (S := S) rfl) ?_
  refine r_if1 rfl rfl ?_ ?_
  · refine r_pure rfl rfl ?_
    refine r_pure (lv' := [some (.ref 121), some (.int v1), some (.int (0 : Int32)), none]) rfl rfl ?_
    refine r_pure rfl rfl ?_
    refine r_pure (lv' := [some (.ref 121), some (.int v1), some (.int (0 : Int32)), some (.int (0 : Int32))]) rfl rfl ?_
    exact lm_le (by omega) (rl_X3_isHopeless_L31 (n := 0) (by omega) v1 S 40 (0 : Int32) (0 : Int32))
  · refine r_pure rfl rfl ?_
    refine r_get rfl (en_get (b := false) (k := 121) (L := 7) ⟨rfl, by decide⟩ rfl) (fo_get (S := S) rfl) ?_
    refine r_if1 rfl rfl ?_ ?_
    · refine r_pure rfl rfl ?_
      refine r_pure (lv' := [some (.ref 121), some (.int v1), some (.int (0 : Int32)), none]) rfl rfl ?_
      refine r_pure rfl rfl ?_
      refine r_pure (lv' := [some (.ref 121), some (.int v1), some (.int (0 : Int32)), some (.int (0 : Int32))]) rfl rfl ?_
      exact lm_le (by omega) (rl_X3_isHopeless_L31 (n := 0) (by omega) v1 S 40 (0 : Int32) (0 : Int32))
    · refine r_pure rfl rfl ?_
      refine r_get rfl (en_get (b := false) (k := 121) (L := 7) ⟨rfl, by decide⟩ rfl) (fo_get (S := S) rfl) ?_
      refine r_pure rfl rfl ?_
      refine r_get rfl (en_get (b := false) (k := 121) (L := 7) ⟨rfl, by decide⟩ rfl) (fo_get (S := S) rfl) ?_
      refine r_if2 rfl rfl ?_ ?_
      · refine r_pure rfl rfl ?_
        refine r_pure (lv' := [some (.ref 121), some (.int v1), some (.int (0 : Int32)), none]) rfl rfl ?_
        refine r_pure rfl rfl ?_
        refine r_pure (lv' := [some (.ref 121), some (.int v1), some (.int (0 : Int32)), some (.int (0 : Int32))]) rfl rfl ?_
        exact lm_le (by omega) (rl_X3_isHopeless_L31 (n := 0) (by omega) v1 S 40 (0 : Int32) (0 : Int32))
      · refine r_pure rfl rfl ?_
        exact r_retZ rfl (Or.inr rfl) rfl
