/-! X3_isBetter -/
def s_X3_isBetter (v1 : Int32) (S : HS) : Option Int32 :=
  if (gf S 121 12) = (0 : Int32) then
    some (1 : Int32)
  else
    if (gf S 121 4) ≠ (0 : Int32) then
      some (1 : Int32)
    else
      if (gf S 121 14) < v1 then
        some (1 : Int32)
      else
        if v1 ≠ (gf S 121 14) then
          some (0 : Int32)
        else
          if (gf S 121 15) ≤ (gf S 121 10) then
            some (0 : Int32)
          else
            some (1 : Int32)
set_option maxRecDepth 100000 in
theorem rf_X3_isBetter {d : Nat} (hd : 1 ≤ d) {O : HS} (v1 : Int32) (S : HS) : Lm (oI (en false O S)) (s_X3_isBetter v1 S) (CF d 33 [.ref 121, .int v1] (en false O S)) := by
  unfold s_X3_isBetter
  obtain ⟨e, rfl⟩ : ∃ e, d = e + 1 := ⟨d - 1, by omega⟩
  refine rm_of (lv := [some (.ref 121), some (.int v1)]) (k_X3_isBetter false) (by omega) rfl rfl (Nat.le_of_ble_eq_true rfl) ?_
  refine lm_le (n := 22) (by omega) ?_
  show Lm _ _ (run (CF e) _ _ _ _ _ _)
  refine r_pure rfl rfl ?_
  refine r_get rfl (en_get (b := false) (k := 121) (L := 7) ⟨rfl, by decide⟩ rfl) (fo_get (S := S) rfl) ?_
  refine r_if1 rfl rfl ?_ ?_
  · refine r_pure rfl rfl ?_
    refine r_pure rfl rfl ?_
    exact r_retZ rfl (Or.inr rfl) rfl
  · refine r_pure rfl rfl ?_
    refine r_get rfl (en_get (b := false) (k := 121) (L := 7) ⟨rfl, by decide⟩ rfl) (fo_get (S := S) rfl) ?_
    refine r_if1 rfl rfl ?_ ?_
    · refine r_pure rfl rfl ?_
      refine r_pure rfl rfl ?_
      exact r_retZ rfl (Or.inr rfl) rfl
    · refine r_pure rfl rfl ?_
      refine r_pure rfl rfl ?_
      refine r_get rfl (en_get (b := false) (k := 121) (L := 7) ⟨rfl, by decide⟩ rfl) (fo_get (S := S) rfl) ?_
      refine r_if2 rfl rfl ?_ ?_
      · refine r_pure rfl rfl ?_
        refine r_pure rfl rfl ?_
        exact r_retZ rfl (Or.inr rfl) rfl
      · refine r_pure rfl rfl ?_
        refine r_pure rfl rfl ?_
        refine r_get rfl (en_get (b := false) (k := 121) (L := 7) ⟨rfl, by decide⟩ rfl) (fo_get (S := S) rfl) ?_
        refine r_if2 rfl rfl ?_ ?_
        · refine r_pure rfl rfl ?_
          exact r_retZ rfl (Or.inl rfl) rfl
        · refine r_pure rfl rfl ?_
          refine r_get rfl (en_get (b := false) (k := 121) (L := 7) ⟨rfl, by decide⟩ rfl) (fo_get (S := S) rfl) ?_
          refine r_pure rfl rfl ?_
          refine r_get rfl (en_get (b := false) (k := 121) (L := 7) ⟨rfl, by decide⟩ rfl) (fo_get (S := S) rfl) ?_
          refine r_if2 rfl rfl ?_ ?_
          · refine r_pure rfl rfl ?_
            exact r_retZ rfl (Or.inl rfl) rfl
          · refine r_pure rfl rfl ?_
            refine r_pure rfl rfl ?_
            exact r_retZ rfl (Or.inr rfl) rfl
/-! X3_keepDeal -/
def s_X3_keepDeal_J68 (rc2 : Int32 → HS → Option HS) (v1 : Int32) (v2 : Int32) (x1 : Int32) (x2 : Int32) (S : HS) : Option HS :=
  Option.bind (wa S 135 x1 x2) fun S3 =>
  if v2 = (0 : Int32) then
    Option.bind (wa S3 136 v1 (0 : Int32)) fun S4 =>
    rc2 (v1 + (1 : Int32)) S4
  else
    Option.bind (ag (ga S3 127) v1) fun a5 =>
    Option.bind (wa S3 136 v1 a5) fun S6 =>
    rc2 (v1 + (1 : Int32)) S6
def s_X3_keepDeal_J45 (rc2 : Int32 → HS → Option HS) (v1 : Int32) (x0 : Int32) (S : HS) : Option HS :=
  if x0 = (0 : Int32) then
    s_X3_keepDeal_J68 rc2 v1 x0 v1 (-1 : Int32) S
  else
    Option.bind (ag (ga S 128) v1) fun a7 =>
    s_X3_keepDeal_J68 rc2 v1 x0 v1 a7 S
def s_X3_keepDeal_J44 (rc2 : Int32 → HS → Option HS) (v1 : Int32) (S : HS) : Option HS :=
  s_X3_keepDeal_J45 rc2 v1 (0 : Int32) S
def s_X3_keepDeal_L2 : Nat → Int32 → HS → Option HS
  | 0, _, _ => none
  | K + 1, v1, S =>
    Option.bind (tl (gr S 121 2)) fun t1 =>
    if (gf S t1 1) ≤ v1 then
      some S
    else
      Option.bind (rc (gr S 121 3) 22) fun _ =>
      Option.bind (ag (ga S 24) v1) fun a2 =>
      if a2 ≠ (0 : Int32) then
        s_X3_keepDeal_J44 (s_X3_keepDeal_L2 K) v1 S
      else
        Option.bind (ag (ga S 127) v1) fun a8 =>
        if a8 ≤ (0 : Int32) then
          s_X3_keepDeal_J44 (s_X3_keepDeal_L2 K) v1 S
        else
          s_X3_keepDeal_J45 (s_X3_keepDeal_L2 K) v1 (1 : Int32) S
def s_X3_keepDeal (S : HS) : Option HS :=
  s_X3_keepDeal_L2 40 (0 : Int32) S
set_option maxRecDepth 100000 in
theorem rj_X3_keepDeal_J68 {e : Nat} (he : 0 ≤ e) {O : HS} (rc2 : Int32 → HS → Option HS) (v1 : Int32) (v2 : Int32) (x1 : Int32) (x2 : Int32) {n : Nat} (hrc2 : ∀ (v1 : Int32) (S : HS) (j2 : Option Value), Lm (oV false O) (rc2 v1 S) (run (CF e) (k_X3_keepDeal false) n 2 [some (.ref 121), some (.int v1), j2] [] (en false O S))) (S : HS) : Lm (oV false O) (s_X3_keepDeal_J68 rc2 v1 v2 x1 x2 S) (run (CF e) (k_X3_keepDeal false) (n + 15) 68 [some (.ref 121), some (.int v1), some (.int v2)] [.int x2, .int x1, .ref 135] (en false O S)) := by
  unfold s_X3_keepDeal_J68
  refine r_iastI rfl ⟨rfl, by decide⟩ rfl (fun S3 => ?_)
  refine r_pure rfl rfl ?_
  refine r_get rfl (en_get (b := false) (k := 121) (L := 7) ⟨rfl, by decide⟩ rfl) (fo_get (S := S3) rfl) ?_
  refine r_pure rfl rfl ?_
  refine r_pure rfl rfl ?_
  refine r_if1 rfl rfl ?_ ?_
  · refine r_pure rfl rfl ?_
    refine r_iastI rfl ⟨rfl, by decide⟩ rfl (fun S4 => ?_)
    refine r_pure (lv' := [some (.ref 121), some (.int (v1 + (1 : Int32))), some (.int v2)]) rfl rfl ?_
    refine r_pure rfl rfl ?_
    exact lm_le (by omega) (hrc2 (v1 + (1 : Int32)) S4 _)
  · refine r_pure rfl rfl ?_
    refine r_get rfl (en_get (b := false) (k := 121) (L := 7) ⟨rfl, by decide⟩ rfl) (fo_get (S := S3) rfl) ?_
    refine r_get rfl (en_get (b := false) (k := 126) (L := 4) ⟨rfl, by decide⟩ rfl) (fo_get (S := S3) rfl) ?_
    refine r_pure rfl rfl ?_
    refine r_iald rfl (en_get (b := false) (k := 127) (L := 0) ⟨rfl, by decide⟩ rfl) (fun a5 => ?_)
    refine r_pure rfl rfl ?_
    refine r_iastI rfl ⟨rfl, by decide⟩ rfl (fun S6 => ?_)
    refine r_pure (lv' := [some (.ref 121), some (.int (v1 + (1 : Int32))), some (.int v2)]) rfl rfl ?_
    refine r_pure rfl rfl ?_
    exact lm_le (by omega) (hrc2 (v1 + (1 : Int32)) S6 _)
set_option maxRecDepth 100000 in
theorem rj_X3_keepDeal_J45 {e : Nat} (he : 0 ≤ e) {O : HS} (rc2 : Int32 → HS → Option HS) (v1 : Int32) (x0 : Int32) {n : Nat} (hrc2 : ∀ (v1 : Int32) (S : HS) (j2 : Option Value), Lm (oV false O) (rc2 v1 S) (run (CF e) (k_X3_keepDeal false) n 2 [some (.ref 121), some (.int v1), j2] [] (en false O S))) (S : HS) (j2 : Option Value) : Lm (oV false O) (s_X3_keepDeal_J45 rc2 v1 x0 S) (run (CF e) (k_X3_keepDeal false) (n + 27) 45 [some (.ref 121), some (.int v1), j2] [.int x0] (en false O S)) := by
  unfold s_X3_keepDeal_J45
  refine r_pure (lv' := [some (.ref 121), some (.int v1), some (.int x0)]) rfl rfl ?_
  refine r_pure rfl rfl ?_
  refine r_get rfl (en_get (b := false) (k := 121) (L := 7) ⟨rfl, by decide⟩ rfl) (fo_get (S := S) rfl) ?_
  refine r_pure rfl rfl ?_
  refine r_pure rfl rfl ?_
  refine r_if1 rfl rfl ?_ ?_
  · refine r_pure rfl rfl ?_
    exact lm_le (by omega) (rj_X3_keepDeal_J68 (by omega) rc2 v1 x0 v1 (-1 : Int32) hrc2 S)
  · refine r_pure rfl rfl ?_
    refine r_get rfl (en_get (b := false) (k := 121) (L := 7) ⟨rfl, by decide⟩ rfl) (fo_get (S := S) rfl) ?_
    refine r_get rfl (en_get (b := false) (k := 126) (L := 4) ⟨rfl, by decide⟩ rfl) (fo_get (S := S) rfl) ?_
    refine r_pure rfl rfl ?_
    refine r_iald rfl (en_get (b := false) (k := 128) (L := 0) ⟨rfl, by decide⟩ rfl) (fun a7 => ?_)
    refine r_pure rfl rfl ?_
    exact lm_le (by omega) (rj_X3_keepDeal_J68 (by omega) rc2 v1 x0 v1 a7 hrc2 S)
set_option maxRecDepth 100000 in
theorem rj_X3_keepDeal_J44 {e : Nat} (he : 0 ≤ e) {O : HS} (rc2 : Int32 → HS → Option HS) (v1 : Int32) {n : Nat} (hrc2 : ∀ (v1 : Int32) (S : HS) (j2 : Option Value), Lm (oV false O) (rc2 v1 S) (run (CF e) (k_X3_keepDeal false) n 2 [some (.ref 121), some (.int v1), j2] [] (en false O S))) (S : HS) (j2 : Option Value) : Lm (oV false O) (s_X3_keepDeal_J44 rc2 v1 S) (run (CF e) (k_X3_keepDeal false) (n + 28) 44 [some (.ref 121), some (.int v1), j2] [] (en false O S)) := by
  unfold s_X3_keepDeal_J44
  refine r_pure rfl rfl ?_
  exact lm_le (by omega) (rj_X3_keepDeal_J45 (by omega) rc2 v1 (0 : Int32) hrc2 S _)
set_option maxRecDepth 100000 in
theorem rl_X3_keepDeal_L2 {e : Nat} (he : 0 ≤ e) {O : HS} {n : Nat} : ∀ (K : Nat) (v1 : Int32) (S : HS) (j2 : Option Value), Lm (oV false O) (s_X3_keepDeal_L2 K v1 S) (run (CF e) (k_X3_keepDeal false) (n + (47 * K + 0)) 2 [some (.ref 121), some (.int v1), j2] [] (en false O S)) := by
  intro K
  induction K with
  | zero =>
    intros
    exact lm_none
  | succ K ih =>
    intro v1 S j2
    rw [show n + (47 * (K + 1) + 0) = n + (47 * K + 0) + 47 by omega]
    rw [s_X3_keepDeal_L2]
    refine r_pure rfl rfl ?_
    refine r_pure rfl rfl ?_
    refine r_getT rfl ⟨rfl, by decide⟩ rfl rfl (fun t1 ht1 => ?_)
    refine r_get rfl (en_get (b := false) (k := t1) (L := 10) (zT0 ht1) (lT0 ht1)) (fo_get (S := S) rfl) ?_
    refine r_if2 rfl rfl ?_ ?_
    · exact r_retV rfl rfl
    · refine r_pure rfl rfl ?_
      refine r_getC rfl ⟨rfl, by decide⟩ rfl rfl ?_
      refine r_get rfl (en_get (b := false) (k := 22) (L := 9) ⟨rfl, by decide⟩ rfl) (fo_get (S := S) rfl) ?_
      refine r_get rfl (en_get (b := false) (k := 23) (L := 4) ⟨rfl, by decide⟩ rfl) (fo_get (S := S) rfl) ?_
      refine r_pure rfl rfl ?_
      refine r_iald rfl (en_get (b := false) (k := 24) (L := 0) ⟨rfl, by decide⟩ rfl) (fun a2 => ?_)
      refine r_if1 rfl rfl ?_ ?_
      · exact lm_le (by omega) (rj_X3_keepDeal_J44 (by omega) (s_X3_keepDeal_L2 K) v1 ih S _)
      · refine r_pure rfl rfl ?_
        refine r_get rfl (en_get (b := false) (k := 121) (L := 7) ⟨rfl, by decide⟩ rfl) (fo_get (S := S) rfl) ?_
        refine r_get rfl (en_get (b := false) (k := 126) (L := 4) ⟨rfl, by decide⟩ rfl) (fo_get (S := S) rfl) ?_
        refine r_pure rfl rfl ?_
        refine r_iald rfl (en_get (b := false) (k := 127) (L := 0) ⟨rfl, by decide⟩ rfl) (fun a8 => ?_)
        refine r_if1 rfl rfl ?_ ?_
        · exact lm_le (by omega) (rj_X3_keepDeal_J44 (by omega) (s_X3_keepDeal_L2 K) v1 ih S _)
        · refine r_pure rfl rfl ?_
          refine r_pure rfl rfl ?_
          exact lm_le (by omega) (rj_X3_keepDeal_J45 (by omega) (s_X3_keepDeal_L2 K) v1 (1 : Int32) ih S _)
set_option maxRecDepth 100000 in
theorem rf_X3_keepDeal {d : Nat} (hd : 1 ≤ d) {O : HS} (S : HS) : Lm (oV false O) (s_X3_keepDeal S) (CF d 34 [.ref 121] (en false O S)) := by
  unfold s_X3_keepDeal
  obtain ⟨e, rfl⟩ : ∃ e, d = e + 1 := ⟨d - 1, by omega⟩
  refine rm_of (lv := [some (.ref 121), none, none]) (k_X3_keepDeal false) (by omega) rfl rfl (Nat.le_of_ble_eq_true rfl) ?_
  refine lm_le (n := 1882) (by omega) ?_
  show Lm _ _ (run (CF e) _ _ _ _ _ _)
  refine r_pure rfl rfl ?_
  refine r_pure (lv' := [some (.ref 121), some (.int (0 : Int32)), none]) rfl rfl ?_
  exact lm_le (by omega) (rl_X3_keepDeal_L2 (n := 0) (by omega) 40 (0 : Int32) S _)
/-! X3_consider -/
def s_X3_consider_L4 : Nat → Int32 → Int32 → HS → Option HS
  | 0, _, _, _ => none
  | K + 1, v1, v2, S =>
    if (gf S 121 5) ≤ v2 then
      Option.bind (s_X3_isBetter v1 S) fun q1 =>
      if q1 = (0 : Int32) then
        some S
      else
        Option.bind (tl (gr S 121 2)) fun t2 =>
        Option.bind (s_X0_standing 126 t2 (0 : Int32) S) fun q3 =>
        if q3 ≠ (0 : Int32) then
          some S
        else
          Option.bind (tl (gr S 121 2)) fun t4 =>
          Option.bind (rc (gr S 121 3) 22) fun _ =>
          Option.bind (s_X2_count 122 t4 126 (gf S 22 1) S) fun q5 =>
          if q5.1 ≤ (0 : Int32) then
            some q5.2
          else
            Option.bind (pf q5.2 121 12 (1 : Int32)) fun S6 =>
            Option.bind (pf S6 121 13 (gf S6 121 11)) fun S7 =>
            Option.bind (pf S7 121 14 v1) fun S8 =>
            Option.bind (pf S8 121 15 (gf S8 121 10)) fun S9 =>
            Option.bind (s_X3_keepDeal S9) fun q10 =>
            some q10
    else
      Option.bind (ag (ga S 133) v2) fun a11 =>
      if a11 ≠ (0 : Int32) then
        s_X3_consider_L4 K (v1 + (0 : Int32)) (v2 + (1 : Int32)) S
      else
        s_X3_consider_L4 K (v1 + (1 : Int32)) (v2 + (1 : Int32)) S
def s_X3_consider (S : HS) : Option HS :=
  s_X3_consider_L4 40 (0 : Int32) (0 : Int32) S
set_option maxRecDepth 100000 in
theorem rl_X3_consider_L4 {e : Nat} (he : 4 ≤ e) {O : HS} {n : Nat} : ∀ (K : Nat) (v1 : Int32) (v2 : Int32) (S : HS), Lm (oV false O) (s_X3_consider_L4 K v1 v2 S) (run (CF e) (k_X3_consider false) (n + (43 * K + 0)) 4 [some (.ref 121), some (.int v1), some (.int v2)] [] (en false O S)) := by
  intro K
  induction K with
  | zero =>
    intros
    exact lm_none
  | succ K ih =>
    intro v1 v2 S
    rw [show n + (43 * (K + 1) + 0) = n + (43 * K + 0) + 43 by omega]
    rw [s_X3_consider_L4]
    refine r_pure rfl rfl ?_
    refine r_pure rfl rfl ?_
    refine r_get rfl (en_get (b := false) (k := 121) (L := 7) ⟨rfl, by decide⟩ rfl) (fo_get (S := S) rfl) ?_
    refine r_if2 rfl rfl ?_ ?_
    · refine r_pure rfl rfl ?_
      refine r_pure rfl rfl ?_
      refine r_callV_I rfl rfl (en_get (b := false) (k := 121) (L := 7) ⟨rfl, by decide⟩ rfl) (Nat.le_of_ble_eq_true rfl) (rf_X3_isBetter (by omega) v1 S) (fun q1 => ?_)
      refine r_if1 rfl rfl ?_ ?_
      · exact r_retV rfl rfl
      · refine r_pure rfl rfl ?_
        refine r_get rfl (en_get (b := false) (k := 121) (L := 7) ⟨rfl, by decide⟩ rfl) (fo_get (S := S) rfl) ?_
        refine r_pure rfl rfl ?_
        refine r_getT rfl ⟨rfl, by decide⟩ rfl rfl (fun t2 ht2 => ?_)
        refine r_pure rfl rfl ?_
        refine r_callV_I rfl rfl (en_get (b := false) (k := 126) (L := 4) ⟨rfl, by decide⟩ rfl) (Nat.le_of_ble_eq_true rfl) (rf_X0_standing (by omega) 126 t2 mC126 ht2 (0 : Int32) S) (fun q3 => ?_)
        refine r_if1 rfl rfl ?_ ?_
        · exact r_retV rfl rfl
        · refine r_pure rfl rfl ?_
          refine r_get rfl (en_get (b := false) (k := 121) (L := 7) ⟨rfl, by decide⟩ rfl) (fo_get (S := S) rfl) ?_
          refine r_pure rfl rfl ?_
          refine r_getT rfl ⟨rfl, by decide⟩ rfl rfl (fun t4 ht4 => ?_)
          refine r_pure rfl rfl ?_
          refine r_get rfl (en_get (b := false) (k := 121) (L := 7) ⟨rfl, by decide⟩ rfl) (fo_get (S := S) rfl) ?_
          refine r_pure rfl rfl ?_
          refine r_getC rfl ⟨rfl, by decide⟩ rfl rfl ?_
          refine r_get rfl (en_get (b := false) (k := 22) (L := 9) ⟨rfl, by decide⟩ rfl) (fo_get (S := S) rfl) ?_
          refine r_callV_IW rfl rfl (en_get (b := false) (k := 122) (L := 6) ⟨rfl, by decide⟩ rfl) (Nat.le_of_ble_eq_true rfl) (rf_X2_count (by omega) 122 t4 126 mO122 ht4 mC126 (gf S 22 1) S) (fun q5 => ?_)
          refine r_if1 rfl rfl ?_ ?_
          · exact r_retV rfl rfl
          · refine r_pure rfl rfl ?_
            refine r_pure rfl rfl ?_
            refine r_putI rfl ⟨rfl, by decide⟩ rfl rfl rfl (fun S6 => ?_)
            refine r_pure rfl rfl ?_
            refine r_pure rfl rfl ?_
            refine r_get rfl (en_get (b := false) (k := 121) (L := 7) ⟨rfl, by decide⟩ rfl) (fo_get (S := S6) rfl) ?_
            refine r_putI rfl ⟨rfl, by decide⟩ rfl rfl rfl (fun S7 => ?_)
            refine r_pure rfl rfl ?_
            refine r_pure rfl rfl ?_
            refine r_putI rfl ⟨rfl, by decide⟩ rfl rfl rfl (fun S8 => ?_)
            refine r_pure rfl rfl ?_
            refine r_pure rfl rfl ?_
            refine r_get rfl (en_get (b := false) (k := 121) (L := 7) ⟨rfl, by decide⟩ rfl) (fo_get (S := S8) rfl) ?_
            refine r_putI rfl ⟨rfl, by decide⟩ rfl rfl rfl (fun S9 => ?_)
            refine r_pure rfl rfl ?_
            refine r_callV_VW rfl rfl (en_get (b := false) (k := 121) (L := 7) ⟨rfl, by decide⟩ rfl) (Nat.le_of_ble_eq_true rfl) (rf_X3_keepDeal (by omega) S9) (fun q10 => ?_)
            exact r_retV rfl rfl
    · refine r_pure rfl rfl ?_
      refine r_pure rfl rfl ?_
      refine r_get rfl (en_get (b := false) (k := 121) (L := 7) ⟨rfl, by decide⟩ rfl) (fo_get (S := S) rfl) ?_
      refine r_pure rfl rfl ?_
      refine r_iald rfl (en_get (b := false) (k := 133) (L := 0) ⟨rfl, by decide⟩ rfl) (fun a11 => ?_)
      refine r_if1 rfl rfl ?_ ?_
      · refine r_pure rfl rfl ?_
        refine r_pure rfl rfl ?_
        refine r_pure (lv' := [some (.ref 121), some (.int (v1 + (0 : Int32))), some (.int v2)]) rfl rfl ?_
        refine r_pure (lv' := [some (.ref 121), some (.int (v1 + (0 : Int32))), some (.int (v2 + (1 : Int32)))]) rfl rfl ?_
        refine r_pure rfl rfl ?_
        exact lm_le (by omega) (ih (v1 + (0 : Int32)) (v2 + (1 : Int32)) S)
      · refine r_pure rfl rfl ?_
        refine r_pure rfl rfl ?_
        refine r_pure rfl rfl ?_
        refine r_pure (lv' := [some (.ref 121), some (.int (v1 + (1 : Int32))), some (.int v2)]) rfl rfl ?_
        refine r_pure (lv' := [some (.ref 121), some (.int (v1 + (1 : Int32))), some (.int (v2 + (1 : Int32)))]) rfl rfl ?_
        refine r_pure rfl rfl ?_
        exact lm_le (by omega) (ih (v1 + (1 : Int32)) (v2 + (1 : Int32)) S)
set_option maxRecDepth 100000 in
theorem rf_X3_consider {d : Nat} (hd : 5 ≤ d) {O : HS} (S : HS) : Lm (oV false O) (s_X3_consider S) (CF d 32 [.ref 121] (en false O S)) := by
  unfold s_X3_consider
  obtain ⟨e, rfl⟩ : ∃ e, d = e + 1 := ⟨d - 1, by omega⟩
  refine rm_of (lv := [some (.ref 121), none, none]) (k_X3_consider false) (by omega) rfl rfl (Nat.le_of_ble_eq_true rfl) ?_
  refine lm_le (n := 1724) (by omega) ?_
  show Lm _ _ (run (CF e) _ _ _ _ _ _)
  refine r_pure rfl rfl ?_
  refine r_pure (lv' := [some (.ref 121), some (.int (0 : Int32)), none]) rfl rfl ?_
  refine r_pure rfl rfl ?_
  refine r_pure (lv' := [some (.ref 121), some (.int (0 : Int32)), some (.int (0 : Int32))]) rfl rfl ?_
  exact lm_le (by omega) (rl_X3_consider_L4 (n := 0) (by omega) 40 (0 : Int32) (0 : Int32) S)
/-! X3_gives -/
def s_X3_gives_J74 (v1 : Int32) (v2 : Int32) (v3 : Int32) (v4 : Int32) (v5 : Int32) (S : HS) : Option (Int32 × HS) :=
  Option.bind (tl (gr S 121 2)) fun t10 =>
  Option.bind (ag (ga S 131) v2) fun a11 =>
  Option.bind (s_X0_lay 126 t10 v1 a11 v4 v3 S) fun q12 =>
  Option.bind (ag (ga q12 133) v2) fun a13 =>
  Option.bind (wa q12 133 v2 (a13 - v3)) fun S14 =>
  Option.bind (pf S14 121 10 ((gf S14 121 10) + (1 : Int32))) fun S15 =>
  if v5 = (0 : Int32) then
    Option.bind (pf S15 121 11 ((gf S15 121 11) + (0 : Int32))) fun S16 =>
    some ((1 : Int32), S16)
  else
    Option.bind (pf S15 121 11 ((gf S15 121 11) + (1 : Int32))) fun S17 =>
    some ((1 : Int32), S17)
def s_X3_gives (v1 : Int32) (v2 : Int32) (S : HS) : Option (Int32 × HS) :=
  Option.bind (tl (gr S 121 2)) fun t1 =>
  Option.bind (s_X6_top t1 v1 S) fun q2 =>
  Option.bind (ag (ga S 133) v2) fun a3 =>
  if (mn q2 a3) ≠ (0 : Int32) then
    Option.bind (tl (gr S 121 2)) fun t4 =>
    Option.bind (ag (ga S 131) v2) fun a5 =>
    Option.bind (ag (ga S (t4 + 7)) a5) fun a6 =>
    Option.bind (tl (gr S 121 2)) fun t7 =>
    Option.bind (ag (ga S 129) v1) fun a8 =>
    Option.bind (s_X6_isBarred t7 a8 a6 S) fun q9 =>
    if q9 = (0 : Int32) then
      s_X3_gives_J74 v1 v2 (mn q2 a3) a6 q9 S
    else
      if (gf S 121 4) ≠ (0 : Int32) then
        s_X3_gives_J74 v1 v2 (mn q2 a3) a6 q9 S
      else
        some ((0 : Int32), S)
  else
    some ((0 : Int32), S)
set_option maxRecDepth 100000 in
theorem rj_X3_gives_J74 {e : Nat} (he : 1 ≤ e) {O : HS} (v1 : Int32) (v2 : Int32) (v3 : Int32) (v4 : Int32) (v5 : Int32) {n : Nat} (S : HS) : Lm (oIW false O) (s_X3_gives_J74 v1 v2 v3 v4 v5 S) (run (CF e) (k_X3_gives false) (n + 37) 74 [some (.ref 121), some (.int v1), some (.int v2), some (.int v3), some (.int v4), some (.int v5)] [] (en false O S)) := by
  unfold s_X3_gives_J74
  refine r_pure rfl rfl ?_
  refine r_get rfl (en_get (b := false) (k := 121) (L := 7) ⟨rfl, by decide⟩ rfl) (fo_get (S := S) rfl) ?_
  refine r_pure rfl rfl ?_
  refine r_getT rfl ⟨rfl, by decide⟩ rfl rfl (fun t10 ht10 => ?_)
  refine r_pure rfl rfl ?_
  refine r_pure rfl rfl ?_
  refine r_get rfl (en_get (b := false) (k := 121) (L := 7) ⟨rfl, by decide⟩ rfl) (fo_get (S := S) rfl) ?_
  refine r_pure rfl rfl ?_
  refine r_iald rfl (en_get (b := false) (k := 131) (L := 0) ⟨rfl, by decide⟩ rfl) (fun a11 => ?_)
  refine r_pure rfl rfl ?_
  refine r_pure rfl rfl ?_
  refine r_callV_VW rfl rfl (en_get (b := false) (k := 126) (L := 4) ⟨rfl, by decide⟩ rfl) (Nat.le_of_ble_eq_true rfl) (rf_X0_lay (by omega) 126 t10 mC126 ht10 v1 a11 v4 v3 S) (fun q12 => ?_)
  refine r_pure rfl rfl ?_
  refine r_get rfl (en_get (b := false) (k := 121) (L := 7) ⟨rfl, by decide⟩ rfl) (fo_get (S := q12) rfl) ?_
  refine r_pure rfl rfl ?_
  refine r_pure rfl rfl ?_
  refine r_iald rfl (en_get (b := false) (k := 133) (L := 0) ⟨rfl, by decide⟩ rfl) (fun a13 => ?_)
  refine r_pure rfl rfl ?_
  refine r_pure rfl rfl ?_
  refine r_iastI rfl ⟨rfl, by decide⟩ rfl (fun S14 => ?_)
  refine r_pure rfl rfl ?_
  refine r_pure rfl rfl ?_
  refine r_get rfl (en_get (b := false) (k := 121) (L := 7) ⟨rfl, by decide⟩ rfl) (fo_get (S := S14) rfl) ?_
  refine r_pure rfl rfl ?_
  refine r_pure rfl rfl ?_
  refine r_putI rfl ⟨rfl, by decide⟩ rfl rfl rfl (fun S15 => ?_)
  refine r_pure rfl rfl ?_
  refine r_pure rfl rfl ?_
  refine r_get rfl (en_get (b := false) (k := 121) (L := 7) ⟨rfl, by decide⟩ rfl) (fo_get (S := S15) rfl) ?_
  refine r_pure rfl rfl ?_
  refine r_if1 rfl rfl ?_ ?_
  · refine r_pure rfl rfl ?_
    refine r_pure rfl rfl ?_
    refine r_putI rfl ⟨rfl, by decide⟩ rfl rfl rfl (fun S16 => ?_)
    refine r_pure rfl rfl ?_
    exact r_retZ rfl (Or.inr rfl) rfl
  · refine r_pure rfl rfl ?_
    refine r_pure rfl rfl ?_
    refine r_pure rfl rfl ?_
    refine r_putI rfl ⟨rfl, by decide⟩ rfl rfl rfl (fun S17 => ?_)
    refine r_pure rfl rfl ?_
    exact r_retZ rfl (Or.inr rfl) rfl
set_option maxRecDepth 100000 in
theorem rf_X3_gives {d : Nat} (hd : 2 ≤ d) {O : HS} (v1 : Int32) (v2 : Int32) (S : HS) : Lm (oIW false O) (s_X3_gives v1 v2 S) (CF d 30 [.ref 121, .int v1, .int v2] (en false O S)) := by
  unfold s_X3_gives
  obtain ⟨e, rfl⟩ : ∃ e, d = e + 1 := ⟨d - 1, by omega⟩
  refine rm_of (lv := [some (.ref 121), some (.int v1), some (.int v2), none, none, none]) (k_X3_gives false) (by omega) rfl rfl (Nat.le_of_ble_eq_true rfl) ?_
  refine lm_le (n := 73) (by omega) ?_
  show Lm _ _ (run (CF e) _ _ _ _ _ _)
  refine r_pure rfl rfl ?_
  refine r_getT rfl ⟨rfl, by decide⟩ rfl rfl (fun t1 ht1 => ?_)
  refine r_pure rfl rfl ?_
  refine r_callV_I rfl rfl (en_get (b := false) (k := t1) (L := 10) (zT0 ht1) (lT0 ht1)) (Nat.le_of_ble_eq_true rfl) (rf_X6_top (by omega) t1 ht1 v1 S) (fun q2 => ?_)
  refine r_pure rfl rfl ?_
  refine r_get rfl (en_get (b := false) (k := 121) (L := 7) ⟨rfl, by decide⟩ rfl) (fo_get (S := S) rfl) ?_
  refine r_pure rfl rfl ?_
  refine r_iald rfl (en_get (b := false) (k := 133) (L := 0) ⟨rfl, by decide⟩ rfl) (fun a3 => ?_)
  refine r_min rfl (Nat.le_of_ble_eq_true rfl) ?_
  refine r_pure (lv' := [some (.ref 121), some (.int v1), some (.int v2), some (.int (mn q2 a3)), none, none]) rfl rfl ?_
  refine r_pure rfl rfl ?_
  refine r_if1 rfl rfl ?_ ?_
  · refine r_pure rfl rfl ?_
    refine r_getT rfl ⟨rfl, by decide⟩ rfl rfl (fun t4 ht4 => ?_)
    refine r_get rfl (en_get (b := false) (k := t4) (L := 10) (zT0 ht4) (lT0 ht4)) (fo_get (S := S) rfl) ?_
    refine r_pure rfl rfl ?_
    refine r_get rfl (en_get (b := false) (k := 121) (L := 7) ⟨rfl, by decide⟩ rfl) (fo_get (S := S) rfl) ?_
    refine r_pure rfl rfl ?_
    refine r_iald rfl (en_get (b := false) (k := 131) (L := 0) ⟨rfl, by decide⟩ rfl) (fun a5 => ?_)
    refine r_iald rfl (en_get (b := false) (k := (t4 + 7)) (L := 0) (zT7 ht4) (lT7 ht4)) (fun a6 => ?_)
    refine r_pure (lv' := [some (.ref 121), some (.int v1), some (.int v2), some (.int (mn q2 a3)), some (.int a6), none]) rfl rfl ?_
    refine r_pure rfl rfl ?_
    refine r_getT rfl ⟨rfl, by decide⟩ rfl rfl (fun t7 ht7 => ?_)
    refine r_pure rfl rfl ?_
    refine r_get rfl (en_get (b := false) (k := 121) (L := 7) ⟨rfl, by decide⟩ rfl) (fo_get (S := S) rfl) ?_
    refine r_get rfl (en_get (b := false) (k := 126) (L := 4) ⟨rfl, by decide⟩ rfl) (fo_get (S := S) rfl) ?_
    refine r_pure rfl rfl ?_
    refine r_iald rfl (en_get (b := false) (k := 129) (L := 0) ⟨rfl, by decide⟩ rfl) (fun a8 => ?_)
    refine r_pure rfl rfl ?_
    refine r_callV_I rfl rfl (en_get (b := false) (k := t7) (L := 10) (zT0 ht7) (lT0 ht7)) (Nat.le_of_ble_eq_true rfl) (rf_X6_isBarred (by omega) t7 ht7 a8 a6 S) (fun q9 => ?_)
    refine r_pure (lv' := [some (.ref 121), some (.int v1), some (.int v2), some (.int (mn q2 a3)), some (.int a6), some (.int q9)]) rfl rfl ?_
    refine r_pure rfl rfl ?_
    refine r_if1 rfl rfl ?_ ?_
    · exact lm_le (by omega) (rj_X3_gives_J74 (n := 0) (by omega) v1 v2 (mn q2 a3) a6 q9 S)
    · refine r_pure rfl rfl ?_
      refine r_get rfl (en_get (b := false) (k := 121) (L := 7) ⟨rfl, by decide⟩ rfl) (fo_get (S := S) rfl) ?_
      refine r_if1 rfl rfl ?_ ?_
      · exact lm_le (by omega) (rj_X3_gives_J74 (n := 0) (by omega) v1 v2 (mn q2 a3) a6 q9 S)
      · refine r_pure rfl rfl ?_
        exact r_retZ rfl (Or.inl rfl) rfl
  · refine r_pure rfl rfl ?_
    exact r_retZ rfl (Or.inl rfl) rfl
/-! X0_takeOut -/
def s_X0_takeOut (b : Nat) (v1 : Int32) (S : HS) : Option HS :=
  Option.bind (wa S (b + 1) v1 (0 : Int32)) fun S1 =>
  Option.bind (wa S1 (b + 4) v1 (0 : Int32)) fun S2 =>
  Option.bind (wa S2 (b + 2) v1 (-1 : Int32)) fun S3 =>
  some S3
set_option maxRecDepth 100000 in
theorem rf_X0_takeOut {d : Nat} (hd : 1 ≤ d) {O : HS} (b : Nat) (hb : isC b) (v1 : Int32) (S : HS) : Lm (oV false O) (s_X0_takeOut b v1 S) (CF d 4 [.ref b, .int v1] (en false O S)) := by
  unfold s_X0_takeOut
  obtain ⟨e, rfl⟩ : ∃ e, d = e + 1 := ⟨d - 1, by omega⟩
  refine rm_of (lv := [some (.ref b), some (.int v1)]) (k_X0_takeOut false) (by omega) rfl rfl (Nat.le_of_ble_eq_true rfl) ?_
  refine lm_le (n := 16) (by omega) ?_
  show Lm _ _ (run (CF e) _ _ _ _ _ _)
  refine r_pure rfl rfl ?_
  refine r_get rfl (en_get (b := false) (k := b) (L := 4) (zC0 hb) (lC0 hb)) (fo_get (S := S) rfl) ?_
  refine r_pure rfl rfl ?_
  refine r_pure rfl rfl ?_
  refine r_iastI rfl (zC1 hb) (lC1 hb) (fun S1 => ?_)
  refine r_pure rfl rfl ?_
  refine r_get rfl (en_get (b := false) (k := b) (L := 4) (zC0 hb) (lC0 hb)) (fo_get (S := S1) rfl) ?_
  refine r_pure rfl rfl ?_
  refine r_pure rfl rfl ?_
  refine r_iastI rfl (zC4 hb) (lC4 hb) (fun S2 => ?_)
  refine r_pure rfl rfl ?_
  refine r_get rfl (en_get (b := false) (k := b) (L := 4) (zC0 hb) (lC0 hb)) (fo_get (S := S2) rfl) ?_
  refine r_pure rfl rfl ?_
  refine r_pure rfl rfl ?_
  refine r_iastI rfl (zC2 hb) (lC2 hb) (fun S3 => ?_)
  exact r_retV rfl rfl
/-! X3_takeBack -/
def s_X3_takeBack (v1 : Int32) (v2 : Int32) (S : HS) : Option HS :=
  Option.bind (rc (gr S 121 3) 22) fun _ =>
  Option.bind (ag (ga S 26) v1) fun a1 =>
  Option.bind (ag (ga S 133) v2) fun a2 =>
  Option.bind (ag (ga S 127) v1) fun a3 =>
  Option.bind (wa S 133 v2 (a2 + a3)) fun S4 =>
  Option.bind (s_X0_takeOut 126 v1 S4) fun q5 =>
  Option.bind (wa q5 129 v1 a1) fun S6 =>
  Option.bind (pf S6 121 10 ((gf S6 121 10) - (1 : Int32))) fun S7 =>
  Option.bind (tl (gr S7 121 2)) fun t8 =>
  Option.bind (tl (gr S7 121 2)) fun t9 =>
  Option.bind (ag (ga S7 131) v2) fun a10 =>
  Option.bind (ag (ga S7 (t9 + 7)) a10) fun a11 =>
  Option.bind (s_X6_isBarred t8 a1 a11 S7) fun q12 =>
  if q12 = (0 : Int32) then
    Option.bind (pf S7 121 11 ((gf S7 121 11) - (0 : Int32))) fun S13 =>
    some S13
  else
    Option.bind (pf S7 121 11 ((gf S7 121 11) - (1 : Int32))) fun S14 =>
    some S14
set_option maxRecDepth 100000 in
theorem rf_X3_takeBack {d : Nat} (hd : 2 ≤ d) {O : HS} (v1 : Int32) (v2 : Int32) (S : HS) : Lm (oV false O) (s_X3_takeBack v1 v2 S) (CF d 31 [.ref 121, .int v1, .int v2] (en false O S)) := by
  unfold s_X3_takeBack
  obtain ⟨e, rfl⟩ : ∃ e, d = e + 1 := ⟨d - 1, by omega⟩
  refine rm_of (lv := [some (.ref 121), some (.int v1), some (.int v2), none]) (k_X3_takeBack false) (by omega) rfl rfl (Nat.le_of_ble_eq_true rfl) ?_
  refine lm_le (n := 56) (by omega) ?_
  show Lm _ _ (run (CF e) _ _ _ _ _ _)
  refine r_pure rfl rfl ?_
  refine r_getC rfl ⟨rfl, by decide⟩ rfl rfl ?_
  refine r_get rfl (en_get (b := false) (k := 22) (L := 9) ⟨rfl, by decide⟩ rfl) (fo_get (S := S) rfl) ?_
  refine r_get rfl (en_get (b := false) (k := 23) (L := 4) ⟨rfl, by decide⟩ rfl) (fo_get (S := S) rfl) ?_
  refine r_pure rfl rfl ?_
  refine r_iald rfl (en_get (b := false) (k := 26) (L := 0) ⟨rfl, by decide⟩ rfl) (fun a1 => ?_)
  refine r_pure (lv' := [some (.ref 121), some (.int v1), some (.int v2), some (.int a1)]) rfl rfl ?_
  refine r_pure rfl rfl ?_
  refine r_get rfl (en_get (b := false) (k := 121) (L := 7) ⟨rfl, by decide⟩ rfl) (fo_get (S := S) rfl) ?_
  refine r_pure rfl rfl ?_
  refine r_pure rfl rfl ?_
  refine r_iald rfl (en_get (b := false) (k := 133) (L := 0) ⟨rfl, by decide⟩ rfl) (fun a2 => ?_)
  refine r_pure rfl rfl ?_
  refine r_get rfl (en_get (b := false) (k := 121) (L := 7) ⟨rfl, by decide⟩ rfl) (fo_get (S := S) rfl) ?_
  refine r_get rfl (en_get (b := false) (k := 126) (L := 4) ⟨rfl, by decide⟩ rfl) (fo_get (S := S) rfl) ?_
  refine r_pure rfl rfl ?_
  refine r_iald rfl (en_get (b := false) (k := 127) (L := 0) ⟨rfl, by decide⟩ rfl) (fun a3 => ?_)
  refine r_pure rfl rfl ?_
  refine r_iastI rfl ⟨rfl, by decide⟩ rfl (fun S4 => ?_)
  refine r_pure rfl rfl ?_
  refine r_get rfl (en_get (b := false) (k := 121) (L := 7) ⟨rfl, by decide⟩ rfl) (fo_get (S := S4) rfl) ?_
  refine r_pure rfl rfl ?_
  refine r_callV_VW rfl rfl (en_get (b := false) (k := 126) (L := 4) ⟨rfl, by decide⟩ rfl) (Nat.le_of_ble_eq_true rfl) (rf_X0_takeOut (by omega) 126 mC126 v1 S4) (fun q5 => ?_)
  refine r_pure rfl rfl ?_
  refine r_get rfl (en_get (b := false) (k := 121) (L := 7) ⟨rfl, by decide⟩ rfl) (fo_get (S := q5) rfl) ?_
  refine r_get rfl (en_get (b := false) (k := 126) (L := 4) ⟨rfl, by decide⟩ rfl) (fo_get (S := q5) rfl) ?_
  refine r_pure rfl rfl ?_
  refine r_pure rfl rfl ?_
  refine r_iastI rfl ⟨rfl, by decide⟩ rfl (fun S6 => ?_)
  refine r_pure rfl rfl ?_
  refine r_pure rfl rfl ?_
  refine r_get rfl (en_get (b := false) (k := 121) (L := 7) ⟨rfl, by decide⟩ rfl) (fo_get (S := S6) rfl) ?_
  refine r_pure rfl rfl ?_
  refine r_pure rfl rfl ?_
  refine r_putI rfl ⟨rfl, by decide⟩ rfl rfl rfl (fun S7 => ?_)
  refine r_pure rfl rfl ?_
  refine r_pure rfl rfl ?_
  refine r_get rfl (en_get (b := false) (k := 121) (L := 7) ⟨rfl, by decide⟩ rfl) (fo_get (S := S7) rfl) ?_
  refine r_pure rfl rfl ?_
  refine r_getT rfl ⟨rfl, by decide⟩ rfl rfl (fun t8 ht8 => ?_)
  refine r_pure rfl rfl ?_
  refine r_pure rfl rfl ?_
  refine r_getT rfl ⟨rfl, by decide⟩ rfl rfl (fun t9 ht9 => ?_)
  refine r_get rfl (en_get (b := false) (k := t9) (L := 10) (zT0 ht9) (lT0 ht9)) (fo_get (S := S7) rfl) ?_
  refine r_pure rfl rfl ?_
  refine r_get rfl (en_get (b := false) (k := 121) (L := 7) ⟨rfl, by decide⟩ rfl) (fo_get (S := S7) rfl) ?_
  refine r_pure rfl rfl ?_
  refine r_iald rfl (en_get (b := false) (k := 131) (L := 0) ⟨rfl, by decide⟩ rfl) (fun a10 => ?_)
  refine r_iald rfl (en_get (b := false) (k := (t9 + 7)) (L := 0) (zT7 ht9) (lT7 ht9)) (fun a11 => ?_)
  refine r_callV_I rfl rfl (en_get (b := false) (k := t8) (L := 10) (zT0 ht8) (lT0 ht8)) (Nat.le_of_ble_eq_true rfl) (rf_X6_isBarred (by omega) t8 ht8 a1 a11 S7) (fun q12 => ?_)
  refine r_if1 rfl rfl ?_ ?_
  · refine r_pure rfl rfl ?_
    refine r_pure rfl rfl ?_
    refine r_putI rfl ⟨rfl, by decide⟩ rfl rfl rfl (fun S13 => ?_)
    exact r_retV rfl rfl
  · refine r_pure rfl rfl ?_
    refine r_pure rfl rfl ?_
    refine r_pure rfl rfl ?_
    refine r_putI rfl ⟨rfl, by decide⟩ rfl rfl rfl (fun S14 => ?_)
    exact r_retV rfl rfl
/-! X3_deal -/
def s_X3_deal_J75 (self : Int32 → HS → Option HS) (v1 : Int32) (S : HS) : Option HS :=
  Option.bind (self (v1 + (1 : Int32)) S) fun q4 =>
  some q4
def s_X3_deal_L39 (self : Int32 → HS → Option HS) (v1 : Int32) : Nat → Int32 → HS → Option HS
  | 0, _, _ => none
  | K + 1, v2, S =>
    if (gf S 121 5) ≤ v2 then
      s_X3_deal_J75 self v1 S
    else
      Option.bind (s_X3_gives v1 v2 S) fun q5 =>
      if q5.1 = (0 : Int32) then
        s_X3_deal_L39 self v1 K (v2 + (1 : Int32)) q5.2
      else
        Option.bind (self (v1 + (1 : Int32)) q5.2) fun q6 =>
        Option.bind (s_X3_takeBack v1 v2 q6) fun q7 =>
        s_X3_deal_L39 self v1 K (v2 + (1 : Int32)) q7
def s_X3_deal_B (self : Int32 → HS → Option HS) (v1 : Int32) (S : HS) : Option HS :=
  Option.bind (s_X3_isHopeless v1 S) fun q1 =>
  if q1 = (0 : Int32) then
    Option.bind (tl (gr S 121 2)) fun t2 =>
    if v1 < (gf S t2 1) then
      Option.bind (ag (ga S 127) v1) fun a3 =>
      if a3 ≠ (0 : Int32) then
        s_X3_deal_J75 self v1 S
      else
        s_X3_deal_L39 self v1 40 (0 : Int32) S
    else
      Option.bind (s_X3_consider S) fun q8 =>
      some q8
  else
    some S
def s_X3_deal : Nat → Int32 → HS → Option HS
  | 0, _, _ => none
  | r + 1, v1, S => s_X3_deal_B (s_X3_deal r) v1 S
set_option maxRecDepth 100000 in
theorem rj_X3_deal_J75 {e : Nat} (he : 5 ≤ e) {O : HS} (self : Int32 → HS → Option HS) (hself : ∀ (v1 : Int32) (S : HS), Lm (oV false O) (self v1 S) (CF e 28 [.ref 121, .int v1] (en false O S))) (v1 : Int32) {n : Nat} (S : HS) (j2 : Option Value) : Lm (oV false O) (s_X3_deal_J75 self v1 S) (run (CF e) (k_X3_deal false) (n + 6) 75 [some (.ref 121), some (.int v1), j2] [] (en false O S)) := by
  unfold s_X3_deal_J75
  refine r_pure rfl rfl ?_
  refine r_pure rfl rfl ?_
  refine r_pure rfl rfl ?_
  refine r_pure rfl rfl ?_
  refine r_callS_VW rfl (Nat.le_of_ble_eq_true rfl) (Nat.le_of_ble_eq_true rfl) (hself (v1 + (1 : Int32)) S) (fun q4 => ?_)
  exact r_retV rfl rfl
set_option maxRecDepth 100000 in
theorem rl_X3_deal_L39 {e : Nat} (he : 5 ≤ e) {O : HS} (self : Int32 → HS → Option HS) (hself : ∀ (v1 : Int32) (S : HS), Lm (oV false O) (self v1 S) (CF e 28 [.ref 121, .int v1] (en false O S))) (v1 : Int32) {n : Nat} : ∀ (K : Nat) (v2 : Int32) (S : HS), Lm (oV false O) (s_X3_deal_L39 self v1 K v2 S) (run (CF e) (k_X3_deal false) (n + (20 * K + 6)) 39 [some (.ref 121), some (.int v1), some (.int v2)] [] (en false O S)) := by
  intro K
  induction K with
  | zero =>
    intros
    exact lm_none
  | succ K ih =>
    intro v2 S
    rw [show n + (20 * (K + 1) + 6) = n + (20 * K + 6) + 20 by omega]
    rw [s_X3_deal_L39]
    refine r_pure rfl rfl ?_
    refine r_pure rfl rfl ?_
    refine r_get rfl (en_get (b := false) (k := 121) (L := 7) ⟨rfl, by decide⟩ rfl) (fo_get (S := S) rfl) ?_
    refine r_if2 rfl rfl ?_ ?_
    · exact lm_le (by omega) (rj_X3_deal_J75 (n := 0) (by omega) self hself v1 S _)
    · refine r_pure rfl rfl ?_
      refine r_pure rfl rfl ?_
      refine r_pure rfl rfl ?_
      refine r_callV_IW rfl rfl (en_get (b := false) (k := 121) (L := 7) ⟨rfl, by decide⟩ rfl) (Nat.le_of_ble_eq_true rfl) (rf_X3_gives (by omega) v1 v2 S) (fun q5 => ?_)
      refine r_if1 rfl rfl ?_ ?_
      · refine r_pure (lv' := [some (.ref 121), some (.int v1), some (.int (v2 + (1 : Int32)))]) rfl rfl ?_
        refine r_pure rfl rfl ?_
        exact lm_le (by omega) (ih (v2 + (1 : Int32)) q5.2)
      · refine r_pure rfl rfl ?_
        refine r_pure rfl rfl ?_
        refine r_pure rfl rfl ?_
        refine r_pure rfl rfl ?_
        refine r_callS_VW rfl (Nat.le_of_ble_eq_true rfl) (Nat.le_of_ble_eq_true rfl) (hself (v1 + (1 : Int32)) q5.2) (fun q6 => ?_)
        refine r_pure rfl rfl ?_
        refine r_pure rfl rfl ?_
        refine r_pure rfl rfl ?_
        refine r_callV_VW rfl rfl (en_get (b := false) (k := 121) (L := 7) ⟨rfl, by decide⟩ rfl) (Nat.le_of_ble_eq_true rfl) (rf_X3_takeBack (by omega) v1 v2 q6) (fun q7 => ?_)
        refine r_pure (lv' := [some (.ref 121), some (.int v1), some (.int (v2 + (1 : Int32)))]) rfl rfl ?_
        refine r_pure rfl rfl ?_
        exact lm_le (by omega) (ih (v2 + (1 : Int32)) q7)
set_option maxRecDepth 100000 in
theorem rb_X3_deal {e : Nat} (he : 5 ≤ e) {O : HS} (self : Int32 → HS → Option HS) (hself : ∀ (v1 : Int32) (S : HS), Lm (oV false O) (self v1 S) (CF e 28 [.ref 121, .int v1] (en false O S))) (v1 : Int32) (S : HS) : Lm (oV false O) (s_X3_deal_B self v1 S) (CF (e + 1) 28 [.ref 121, .int v1] (en false O S)) := by
  unfold s_X3_deal_B
  refine rm_of (lv := [some (.ref 121), some (.int v1), none]) (k_X3_deal false) (by omega) rfl rfl (Nat.le_of_ble_eq_true rfl) ?_
  refine lm_le (n := 823) (by omega) ?_
  show Lm _ _ (run (CF e) _ _ _ _ _ _)
  refine r_pure rfl rfl ?_
  refine r_pure rfl rfl ?_
  refine r_callV_I rfl rfl (en_get (b := false) (k := 121) (L := 7) ⟨rfl, by decide⟩ rfl) (Nat.le_of_ble_eq_true rfl) (rf_X3_isHopeless (by omega) v1 S) (fun q1 => ?_)
  refine r_if1 rfl rfl ?_ ?_
  · refine r_pure rfl rfl ?_
    refine r_pure rfl rfl ?_
    refine r_getT rfl ⟨rfl, by decide⟩ rfl rfl (fun t2 ht2 => ?_)
    refine r_get rfl (en_get (b := false) (k := t2) (L := 10) (zT0 ht2) (lT0 ht2)) (fo_get (S := S) rfl) ?_
    refine r_if2 rfl rfl ?_ ?_
    · refine r_pure rfl rfl ?_
      refine r_get rfl (en_get (b := false) (k := 121) (L := 7) ⟨rfl, by decide⟩ rfl) (fo_get (S := S) rfl) ?_
      refine r_get rfl (en_get (b := false) (k := 126) (L := 4) ⟨rfl, by decide⟩ rfl) (fo_get (S := S) rfl) ?_
      refine r_pure rfl rfl ?_
      refine r_iald rfl (en_get (b := false) (k := 127) (L := 0) ⟨rfl, by decide⟩ rfl) (fun a3 => ?_)
      refine r_if1 rfl rfl ?_ ?_
      · exact lm_le (by omega) (rj_X3_deal_J75 (n := 0) (by omega) self hself v1 S _)
      · refine r_pure rfl rfl ?_
        refine r_pure (lv' := [some (.ref 121), some (.int v1), some (.int (0 : Int32))]) rfl rfl ?_
        exact lm_le (by omega) (rl_X3_deal_L39 (n := 0) (by omega) self hself v1 40 (0 : Int32) S)
    · refine r_pure rfl rfl ?_
      refine r_callV_VW rfl rfl (en_get (b := false) (k := 121) (L := 7) ⟨rfl, by decide⟩ rfl) (Nat.le_of_ble_eq_true rfl) (rf_X3_consider (by omega) S) (fun q8 => ?_)
      exact r_retV rfl rfl
  · exact r_retV rfl rfl
set_option maxRecDepth 100000 in
theorem rf_X3_deal : ∀ (r : Nat) {d : Nat} (_ : 6 + r ≤ d) {O : HS} (v1 : Int32) (S : HS), Lm (oV false O) (s_X3_deal r v1 S) (CF d 28 [.ref 121, .int v1] (en false O S)) := by
  intro r
  induction r with
  | zero =>
    intros
    exact lm_none
  | succ r ih =>
    intro d hd O v1 S
    obtain ⟨e, rfl⟩ : ∃ e, d = e + 1 := ⟨d - 1, by omega⟩
    rw [s_X3_deal]
    exact rb_X3_deal (by omega) _ (fun v1 S => ih (by omega) v1 S) v1 S
/-! X3_findsPlan -/
def s_X3_findsPlan (t : Nat) (S : HS) : Option (Int32 × HS) :=
  Option.bind (s_X3_prepare t (0 : Int32) S) fun q1 =>
  Option.bind (s_X3_deal 8 (0 : Int32) q1) fun q2 =>
  Option.bind (gz (gf q2 121 12)) fun _ =>
  some ((gf q2 121 12), q2)
set_option maxRecDepth 100000 in
theorem rf_X3_findsPlan {d : Nat} (hd : 15 ≤ d) {O : HS} (t : Nat) (ht : isT t) (S : HS) : Lm (oIW false O) (s_X3_findsPlan t S) (CF d 25 [.ref 121, .ref t, .ref 22] (en false O S)) := by
  unfold s_X3_findsPlan
  obtain ⟨e, rfl⟩ : ∃ e, d = e + 1 := ⟨d - 1, by omega⟩
  refine rm_of (lv := [some (.ref 121), some (.ref t), some (.ref 22)]) (k_X3_findsPlan false) (by omega) rfl rfl (Nat.le_of_ble_eq_true rfl) ?_
  refine lm_le (n := 11) (by omega) ?_
  show Lm _ _ (run (CF e) _ _ _ _ _ _)
  refine r_pure rfl rfl ?_
  refine r_pure rfl rfl ?_
  refine r_pure rfl rfl ?_
  refine r_pure rfl rfl ?_
  refine r_callV_VW rfl rfl (en_get (b := false) (k := 121) (L := 7) ⟨rfl, by decide⟩ rfl) (Nat.le_of_ble_eq_true rfl) (rf_X3_prepare (by omega) t ht (0 : Int32) S) (fun q1 => ?_)
  refine r_pure rfl rfl ?_
  refine r_pure rfl rfl ?_
  refine r_callS_VW rfl (Nat.le_of_ble_eq_true rfl) (Nat.le_of_ble_eq_true rfl) (rf_X3_deal 8 (by omega) (0 : Int32) q1) (fun q2 => ?_)
  refine r_pure rfl rfl ?_
  refine r_get rfl (en_get (b := false) (k := 121) (L := 7) ⟨rfl, by decide⟩ rfl) (fo_get (S := q2) rfl) ?_
  exact r_retG rfl rfl rfl
/-! X7_plan -/
def s_X7_plan_J79 (v1 : Int32) (S : HS) : Option (Int32 × HS) :=
  if v1 < (20 : Int32) then
    some ((-1 : Int32), S)
  else
    Option.bind (tl (gr S 0 4)) fun t3 =>
    Option.bind (s_X6_hasCompartment t3 (v1 - (20 : Int32)) S) fun q4 =>
    if q4 = (0 : Int32) then
      some ((-1 : Int32), S)
    else
      Option.bind (ag (ga S 136) (v1 - (20 : Int32))) fun a5 =>
      some (a5, S)
def s_X7_plan (v1 : Int32) (S : HS) : Option (Int32 × HS) :=
  Option.bind (tl (gr S 0 4)) fun t1 =>
  Option.bind (s_X3_findsPlan t1 S) fun q2 =>
  if q2.1 ≠ (0 : Int32) then
    if v1 ≠ (0 : Int32) then
      if v1 ≠ (1 : Int32) then
        if v1 < (10 : Int32) then
          s_X7_plan_J79 v1 q2.2
        else
          Option.bind (tl (gr q2.2 0 4)) fun t6 =>
          Option.bind (s_X6_hasCompartment t6 (v1 - (10 : Int32)) q2.2) fun q7 =>
          if q7 = (0 : Int32) then
            s_X7_plan_J79 v1 q2.2
          else
            Option.bind (ag (ga q2.2 135) (v1 - (10 : Int32))) fun a8 =>
            some (a8, q2.2)
      else
        some ((gf q2.2 121 15), q2.2)
    else
      some ((gf q2.2 121 14), q2.2)
  else
    some ((-2 : Int32), q2.2)
set_option maxRecDepth 100000 in
theorem rj_X7_plan_J79 {e : Nat} (he : 15 ≤ e) {O : HS} (v1 : Int32) {n : Nat} (S : HS) : Lm (oIW false O) (s_X7_plan_J79 v1 S) (run (CF e) (k_X7_plan false) (n + 18) 79 [some (.ref 0), some (.int v1)] [] (en false O S)) := by
  unfold s_X7_plan_J79
  refine r_pure rfl rfl ?_
  refine r_pure rfl rfl ?_
  refine r_if2 rfl rfl ?_ ?_
  · refine r_pure rfl rfl ?_
    exact r_retI rfl rfl
  · refine r_pure rfl rfl ?_
    refine r_getT rfl ⟨rfl, by decide⟩ rfl rfl (fun t3 ht3 => ?_)
    refine r_pure rfl rfl ?_
    refine r_pure rfl rfl ?_
    refine r_pure rfl rfl ?_
    refine r_callV_I rfl rfl (en_get (b := false) (k := t3) (L := 10) (zT0 ht3) (lT0 ht3)) (Nat.le_of_ble_eq_true rfl) (rf_X6_hasCompartment (by omega) t3 ht3 (v1 - (20 : Int32)) S) (fun q4 => ?_)
    refine r_if1 rfl rfl ?_ ?_
    · refine r_pure rfl rfl ?_
      exact r_retI rfl rfl
    · refine r_pure rfl rfl ?_
      refine r_get rfl (en_get (b := false) (k := 0) (L := 11) ⟨rfl, by decide⟩ rfl) (fo_get (S := S) rfl) ?_
      refine r_get rfl (en_get (b := false) (k := 121) (L := 7) ⟨rfl, by decide⟩ rfl) (fo_get (S := S) rfl) ?_
      refine r_pure rfl rfl ?_
      refine r_pure rfl rfl ?_
      refine r_pure rfl rfl ?_
      refine r_iald rfl (en_get (b := false) (k := 136) (L := 0) ⟨rfl, by decide⟩ rfl) (fun a5 => ?_)
      exact r_retI rfl rfl
set_option maxRecDepth 100000 in
theorem rf_X7_plan {d : Nat} (hd : 16 ≤ d) {O : HS} (v1 : Int32) (S : HS) : Lm (oIW false O) (s_X7_plan v1 S) (CF d 81 [.ref 0, .int v1] (en false O S)) := by
  unfold s_X7_plan
  obtain ⟨e, rfl⟩ : ∃ e, d = e + 1 := ⟨d - 1, by omega⟩
  refine rm_of (lv := [some (.ref 0), some (.int v1)]) (k_X7_plan false) (by omega) rfl rfl (Nat.le_of_ble_eq_true rfl) ?_
  refine lm_le (n := 41) (by omega) ?_
  show Lm _ _ (run (CF e) _ _ _ _ _ _)
  refine r_pure rfl rfl ?_
  refine r_get rfl (en_get (b := false) (k := 0) (L := 11) ⟨rfl, by decide⟩ rfl) (fo_get (S := S) rfl) ?_
  refine r_pure rfl rfl ?_
  refine r_getT rfl ⟨rfl, by decide⟩ rfl rfl (fun t1 ht1 => ?_)
  refine r_pure rfl rfl ?_
  refine r_get rfl (en_get (b := false) (k := 0) (L := 11) ⟨rfl, by decide⟩ rfl) (fo_get (S := S) rfl) ?_
  refine r_callV_IW rfl rfl (en_get (b := false) (k := 121) (L := 7) ⟨rfl, by decide⟩ rfl) (Nat.le_of_ble_eq_true rfl) (rf_X3_findsPlan (by omega) t1 ht1 S) (fun q2 => ?_)
  refine r_if1 rfl rfl ?_ ?_
  · refine r_pure rfl rfl ?_
    refine r_if1 rfl rfl ?_ ?_
    · refine r_pure rfl rfl ?_
      refine r_pure rfl rfl ?_
      refine r_if2 rfl rfl ?_ ?_
      · refine r_pure rfl rfl ?_
        refine r_pure rfl rfl ?_
        refine r_if2 rfl rfl ?_ ?_
        · exact lm_le (by omega) (rj_X7_plan_J79 (n := 0) (by omega) v1 q2.2)
        · refine r_pure rfl rfl ?_
          refine r_getT rfl ⟨rfl, by decide⟩ rfl rfl (fun t6 ht6 => ?_)
          refine r_pure rfl rfl ?_
          refine r_pure rfl rfl ?_
          refine r_pure rfl rfl ?_
          refine r_callV_I rfl rfl (en_get (b := false) (k := t6) (L := 10) (zT0 ht6) (lT0 ht6)) (Nat.le_of_ble_eq_true rfl) (rf_X6_hasCompartment (by omega) t6 ht6 (v1 - (10 : Int32)) q2.2) (fun q7 => ?_)
          refine r_if1 rfl rfl ?_ ?_
          · exact lm_le (by omega) (rj_X7_plan_J79 (n := 0) (by omega) v1 q2.2)
          · refine r_pure rfl rfl ?_
            refine r_get rfl (en_get (b := false) (k := 0) (L := 11) ⟨rfl, by decide⟩ rfl) (fo_get (S := q2.2) rfl) ?_
            refine r_get rfl (en_get (b := false) (k := 121) (L := 7) ⟨rfl, by decide⟩ rfl) (fo_get (S := q2.2) rfl) ?_
            refine r_pure rfl rfl ?_
            refine r_pure rfl rfl ?_
            refine r_pure rfl rfl ?_
            refine r_iald rfl (en_get (b := false) (k := 135) (L := 0) ⟨rfl, by decide⟩ rfl) (fun a8 => ?_)
            exact r_retI rfl rfl
      · refine r_pure rfl rfl ?_
        refine r_get rfl (en_get (b := false) (k := 0) (L := 11) ⟨rfl, by decide⟩ rfl) (fo_get (S := q2.2) rfl) ?_
        refine r_get rfl (en_get (b := false) (k := 121) (L := 7) ⟨rfl, by decide⟩ rfl) (fo_get (S := q2.2) rfl) ?_
        exact r_retI rfl rfl
    · refine r_pure rfl rfl ?_
      refine r_get rfl (en_get (b := false) (k := 0) (L := 11) ⟨rfl, by decide⟩ rfl) (fo_get (S := q2.2) rfl) ?_
      refine r_get rfl (en_get (b := false) (k := 121) (L := 7) ⟨rfl, by decide⟩ rfl) (fo_get (S := q2.2) rfl) ?_
      exact r_retI rfl rfl
  · refine r_pure rfl rfl ?_
    exact r_retI rfl rfl
