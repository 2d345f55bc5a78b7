/-! the model's reader: go -/
def MT (M : HS) (B : Nat → Nat) : Prop := ∀ i, i < 740 → B i < 256 ∧ (ga M 138).getD i 0 = nI (B i)
def MdI (M : HS) (B : Nat → Nat) (n : Nat) : Prop := LnM M ∧ gf M 137 3 = nI n ∧ MT M B
def wgr (k j : Nat) : Prop := k = 137 ∧ (j = 4 ∨ j = 6 ∨ j = 7 ∨ j = 98)
theorem MdI.fr {W : Nat → Nat → Prop} {S S1 : HS} {B : Nat → Nat} {n : Nat} (h : MdI S B n) (f : Fr W S S1) (hw : ∀ k j, W k j → wg k j) : MdI S1 B n := by
  obtain ⟨a, b, c⟩ := h
  refine ⟨a.fr f, ?_, ?_⟩
  · rw [(f.1 137 3 (fun z => by have := hw _ _ z; unfold wg at this; omega)).1]
    exact b
  · intro i hi
    rw [f.2.2.1 138 (fun z => by have := hw _ _ z; unfold wg at this; omega)]
    exact c i hi
theorem MdI.sf {S : HS} {B : Nat → Nat} {n j : Nat} {x : Int32} (h : MdI S B n) (hj : j ≠ 3) : MdI (sf S 137 j x) B n := by
  obtain ⟨a, b, c⟩ := h
  refine ⟨a, ?_, c⟩
  rw [gf_sf, if_neg (by omega)]
  exact b
theorem MdI.sg {S : HS} {B : Nat → Nat} {n : Nat} {x : Int64} (h : MdI S B n) : MdI (sg S 137 x) B n := h
theorem mp_ag {S : HS} {B : Nat → Nat} {n i : Nat} (h : MdI S B n) (hi : i < 740) : ag (ga S 138) (nI i) = some (nI (B i)) := by
  rw [ag_ok (nM138 h.1) hi (by omega), (h.2.2 i hi).2]
theorem q_tapeAt {S : HS} {B : Nat → Nat} {n i : Nat} (h : MdI S B n) (hn : n ≤ 740) (hi : i ≤ n) : s_X8_tapeAt (nI i) S = some (nI (if i < n then B i else 0)) := by
  unfold s_X8_tapeAt
  rw [h.2.1]
  by_cases c : i < n
  · rw [if_neg (nI_ge c (by omega)), mp_ag h (by omega), sb, if_pos c]
  · rw [if_pos (nI_le (by omega) (by omega)), if_neg c]
    rfl
def gd (lf : Bool) (B : Nat → Nat) (s k : Nat) : Bool := if lf then decide (dcn B s k = 0) else decide (dcn B s k = k)
theorem gd_succ {lf : Bool} {B : Nat → Nat} {s k : Nat} (hl : isLd (B (s + k)) = true) : gd lf B s (k + 1) = (gd lf B s k && (isLt (B (s + k)) == lf)) := by
  have hk := dc_le (B := B) (s := s) k
  have ex : isLt (B (s + k)) = !isDg (B (s + k)) := by
    unfold isLd at hl
    cases h1 : isLt (B (s + k)) with
    | true => rw [lt_not_dg h1]; rfl
    | false =>
      rw [h1, Bool.false_or] at hl
      rw [hl]
      rfl
  rw [ex]
  unfold gd
  rw [dcn]
  cases lf with
  | true =>
    cases h1 : isDg (B (s + k)) with
    | true => simp
    | false => simp
  | false =>
    cases h1 : isDg (B (s + k)) with
    | true => simp
    | false =>
      simp
      omega
theorem dc_first {B : Nat → Nat} {s : Nat} : ∀ k, dcn B s (k + 1) = (if isDg (B s) then 1 else 0) + dcn B (s + 1) k := by
  intro k
  induction k with
  | zero =>
    rw [dcn, dcn, dcn, Nat.add_zero, Nat.zero_add]
    rfl
  | succ k ih =>
    rw [dcn, ih, dcn, show s + (k + 1) = s + 1 + k by omega]
    omega
def gcode (lf g : Bool) (k : Nat) : Nat := if g then (if lf then 2 else if k ≤ 4 then 3 else 1) else 1
theorem q_goL {B : Nat → Nat} {n s : Nat} {lf : Bool} (hn : n ≤ 740) : ∀ (m k : Nat) (M : HS) (K : Nat), s + k + m = n → m < K → MdI M B n → gf M 137 4 = nI (s + k) → gf M 137 5 = nI s → (dcn B s k = k → gf M 137 7 = nI (dvn B s (min k 4))) → (dcn B s k = 0 → lts B s k ∧ gl M 137 = lN (bv (lw B s (min k 12)))) → ∃ M', s_X8_go_L177 (z1 lf) K (z1 (gd lf B s k)) M = some M' ∧ Fr wgr M M' ∧ gf M' 137 4 = nI (ru B m (s + k)) ∧ gf M' 137 6 = nI (gcode lf (gd lf B s (ru B m (s + k) - s)) (ru B m (s + k) - s)) ∧ (dcn B s (ru B m (s + k) - s) = ru B m (s + k) - s → gf M' 137 7 = nI (dvn B s (min (ru B m (s + k) - s) 4))) ∧ (dcn B s (ru B m (s + k) - s) = 0 → lts B s (ru B m (s + k) - s) ∧ gl M' 137 = lN (bv (lw B s (min (ru B m (s + k) - s) 12)))) := by
  intro m
  have fin : ∀ (k : Nat) (M : HS) (K : Nat), s + k ≤ n → MdI M B n → gf M 137 4 = nI (s + k) → gf M 137 5 = nI s → isLt (if s + k < n then B (s + k) else 0) = false → isDg (if s + k < n then B (s + k) else 0) = false → s_X8_go_L177 (z1 lf) (K + 1) (z1 (gd lf B s k)) M = some (sf M 137 6 (nI (gcode lf (gd lf B s k) k))) := by
    intro k M K h1 hM h4 h5 hl hd
    have hb : (if s + k < n then B (s + k) else 0) < 256 := by
      split
      · exact (hM.2.2 _ (by omega)).1
      · omega
    rw [s_X8_go_L177, h4, q_tapeAt hM hn h1, sb, sb, nB_lt hb, sb, nB_dg hb, sb, hl, hd, z1_f, if_neg (by decide), if_pos rfl, h5, pk_sub (by omega), Nat.add_sub_cancel_left]
    simp only [pf_ok, sb]
    cases hg : gd lf B s k with
    | false =>
      rw [z1_f, if_pos rfl]
      rfl
    | true =>
      rw [z1_t, if_neg (by decide)]
      cases lf with
      | true =>
        rw [z1_t, if_pos (by decide), if_neg (by decide)]
        rfl
      | false =>
        rw [z1_f, if_neg (by decide)]
        by_cases k4 : k ≤ 4
        · have e : gcode false true k = 3 := by
            unfold gcode
            rw [if_pos rfl, if_neg (by decide), if_pos k4]
          rw [if_pos (show nI k ≤ (4 : Int32) from nI_le (b := 4) k4 (by omega)), if_pos rfl, e]
          rfl
        · have e : gcode false true k = 1 := by
            unfold gcode
            rw [if_pos rfl, if_neg (by decide), if_neg k4]
          rw [if_neg (show ¬ nI k ≤ (4 : Int32) from nI_ge (a := 4) (by omega) (by omega)), e]
          rfl
  induction m with
  | zero =>
    intro k M K h1 h2 hM h4 h5 h7 hw
    obtain ⟨K, rfl⟩ : ∃ k, K = k + 1 := ⟨K - 1, by omega⟩
    rw [fin k M K (by omega) hM h4 h5 (by rw [if_neg (by omega)]; decide) (by rw [if_neg (by omega)]; decide), ru, Nat.add_sub_cancel_left]
    refine ⟨_, rfl, fr_sf fr_rf (by unfold wgr; omega), ?_, rfl, ?_, hw⟩
    · rw [gf_sf, if_neg (by omega)]
      exact h4
    · rw [gf_sf, if_neg (by omega)]
      exact h7
  | succ m ih =>
    intro k M K h1 h2 hM h4 h5 h7 hw
    obtain ⟨K, rfl⟩ : ∃ k, K = k + 1 := ⟨K - 1, by omega⟩
    have hb := (hM.2.2 (s + k) (by omega)).1
    have hk := dc_le (B := B) (s := s) k
    by_cases el : isLd (B (s + k)) = true
    · have G : ∃ M', s_X8_go_J205 (s_X8_go_L177 (z1 lf) K) (z1 lf) (z1 (gd lf B s k)) M = some M' ∧ Fr wgr M M' ∧ gf M' 137 4 = nI (ru B m (s + k + 1)) ∧ gf M' 137 6 = nI (gcode lf (gd lf B s (ru B m (s + k + 1) - s)) (ru B m (s + k + 1) - s)) ∧ (dcn B s (ru B m (s + k + 1) - s) = ru B m (s + k + 1) - s → gf M' 137 7 = nI (dvn B s (min (ru B m (s + k + 1) - s) 4))) ∧ (dcn B s (ru B m (s + k + 1) - s) = 0 → lts B s (ru B m (s + k + 1) - s) ∧ gl M' 137 = lN (bv (lw B s (min (ru B m (s + k + 1) - s) 12)))) := by
        have J269 : ∀ (M : HS) (y : Bool), y = gd lf B s (k + 1) → MdI M B n → gf M 137 4 = nI (s + k) → gf M 137 5 = nI s → (dcn B s k = k → gf M 137 7 = nI (dvn B s (min k 4))) → (dcn B s (k + 1) = 0 → lts B s (k + 1) ∧ gl M 137 = lN (bv (lw B s (min (k + 1) 12)))) → ∃ M', s_X8_go_J269 (s_X8_go_L177 (z1 lf) K) (z1 lf) (z1 y) (nI (B (s + k))) M = some M' ∧ Fr wgr M M' ∧ gf M' 137 4 = nI (ru B m (s + k + 1)) ∧ gf M' 137 6 = nI (gcode lf (gd lf B s (ru B m (s + k + 1) - s)) (ru B m (s + k + 1) - s)) ∧ (dcn B s (ru B m (s + k + 1) - s) = ru B m (s + k + 1) - s → gf M' 137 7 = nI (dvn B s (min (ru B m (s + k + 1) - s) 4))) ∧ (dcn B s (ru B m (s + k + 1) - s) = 0 → lts B s (ru B m (s + k + 1) - s) ∧ gl M' 137 = lN (bv (lw B s (min (ru B m (s + k + 1) - s) 12)))) := by
          intro M y hy hM h4 h5 h7 hw
          have hdc : dcn B s (k + 1) = k + 1 → isDg (B (s + k)) = true ∧ dcn B s k = k := by
            intro z
            rw [dcn] at z
            by_cases e : isDg (B (s + k)) = true
            · rw [if_pos e] at z
              exact ⟨e, by omega⟩
            · rw [if_neg e] at z
              omega
          unfold s_X8_go_J269
          rw [h4, h5, pk_sub (by omega), Nat.add_sub_cancel_left, show (4 : Int32) = nI 4 from rfl, hy]
          by_cases k4 : 4 ≤ k
          · rw [if_pos (nI_le k4 (by omega)), pf_ok, sb, ← nI_succ]
            obtain ⟨M', a, b, c⟩ := ih (k + 1) (sf M 137 4 (nI (s + k + 1))) K (by omega) (by omega) (hM.sf (by omega)) rfl (by rw [gf_sf, if_neg (by omega)]; exact h5) (by
              intro z
              rw [gf_sf, if_neg (by omega), h7 (hdc z).2, show min k 4 = 4 by omega, show min (k + 1) 4 = 4 by omega]) hw
            exact ⟨M', a, fr_tr (fr_sf fr_rf (by unfold wgr; omega)) b (fun k j z => z), c⟩
          · rw [if_neg (nI_ge (by omega) (by omega)), pf_ok, sb, gf_sf, if_neg (by omega), h4, pf_ok, sb, ← nI_succ]
            obtain ⟨M', a, b, c⟩ := ih (k + 1) (sf (sf M 137 7 (10 * gf M 137 7 + nI (B (s + k)) - 48)) 137 4 (nI (s + k + 1))) K (by omega) (by omega) ((hM.sf (by omega)).sf (by omega)) rfl (by rw [gf_sf, if_neg (by omega), gf_sf, if_neg (by omega)]; exact h5) (by
              intro z
              have hd := dg_rng (hdc z).1
              rw [gf_sf, if_neg (by omega), gf_sf, if_pos ⟨rfl, rfl⟩, h7 (hdc z).2, show min k 4 = k by omega, show min (k + 1) 4 = k + 1 by omega, dvn, show (10 : Int32) = nI 10 from rfl, show (48 : Int32) = nI 48 from rfl, pk_mul, nI_add, pk_sub (by omega)]
              congr 1
              omega) hw
            exact ⟨M', a, fr_tr (fr_sf (fr_sf fr_rf (by unfold wgr; omega)) (by unfold wgr; omega)) b (fun k j z => z), c⟩
        have hlt : dcn B s (k + 1) = 0 → isLt (B (s + k)) = true ∧ dcn B s k = 0 := by
          intro z
          rw [dcn] at z
          refine ⟨?_, by omega⟩
          by_cases e : isDg (B (s + k)) = true
          · rw [if_pos e] at z
            omega
          · unfold isLd at el
            rw [Bool.eq_false_iff.mpr e, Bool.or_false] at el
            exact el
        have J234 : ∀ y : Bool, y = gd lf B s (k + 1) → ∃ M', s_X8_go_J234 (s_X8_go_L177 (z1 lf) K) (z1 lf) (nI (B (s + k))) (z1 y) M = some M' ∧ Fr wgr M M' ∧ gf M' 137 4 = nI (ru B m (s + k + 1)) ∧ gf M' 137 6 = nI (gcode lf (gd lf B s (ru B m (s + k + 1) - s)) (ru B m (s + k + 1) - s)) ∧ (dcn B s (ru B m (s + k + 1) - s) = ru B m (s + k + 1) - s → gf M' 137 7 = nI (dvn B s (min (ru B m (s + k + 1) - s) 4))) ∧ (dcn B s (ru B m (s + k + 1) - s) = 0 → lts B s (ru B m (s + k + 1) - s) ∧ gl M' 137 = lN (bv (lw B s (min (ru B m (s + k + 1) - s) 12)))) := by
          intro y hy
          have lts1 : dcn B s (k + 1) = 0 → lts B s (k + 1) := by
            intro z i hi
            by_cases e : i = k
            · rw [e]
              exact (hlt z).1
            · exact (hw (hlt z).2).1 i (by omega)
          unfold s_X8_go_J234
          rw [h4, h5, pk_sub (by omega), Nat.add_sub_cancel_left, show (12 : Int32) = nI 12 from rfl]
          by_cases k12 : 12 ≤ k
          · rw [if_pos (nI_le k12 (by omega))]
            exact J269 M y hy hM h4 h5 h7 (fun z => ⟨lts1 z, by rw [(hw (hlt z).2).2, show min k 12 = 12 by omega, show min (k + 1) 12 = 12 by omega]⟩)
          · rw [if_neg (nI_ge (by omega) (by omega)), pl_ok, sb]
            obtain ⟨M', a, b, c⟩ := J269 (sg M 137 (27 * gl M 137 + (nI (B (s + k))).toInt64 - 96)) y hy hM.sg h4 h5 h7 (fun z => ⟨lts1 z, by
              have hr := lt_rng (hlt z).1
              rw [gl_sg, if_pos rfl, (hw (hlt z).2).2, nI_l (by omega), show (27 : Int64) = lN 27 from rfl, show (96 : Int64) = lN 96 from rfl, lN_mul, lN_add, lN_sub (by omega), show min k 12 = k by omega, show min (k + 1) 12 = k + 1 by omega, lw, bv]
              congr 1
              omega⟩)
            exact ⟨M', a, fr_tr (fr_sg fr_rf (by unfold wgr; omega)) b (fun k j z => z), c⟩
        unfold s_X8_go_J205
        rw [h4, mp_ag hM (by omega), sb, nB_lt hb, sb]
        have hs := gd_succ (lf := lf) el
        cases hg : gd lf B s k with
        | false =>
          rw [show z1 false = 0 from rfl, if_pos rfl]
          unfold s_X8_go_J233
          exact J234 false (by rw [hs, hg]; rfl)
        | true =>
          rw [hg, Bool.true_and] at hs
          rw [show z1 true = 1 from rfl, if_neg (by decide)]
          cases ht : isLt (B (s + k)) with
          | true =>
            cases lf with
            | true =>
              rw [if_neg (fun z => z rfl)]
              exact J234 true (by rw [hs, ht]; rfl)
            | false =>
              rw [if_pos (by decide)]
              unfold s_X8_go_J233
              exact J234 false (by rw [hs, ht]; rfl)
          | false =>
            cases lf with
            | true =>
              rw [if_pos (by decide)]
              unfold s_X8_go_J233
              exact J234 false (by rw [hs, ht]; rfl)
            | false =>
              rw [if_neg (fun z => z rfl)]
              exact J234 true (by rw [hs, ht]; rfl)
      rw [s_X8_go_L177, h4, q_tapeAt hM hn (by omega), if_pos (by omega), sb, sb, nB_lt hb, sb, nB_dg hb, sb, ru, if_pos el]
      by_cases e : isLt (B (s + k)) = true
      · rw [e, if_pos (by decide)]
        exact G
      · have e2 : isDg (B (s + k)) = true := by
          unfold isLd at el
          rw [Bool.eq_false_iff.mpr e, Bool.false_or] at el
          exact el
        rw [Bool.eq_false_iff.mpr e, if_neg (by decide), e2, if_neg (by decide)]
        exact G
    · have e1 : isLt (B (s + k)) = false ∧ isDg (B (s + k)) = false := by
        unfold isLd at el
        cases ha : isLt (B (s + k)) <;> cases hb : isDg (B (s + k)) <;> simp_all
      rw [fin k M K (by omega) hM h4 h5 (by rw [if_pos (by omega)]; exact e1.1) (by rw [if_pos (by omega)]; exact e1.2), ru, if_neg el, Nat.add_sub_cancel_left]
      refine ⟨_, rfl, fr_sf fr_rf (by unfold wgr; omega), ?_, rfl, ?_, hw⟩
      · rw [gf_sf, if_neg (by omega)]
        exact h4
      · rw [gf_sf, if_neg (by omega)]
        exact h7
def mk (k : Nat) : Nat := if k = 0 then 1 else if k = 1 then 2 else if k = 2 then 3 else if k = 3 then 4 else 0
theorem gcode_rk {B : Nat → Nat} {s k : Nat} (h : isLd (B s) = true) (hk : 0 < k) : gcode (isLt (B s)) (gd (isLt (B s)) B s k) k = mk (rk B s k) := by
  obtain ⟨k, rfl⟩ : ∃ j, k = j + 1 := ⟨k - 1, by omega⟩
  have h1 := dc_first (B := B) (s := s) k
  have h2 := dc_le (B := B) (s := s + 1) k
  cases ht : isLt (B s) with
  | true =>
    rw [lt_not_dg ht, if_neg (by decide)] at h1
    have hr : rk B s (k + 1) = if dcn B s (k + 1) = 0 then 1 else 0 := by
      unfold rk
      rw [if_neg (Nat.succ_ne_zero k)]
      by_cases d0 : dcn B s (k + 1) = 0
      · rw [if_pos d0, if_pos d0]
      · rw [if_neg d0, if_neg d0, if_neg (show ¬ (k + 1 ≤ 4 ∧ dcn B s (k + 1) = k + 1) by omega)]
    have hg : gd true B s (k + 1) = decide (dcn B s (k + 1) = 0) := rfl
    rw [hr, hg]
    by_cases d0 : dcn B s (k + 1) = 0
    · rw [if_pos d0, decide_eq_true d0]
      rfl
    · rw [if_neg d0, decide_eq_false d0]
      rfl
  | false =>
    have hd : isDg (B s) = true := by
      unfold isLd at h
      rw [ht, Bool.false_or] at h
      exact h
    rw [if_pos hd] at h1
    have hr : rk B s (k + 1) = if k + 1 ≤ 4 ∧ dcn B s (k + 1) = k + 1 then 2 else 0 := by
      unfold rk
      rw [if_neg (Nat.succ_ne_zero k), if_neg (show ¬ dcn B s (k + 1) = 0 by omega)]
    have hg : gd false B s (k + 1) = decide (dcn B s (k + 1) = k + 1) := rfl
    rw [hr, hg]
    by_cases dk : dcn B s (k + 1) = k + 1
    · rw [decide_eq_true dk]
      by_cases k4 : k + 1 ≤ 4
      · rw [if_pos ⟨k4, dk⟩]
        unfold gcode
        rw [if_pos rfl, if_neg (by decide), if_pos k4]
        rfl
      · rw [if_neg (fun z => k4 z.1)]
        unfold gcode
        rw [if_pos rfl, if_neg (by decide), if_neg k4]
        rfl
    · rw [decide_eq_false dk, if_neg (fun z => dk z.2)]
      rfl
abbrev TkM (B : Nat → Nat) (n s : Nat) (M' : HS) : Prop := gf M' 137 6 = nI (mk (tkK B n s)) ∧ gf M' 137 5 = nI (tkP n s) ∧ (tkK B n s ≠ 0 → gf M' 137 4 = nI (tkE B n s)) ∧ (tkK B n s = 2 → gf M' 137 7 = nI (dvn B s (tkE B n s - s))) ∧ (tkK B n s = 1 → lts B s (tkE B n s - s) ∧ gl M' 137 = lN (bv (lw B s (min (tkE B n s - s) 12))))
theorem q_go {B : Nat → Nat} {n a : Nat} {M : HS} (hn : n ≤ 740) (ha : a ≤ n) (hM : MdI M B n) (h4 : gf M 137 4 = nI a) : ∃ M', s_X8_go M = some M' ∧ Fr wg M M' ∧ TkM B n (tkS B n a) M' := by
  have J160 : ∀ (M : HS) (s : Nat), s < n → ¬ (700 < n ∧ 700 ≤ s) → isLd (B s) = true → MdI M B n → gf M 137 4 = nI s → gf M 137 5 = nI s → ∃ M', s_X8_go_J160 (nI (B s)) M = some M' ∧ Fr wg M M' ∧ TkM B n s M' := by
    intro M s hs ho hl hM h4 h5
    have hb := (hM.2.2 s (by omega)).1
    obtain ⟨M', a, b, c, d, e, f⟩ := q_goL (B := B) (s := s) (lf := isLt (B s)) hn (n - s) 0 (sf (sg M 137 0) 137 7 0) 760 (by omega) (by omega) (hM.sg.sf (by omega)) (by rw [gf_sf, if_neg (by omega)]; exact h4) (by rw [gf_sf, if_neg (by omega)]; exact h5) (fun _ => rfl) (fun _ => ⟨fun i hi => by omega, rfl⟩)
    rw [Nat.add_zero] at c d e f
    have hg := ru_ge (B := B) (n - s) s
    have hk : 0 < ru B (n - s) s - s := by
      obtain ⟨m, hm⟩ : ∃ m, n - s = m + 1 := ⟨n - s - 1, by omega⟩
      have := ru_ge (B := B) m (s + 1)
      rw [hm, ru, if_pos hl]
      omega
    have h59 : B s ≠ 59 := by
      intro z
      rw [z] at hl
      exact absurd hl (by decide)
    have ek : tkK B n s = rk B s (ru B (n - s) s - s) := by
      unfold tkK
      rw [if_neg ho, if_neg (by omega), if_neg h59]
    have ee : tkE B n s = ru B (n - s) s := by
      unfold tkE
      rw [if_neg ho, if_neg (by omega), if_neg h59]
    have hg0 : gd (isLt (B s)) B s 0 = true := by
      unfold gd
      cases isLt (B s) <;> rfl
    unfold s_X8_go_J160
    rw [nB_lt hb, sb, pl_ok, sb, pf_ok, sb]
    refine ⟨M', ?_, fr_tr (fr_sf (fr_sg fr_rf (by unfold wg; omega)) (by unfold wg; omega)) b (fun k j z => by unfold wgr at z; unfold wg; omega), ?_, ?_, ?_, ?_, ?_⟩
    · rw [hg0] at a
      exact a
    · rw [d, ek, gcode_rk hl hk]
    · rw [(b.1 137 5 (by unfold wgr; omega)).1, gf_sf, if_neg (by omega)]
      unfold tkP
      rw [if_neg ho]
      exact h5
    · intro _
      rw [c, ee]
    · intro z
      rw [ek] at z
      rw [ee]
      unfold rk at z
      split at z
      · omega
      · split at z
        · omega
        · split at z
          · next q =>
            rw [e q.2, show min (ru B (n - s) s - s) 4 = ru B (n - s) s - s by omega]
          · omega
    · intro z
      rw [ek] at z
      rw [ee]
      unfold rk at z
      split at z
      · omega
      · split at z
        · next q => exact f q
        · split at z <;> omega
  have J93 : ∀ (M : HS) (s : Nat), s ≤ n → ¬ (700 < n ∧ 700 ≤ s) → MdI M B n → gf M 137 4 = nI s → gf M 137 5 = nI s → ∃ M', s_X8_go_J93 M = some M' ∧ Fr wg M M' ∧ TkM B n s M' := by
    intro M s hs ho hM h4 h5
    have hP : gf M 137 5 = nI (tkP n s) := by
      unfold tkP
      rw [if_neg ho]
      exact h5
    unfold s_X8_go_J93
    rw [h4, hM.2.1]
    by_cases c1 : s < n
    · have hb := (hM.2.2 s (by omega)).1
      rw [if_pos (nI_lt c1 (by omega)), mp_ag hM (by omega), sb, nB_lt hb, sb, nB_dg hb, sb]
      cases ha : isLt (B s) with
      | true =>
        rw [if_pos (by decide)]
        exact J160 M s c1 ho (by unfold isLd; rw [ha]; rfl) hM h4 h5
      | false =>
        rw [if_neg (by decide)]
        cases hd : isDg (B s) with
        | true =>
          rw [if_pos (by decide)]
          exact J160 M s c1 ho (by unfold isLd; rw [hd, Bool.or_true]) hM h4 h5
        | false =>
          have hr : ru B (n - s) s = s := by
            obtain ⟨m, hm⟩ : ∃ m, n - s = m + 1 := ⟨n - s - 1, by omega⟩
            rw [hm, ru, if_neg (by unfold isLd; rw [ha, hd]; decide)]
          rw [if_neg (by decide)]
          by_cases c2 : B s = 59
          · have ek : tkK B n s = 3 := by
              unfold tkK
              rw [if_neg ho, if_neg (by omega), if_pos c2]
            have ee : tkE B n s = s + 1 := by
              unfold tkE
              rw [if_neg ho, if_neg (by omega), if_pos c2]
            rw [if_neg (fun z => z ((nB_59 hb).mpr c2)), pf_ok, sb, gf_sf, if_neg (by omega), h4, pf_ok, sb, ← nI_succ]
            refine ⟨_, rfl, fr_sf (fr_sf fr_rf (by unfold wg; omega)) (by unfold wg; omega), ?_, ?_, ?_, ?_, ?_⟩
            · rw [gf_sf, if_neg (by omega), gf_sf, if_pos ⟨rfl, rfl⟩, ek]
              rfl
            · rw [gf_sf, if_neg (by omega), gf_sf, if_neg (by omega)]
              exact hP
            · intro _
              rw [gf_sf, if_pos ⟨rfl, rfl⟩, ee]
            · intro z
              omega
            · intro z
              omega
          · have ek : tkK B n s = 0 := by
              unfold tkK rk
              rw [if_neg ho, if_neg (by omega), if_neg c2, if_pos (by omega)]
            rw [if_pos (fun z => c2 ((nB_59 hb).mp z)), pf_ok, sb, pf_ok, sb]
            refine ⟨_, rfl, fr_sf (fr_sf fr_rf (by unfold wg; omega)) (by unfold wg; omega), ?_, ?_, ?_, ?_, ?_⟩
            · rw [gf_sf, if_neg (by omega), gf_sf, if_pos ⟨rfl, rfl⟩, ek]
              rfl
            · rw [gf_sf, if_neg (by omega), gf_sf, if_neg (by omega)]
              exact hP
            · intro z
              omega
            · intro z
              omega
            · intro z
              omega
    · have ek : tkK B n s = 4 := by
        unfold tkK
        rw [if_neg ho, if_pos (by omega)]
      have ee : tkE B n s = s := by
        unfold tkE
        rw [if_neg ho, if_pos (by omega)]
      rw [if_neg (nI_nlt (by omega) (by omega)), pf_ok, sb]
      refine ⟨_, rfl, fr_sf fr_rf (by unfold wg; omega), ?_, ?_, ?_, ?_, ?_⟩
      · rw [gf_sf, if_pos ⟨rfl, rfl⟩, ek]
        rfl
      · rw [gf_sf, if_neg (by omega)]
        exact hP
      · intro _
        rw [gf_sf, if_neg (by omega), ee]
        exact h4
      · intro z
        omega
      · intro z
        omega
  have J52 : ∀ (M : HS) (s : Nat), s ≤ n → MdI M B n → gf M 137 4 = nI s → ∃ M', s_X8_go_J52 M = some M' ∧ Fr wg M M' ∧ TkM B n s M' := by
    intro M s hs hM h4
    have hM1 : MdI (sf M 137 5 (nI s)) B n := hM.sf (by omega)
    have g4 : gf (sf M 137 5 (nI s)) 137 4 = nI s := by
      rw [gf_sf, if_neg (by omega)]
      exact h4
    have g5 : gf (sf M 137 5 (nI s)) 137 5 = nI s := rfl
    have K : ¬ (700 < n ∧ 700 ≤ s) → ∃ M', s_X8_go_J93 (sf M 137 5 (nI s)) = some M' ∧ Fr wg M M' ∧ TkM B n s M' := by
      intro ho
      obtain ⟨M', a, b, c⟩ := J93 _ s hs ho hM1 g4 g5
      exact ⟨M', a, fr_tr (fr_sf fr_rf (by unfold wg; omega)) b (fun k j z => z), c⟩
    unfold s_X8_go_J52
    rw [h4, pf_ok, sb, hM1.2.1, g5, show (700 : Int32) = nI 700 from rfl]
    by_cases c1 : n ≤ 700
    · rw [if_pos (nI_le c1 (by omega))]
      exact K (by omega)
    · rw [if_neg (nI_ge (by omega) (by omega))]
      by_cases c2 : s < 700
      · rw [if_pos (nI_lt c2 (by omega))]
        exact K (by omega)
      · have ek : tkK B n s = 0 := by
          unfold tkK
          rw [if_pos (by omega)]
        rw [if_neg (nI_nlt (by omega) (by omega)), pf_ok, sb, pf_ok, sb]
        refine ⟨_, rfl, fr_sf (fr_sf (fr_sf fr_rf (by unfold wg; omega)) (by unfold wg; omega)) (by unfold wg; omega), ?_, ?_, ?_, ?_, ?_⟩
        · rw [gf_sf, if_pos ⟨rfl, rfl⟩, ek]
          rfl
        · rw [gf_sf, if_neg (by omega), gf_sf, if_pos ⟨rfl, rfl⟩]
          unfold tkP
          rw [if_pos (by omega)]
        · intro z
          omega
        · intro z
          omega
        · intro z
          omega
  have L : ∀ (m a : Nat) (M : HS) (K : Nat), a + m = n → m < K → MdI M B n → gf M 137 4 = nI a → ∃ M', s_X8_go_L0 K M = some M' ∧ Fr wg M M' ∧ TkM B n (sk B m a) M' := by
    intro m
    induction m with
    | zero =>
      intro a M K h1 h2 hM h4
      obtain ⟨K, rfl⟩ : ∃ k, K = k + 1 := ⟨K - 1, by omega⟩
      rw [s_X8_go_L0, hM.2.1, h4, if_pos (nI_le (by omega) (by omega))]
      exact J52 M a (by omega) hM h4
    | succ m ih =>
      intro a M K h1 h2 hM h4
      obtain ⟨K, rfl⟩ : ∃ k, K = k + 1 := ⟨K - 1, by omega⟩
      have hb := (hM.2.2 a (by omega)).1
      have go : ∃ M', s_X8_go_L0 K (sf M 137 4 (nI (a + 1))) = some M' ∧ Fr wg M M' ∧ TkM B n (sk B m (a + 1)) M' := by
        obtain ⟨M', p, q, r⟩ := ih (a + 1) (sf M 137 4 (nI (a + 1))) K (by omega) (by omega) (hM.sf (by omega)) rfl
        exact ⟨M', p, fr_tr (fr_sf fr_rf (by unfold wg; omega)) q (fun k j z => z), r⟩
      rw [s_X8_go_L0, hM.2.1, h4, if_neg (nI_ge (by omega) (by omega)), mp_ag hM (by omega), sb, sb, pf_ok, sb, ← nI_succ, sk]
      by_cases c1 : B a = 32
      · rw [if_pos ((nB_32 hb).mpr c1), if_pos (by unfold isBl; rw [decide_eq_true c1]; rfl)]
        exact go
      · rw [if_neg (fun z => c1 ((nB_32 hb).mp z))]
        by_cases c2 : B a = 10
        · rw [if_neg (fun z => z ((nB_10 hb).mpr c2)), if_pos (by unfold isBl; rw [decide_eq_true c2, Bool.or_true])]
          exact go
        · rw [if_pos (fun z => c2 ((nB_10 hb).mp z)), if_neg (by unfold isBl; rw [decide_eq_false c1, decide_eq_false c2]; decide)]
          exact J52 M a (by omega) hM h4
  unfold tkS
  exact L (n - a) a M 760 (by omega) (by omega) hM h4
