/-! bytes and tokens -/
def sB (b : Nat) : Int32 := if b < 128 then nI b else nI b - nI 256
def isLt (b : Nat) : Bool := decide (97 ≤ b) && decide (b ≤ 122)
def isDg (b : Nat) : Bool := decide (48 ≤ b) && decide (b ≤ 57)
def isLd (b : Nat) : Bool := isLt b || isDg b
def isBl (b : Nat) : Bool := decide (b = 32) || decide (b = 10)
theorem sB_lt {b : Nat} (h : b < 256) : s_X4_isLetter (sB b) = some (if isLt b then 1 else 0) := (by decide +kernel : ∀ b : Fin 256, s_X4_isLetter (sB b.val) = some (if isLt b.val then 1 else 0)) ⟨b, h⟩
theorem sB_dg {b : Nat} (h : b < 256) : s_X4_isDigit (sB b) = some (if isDg b then 1 else 0) := (by decide +kernel : ∀ b : Fin 256, s_X4_isDigit (sB b.val) = some (if isDg b.val then 1 else 0)) ⟨b, h⟩
def z1 (b : Bool) : Int32 := if b then 1 else 0
theorem z1_t : z1 true = 1 := rfl
theorem z1_f : z1 false = 0 := rfl
theorem nB_lt {b : Nat} (h : b < 256) : s_X8_isLetter (nI b) = some (z1 (isLt b)) := (by decide +kernel : ∀ b : Fin 256, s_X8_isLetter (nI b.val) = some (z1 (isLt b.val))) ⟨b, h⟩
theorem nB_dg {b : Nat} (h : b < 256) : s_X8_isDigit (nI b) = some (z1 (isDg b)) := (by decide +kernel : ∀ b : Fin 256, s_X8_isDigit (nI b.val) = some (z1 (isDg b.val))) ⟨b, h⟩
theorem sB_32 {b : Nat} (h : b < 256) : sB b = 32 ↔ b = 32 := (by decide +kernel : ∀ b : Fin 256, sB b.val = 32 ↔ b.val = 32) ⟨b, h⟩
theorem sB_10 {b : Nat} (h : b < 256) : sB b = 10 ↔ b = 10 := (by decide +kernel : ∀ b : Fin 256, sB b.val = 10 ↔ b.val = 10) ⟨b, h⟩
theorem sB_59 {b : Nat} (h : b < 256) : sB b = 59 ↔ b = 59 := (by decide +kernel : ∀ b : Fin 256, sB b.val = 59 ↔ b.val = 59) ⟨b, h⟩
theorem nB_32 {b : Nat} (h : b < 256) : nI b = 32 ↔ b = 32 := (by decide +kernel : ∀ b : Fin 256, nI b.val = 32 ↔ b.val = 32) ⟨b, h⟩
theorem nB_10 {b : Nat} (h : b < 256) : nI b = 10 ↔ b = 10 := (by decide +kernel : ∀ b : Fin 256, nI b.val = 10 ↔ b.val = 10) ⟨b, h⟩
theorem nB_59 {b : Nat} (h : b < 256) : nI b = 59 ↔ b = 59 := (by decide +kernel : ∀ b : Fin 256, nI b.val = 59 ↔ b.val = 59) ⟨b, h⟩
theorem dg_rng {b : Nat} (h : isDg b = true) : 48 ≤ b ∧ b ≤ 57 := by
  unfold isDg at h
  simpa using h
theorem lt_rng {b : Nat} (h : isLt b = true) : 97 ≤ b ∧ b ≤ 122 := by
  unfold isLt at h
  simpa using h
theorem lt_not_dg {b : Nat} (h : isLt b = true) : isDg b = false := by
  have := lt_rng h
  unfold isDg
  simp
  omega
theorem sB_ld {b : Nat} (h : b < 128) : sB b = nI b := if_pos h
def sk (B : Nat → Nat) : Nat → Nat → Nat
  | 0, a => a
  | m + 1, a => if isBl (B a) then sk B m (a + 1) else a
def ru (B : Nat → Nat) : Nat → Nat → Nat
  | 0, a => a
  | m + 1, a => if isLd (B a) then ru B m (a + 1) else a
theorem sk_ge {B : Nat → Nat} : ∀ (m a : Nat), a ≤ sk B m a ∧ sk B m a ≤ a + m := by
  intro m
  induction m with
  | zero =>
    intro a
    exact ⟨Nat.le_refl _, Nat.le_refl _⟩
  | succ m ih =>
    intro a
    have := ih (a + 1)
    rw [sk]
    split <;> omega
theorem ru_ge {B : Nat → Nat} : ∀ (m a : Nat), a ≤ ru B m a ∧ ru B m a ≤ a + m := by
  intro m
  induction m with
  | zero =>
    intro a
    exact ⟨Nat.le_refl _, Nat.le_refl _⟩
  | succ m ih =>
    intro a
    have := ih (a + 1)
    rw [ru]
    split <;> omega
def dcn (B : Nat → Nat) (s : Nat) : Nat → Nat
  | 0 => 0
  | k + 1 => dcn B s k + (if isDg (B (s + k)) then 1 else 0)
theorem dc_le {B : Nat → Nat} {s : Nat} : ∀ k, dcn B s k ≤ k := by
  intro k
  induction k with
  | zero => exact Nat.le_refl 0
  | succ k ih =>
    rw [dcn]
    split <;> omega
def dvn (B : Nat → Nat) (s : Nat) : Nat → Nat
  | 0 => 0
  | k + 1 => 10 * dvn B s k + (B (s + k) - 48)
theorem dv_lt {B : Nat → Nat} {s : Nat} : ∀ k, dcn B s k = k → dvn B s k < 10 ^ k := by
  intro k
  induction k with
  | zero =>
    intro _
    exact Nat.one_pos
  | succ k ih =>
    intro h
    have h2 := dc_le (B := B) (s := s) k
    rw [dcn] at h
    by_cases e : isDg (B (s + k)) = true
    · rw [if_pos e] at h
      have h3 := ih (by omega)
      have h4 := dg_rng e
      rw [dvn, Nat.pow_succ]
      omega
    · rw [if_neg e] at h
      omega
def lw (B : Nat → Nat) (s : Nat) : Nat → List Nat
  | 0 => []
  | k + 1 => (B (s + k) - 96) :: lw B s k
def bv : List Nat → Nat
  | [] => 0
  | x :: r => 27 * bv r + x
theorem bv_inj : ∀ (a b : List Nat), (∀ x ∈ a, 1 ≤ x ∧ x ≤ 26) → (∀ x ∈ b, 1 ≤ x ∧ x ≤ 26) → bv a = bv b → a = b := by
  intro a
  induction a with
  | nil =>
    intro b _ hb h
    cases b with
    | nil => rfl
    | cons y r =>
      have := hb y (List.mem_cons_self ..)
      rw [bv, bv] at h
      omega
  | cons x r ih =>
    intro b ha hb h
    have hx := ha x (List.mem_cons_self ..)
    cases b with
    | nil =>
      rw [bv, bv] at h
      omega
    | cons y q =>
      have hy := hb y (List.mem_cons_self ..)
      rw [bv, bv] at h
      have e : x = y := by omega
      rw [e, ih q (fun z hz => ha z (List.mem_cons_of_mem _ hz)) (fun z hz => hb z (List.mem_cons_of_mem _ hz)) (by omega)]
theorem lw_len {B : Nat → Nat} {s : Nat} : ∀ k, (lw B s k).length = k := by
  intro k
  induction k with
  | zero => rfl
  | succ k ih => rw [lw, List.length_cons, ih]
/-- a run of letters alone -/
def lts (B : Nat → Nat) (s k : Nat) : Prop := ∀ i, i < k → isLt (B (s + i)) = true
theorem lw_rng {B : Nat → Nat} {s : Nat} : ∀ k, lts B s k → ∀ x ∈ lw B s k, 1 ≤ x ∧ x ≤ 26 := by
  intro k
  induction k with
  | zero =>
    intro _ x hx
    cases hx
  | succ k ih =>
    intro h x hx
    rw [lw] at hx
    rcases List.mem_cons.mp hx with rfl | hx
    · have := lt_rng (h k (by omega))
      omega
    · exact ih (fun i hi => h i (by omega)) x hx
theorem bv_lt {B : Nat → Nat} {s : Nat} : ∀ k, lts B s k → bv (lw B s k) < 27 ^ k := by
  intro k
  induction k with
  | zero =>
    intro _
    exact Nat.one_pos
  | succ k ih =>
    intro h
    have := ih (fun i hi => h i (by omega))
    have := lt_rng (h k (by omega))
    rw [lw, bv, Nat.pow_succ]
    omega
def rk (B : Nat → Nat) (s k : Nat) : Nat := if k = 0 then 0 else if dcn B s k = 0 then 1 else if k ≤ 4 ∧ dcn B s k = k then 2 else 0
def tkS (B : Nat → Nat) (n a : Nat) : Nat := sk B (n - a) a
def tkK (B : Nat → Nat) (n s : Nat) : Nat := if 700 < n ∧ 700 ≤ s then 0 else if n ≤ s then 4 else if B s = 59 then 3 else rk B s (ru B (n - s) s - s)
def tkE (B : Nat → Nat) (n s : Nat) : Nat := if 700 < n ∧ 700 ≤ s then s else if n ≤ s then s else if B s = 59 then s + 1 else ru B (n - s) s
def tkP (n s : Nat) : Nat := if 700 < n ∧ 700 ≤ s then 700 else s
/-! the desk's reader: advance -/
def DT (S : HS) (B : Nat → Nat) : Prop := ∀ i, i < 740 → B i < 256 ∧ (ga S 1).getD i 0 = sB (B i)
def RdI (S : HS) (B : Nat → Nat) (n : Nat) : Prop := LnD S ∧ gr S 2 1 = .ref 1 ∧ gf S 2 2 = nI n ∧ DT S B
def wA (k j : Nat) : Prop := k = 2 ∧ 3 ≤ j ∧ j ≤ 6
def wA3 (k j : Nat) : Prop := k = 2 ∧ (j = 3 ∨ j = 6)
def wA4 (k j : Nat) : Prop := k = 2 ∧ (j = 3 ∨ j = 4 ∨ j = 6)
theorem RdI.fr {W : Nat → Nat → Prop} {S S1 : HS} {B : Nat → Nat} {n : Nat} (h : RdI S B n) (f : Fr W S S1) (hw : ∀ k j, W k j → wA k j) : RdI S1 B n := by
  obtain ⟨a, b, c, d⟩ := h
  refine ⟨a.fr f, ?_, ?_, ?_⟩
  · rw [(f.1 2 1 (fun z => by have := hw _ _ z; unfold wA at this; omega)).2]
    exact b
  · rw [(f.1 2 2 (fun z => by have := hw _ _ z; unfold wA at this; omega)).1]
    exact c
  · intro i hi
    rw [f.2.2.1 1 (fun z => by have := hw _ _ z; unfold wA at this; omega)]
    exact d i hi
theorem RdI.sf {S : HS} {B : Nat → Nat} {n j : Nat} {x : Int32} (h : RdI S B n) (hj : j ≠ 2) : RdI (sf S 2 j x) B n := by
  obtain ⟨a, b, c, d⟩ := h
  refine ⟨a, b, ?_, d⟩
  rw [gf_sf, if_neg (by omega)]
  exact c
theorem tp_ag {S : HS} {B : Nat → Nat} {n i : Nat} (h : RdI S B n) (hi : i < 740) : ag (ga S 1) (nI i) = some (sB (B i)) := by
  rw [ag_ok (nD1 h.1) hi (by omega), (h.2.2.2 i hi).2]
theorem q_runL {B : Nat → Nat} {n s : Nat} (hn : n ≤ 740) : ∀ (m k : Nat) (S : HS) (K : Nat), s + k + m = n → m < K → RdI S B n → gf S 2 3 = nI (s + k) → (dcn B s k = k → gf S 2 6 = nI (dvn B s (min k 4))) → ∃ S', s_X4_advanceRun_L7 K (nI (dcn B s k)) S = s_X4_advanceRun_J115 (nI (dcn B s (ru B m (s + k) - s))) S' ∧ Fr wA3 S S' ∧ gf S' 2 3 = nI (ru B m (s + k)) ∧ (dcn B s (ru B m (s + k) - s) = ru B m (s + k) - s → gf S' 2 6 = nI (dvn B s (min (ru B m (s + k) - s) 4))) := by
  intro m
  induction m with
  | zero =>
    intro k S K h1 h2 hR h3 h4
    obtain ⟨K, rfl⟩ : ∃ k, K = k + 1 := ⟨K - 1, by omega⟩
    refine ⟨S, ?_, fr_rf, h3, ?_⟩
    · rw [s_X4_advanceRun_L7, hR.2.2.1, h3, if_pos (nI_le (by omega) (by omega)), ru, Nat.add_sub_cancel_left]
    · rw [ru, Nat.add_sub_cancel_left]
      exact h4
  | succ m ih =>
    intro k S K h1 h2 hR h3 h4
    obtain ⟨K, rfl⟩ : ∃ k, K = k + 1 := ⟨K - 1, by omega⟩
    have hb := (hR.2.2.2 (s + k) (by omega)).1
    have hk := dc_le (B := B) (s := s) k
    have J : isLd (B (s + k)) = true → ∃ S', s_X4_advanceRun_J48 (s_X4_advanceRun_L7 K) (nI (dcn B s k)) S = s_X4_advanceRun_J115 (nI (dcn B s (ru B m (s + k + 1) - s))) S' ∧ Fr wA3 S S' ∧ gf S' 2 3 = nI (ru B m (s + k + 1)) ∧ (dcn B s (ru B m (s + k + 1) - s) = ru B m (s + k + 1) - s → gf S' 2 6 = nI (dvn B s (min (ru B m (s + k + 1) - s) 4))) := by
      intro hl
      rw [s_X4_advanceRun_J48, rc_ok hR.2.1, sb, h3, tp_ag hR (by omega), sb, sB_dg hb, sb]
      by_cases e : isDg (B (s + k)) = true
      · have hd := dg_rng e
        have ed : dcn B s (k + 1) = dcn B s k + 1 := by rw [dcn, if_pos e]
        rw [if_pos e, if_neg (by decide), ← nI_succ, ← ed]
        by_cases c4 : 4 < dcn B s k + 1
        · rw [ed, show (4 : Int32) = nI 4 from rfl, if_pos (nI_lt c4 (by omega)), pf_ok, sb, gf_sf, if_neg (by omega), h3, pf_ok, sb, ← nI_succ, ← ed]
          obtain ⟨S', a, b, c, d⟩ := ih (k + 1) (sf (sf S 2 6 (gf S 2 6)) 2 3 (nI (s + k + 1))) K (by omega) (by omega) ((hR.sf (by omega)).sf (by omega)) rfl (by
            intro z
            rw [gf_sf, if_neg (by omega), gf_sf, if_pos ⟨rfl, rfl⟩, h4 (by omega)]
            rw [show min k 4 = 4 by omega, show min (k + 1) 4 = 4 by omega])
          refine ⟨S', a, ?_, c, d⟩
          exact fr_tr (fr_sf (fr_sf fr_rf (by unfold wA3; omega)) (by unfold wA3; omega)) b (fun k j z => z)
        · rw [ed, show (4 : Int32) = nI 4 from rfl, if_neg (nI_nlt (by omega) (by omega)), sb, sb, pf_ok, sb, gf_sf, if_neg (by omega), h3, pf_ok, sb, ← nI_succ, ← ed]
          obtain ⟨S', a, b, c, d⟩ := ih (k + 1) (sf (sf S 2 6 (gf S 2 6 * 10 + sB (B (s + k)) - 48)) 2 3 (nI (s + k + 1))) K (by omega) (by omega) ((hR.sf (by omega)).sf (by omega)) rfl (by
            intro z
            rw [gf_sf, if_neg (by omega), gf_sf, if_pos ⟨rfl, rfl⟩, h4 (by omega)]
            rw [show min k 4 = k by omega, show min (k + 1) 4 = k + 1 by omega, sB_ld (by omega), dvn, show (10 : Int32) = nI 10 from rfl, show (48 : Int32) = nI 48 from rfl, pk_mul, nI_add, pk_sub (by omega)]
            congr 1
            omega)
          refine ⟨S', a, ?_, c, d⟩
          exact fr_tr (fr_sf (fr_sf fr_rf (by unfold wA3; omega)) (by unfold wA3; omega)) b (fun k j z => z)
      · have ed : dcn B s (k + 1) = dcn B s k := by rw [dcn, if_neg e]; rfl
        rw [if_neg e, if_pos rfl, pf_ok, sb, ← nI_succ, ← ed]
        obtain ⟨S', a, b, c, d⟩ := ih (k + 1) (sf S 2 3 (nI (s + k + 1))) K (by omega) (by omega) (hR.sf (by omega)) rfl (by
          intro z
          omega)
        refine ⟨S', a, ?_, c, d⟩
        exact fr_tr (fr_sf fr_rf (by unfold wA3; omega)) b (fun k j z => z)
    rw [s_X4_advanceRun_L7, hR.2.2.1, h3, if_neg (nI_ge (by omega) (by omega)), rc_ok hR.2.1, sb, tp_ag hR (by omega), sb, sB_lt hb, sb, sb, sb, sB_dg hb, sb, ru]
    by_cases e : isLt (B (s + k)) = true
    · have el : isLd (B (s + k)) = true := by unfold isLd; rw [e]; rfl
      rw [if_pos e, if_pos (by decide), if_pos el]
      exact J el
    · rw [if_neg e, if_neg (by decide)]
      by_cases e2 : isDg (B (s + k)) = true
      · have el : isLd (B (s + k)) = true := by unfold isLd; rw [e2, Bool.or_true]
        rw [if_pos e2, if_neg (by decide), if_pos el]
        exact J el
      · have el : ¬ isLd (B (s + k)) = true := by
          unfold isLd
          rw [Bool.eq_false_iff.mpr e, Bool.eq_false_iff.mpr e2]
          decide
        rw [if_neg e2, if_pos rfl, if_neg el]
        refine ⟨S, by rw [Nat.add_sub_cancel_left], fr_rf, h3, ?_⟩
        rw [Nat.add_sub_cancel_left]
        exact h4
theorem q_run {B : Nat → Nat} {n s : Nat} {S : HS} (hn : n ≤ 740) (hs : s ≤ n) (hR : RdI S B n) (h3 : gf S 2 3 = nI s) (h5 : gf S 2 5 = nI s) : ∃ S', s_X4_advanceRun S = some S' ∧ Fr wA4 S S' ∧ gf S' 2 3 = nI (ru B (n - s) s) ∧ gf S' 2 4 = nI (rk B s (ru B (n - s) s - s)) ∧ (rk B s (ru B (n - s) s - s) = 2 → gf S' 2 6 = nI (dvn B s (ru B (n - s) s - s))) := by
  obtain ⟨S', a, b, c, d⟩ := q_runL (B := B) (s := s) hn (n - s) 0 (sf S 2 6 0) 760 (by omega) (by omega) (hR.sf (by omega)) (by rw [gf_sf, if_neg (by omega)]; exact h3) (fun _ => by rw [gf_sf, if_pos ⟨rfl, rfl⟩]; rfl)
  rw [Nat.add_zero] at a c d
  have hg := ru_ge (B := B) (n - s) s
  obtain ⟨k, hk⟩ : ∃ k, ru B (n - s) s = s + k := ⟨ru B (n - s) s - s, by omega⟩
  rw [hk] at hg
  rw [hk, Nat.add_sub_cancel_left] at a d
  rw [hk] at c
  rw [hk, Nat.add_sub_cancel_left]
  have hdc := dc_le (B := B) (s := s) k
  have f : Fr wA4 S S' := fr_tr (fr_sf fr_rf (by unfold wA4; omega)) b (fun k j z => by unfold wA3 at z; unfold wA4; omega)
  have e5 : gf S' 2 5 = nI s := by
    rw [(f.1 2 5 (by unfold wA4; omega)).1]
    exact h5
  have e4 : gf S' 2 3 - gf S' 2 5 = nI k := by
    rw [c, e5, pk_sub (by omega), Nat.add_sub_cancel_left]
  have fin : ∀ t : Nat, t = rk B s k → ∃ S'', some (sf S' 2 4 (nI t)) = some S'' ∧ Fr wA4 S S'' ∧ gf S'' 2 3 = nI (s + k) ∧ gf S'' 2 4 = nI (rk B s k) ∧ (rk B s k = 2 → gf S'' 2 6 = nI (dvn B s k)) := by
    intro t ht
    refine ⟨_, rfl, fr_sf f (by unfold wA4; omega), ?_, ?_, ?_⟩
    · rw [gf_sf, if_neg (by omega)]
      exact c
    · rw [gf_sf, if_pos ⟨rfl, rfl⟩, ht]
    · intro h2
      rw [gf_sf, if_neg (by omega)]
      unfold rk at h2
      split at h2
      · cases h2
      · split at h2
        · cases h2
        · split at h2
          · next q =>
            rw [d q.2, show min k 4 = k by omega]
          · cases h2
  have J : ¬ (0 < k ∧ dcn B s k = 0) → ∃ S'', s_X4_advanceRun_J141 (nI (dcn B s k)) (nI k) S' = some S'' ∧ Fr wA4 S S'' ∧ gf S'' 2 3 = nI (s + k) ∧ gf S'' 2 4 = nI (rk B s k) ∧ (rk B s k = 2 → gf S'' 2 6 = nI (dvn B s k)) := by
    intro h0
    unfold s_X4_advanceRun_J141
    simp only [pf_ok, sb]
    rw [show (0 : Int32) = nI 0 from rfl, show (4 : Int32) = nI 4 from rfl]
    by_cases k0 : k = 0
    · rw [if_pos (nI_le (by omega) (by omega))]
      exact fin 0 (by unfold rk; rw [if_pos k0])
    · rw [if_neg (nI_ge (by omega) (by omega))]
      by_cases k4 : 4 < k
      · rw [if_pos (nI_lt k4 (by omega))]
        exact fin 0 (by unfold rk; rw [if_neg k0, if_neg (by omega), if_neg (by omega)])
      · rw [if_neg (nI_nlt (by omega) (by omega))]
        by_cases kd : dcn B s k = k
        · rw [if_neg (fun z => z (by rw [kd]))]
          exact fin 2 (by unfold rk; rw [if_neg k0, if_neg (by omega), if_pos (by omega)])
        · rw [if_pos (fun z => kd ((nI_eq (by omega) (by omega)).mp z))]
          exact fin 0 (by unfold rk; rw [if_neg k0, if_neg (by omega), if_neg (by omega)])
  unfold s_X4_advanceRun
  rw [pf_ok, sb, (show s_X4_advanceRun_L7 760 (0 : Int32) (sf S 2 6 0) = _ from a), s_X4_advanceRun_J115, e4]
  by_cases k0 : k = 0
  · rw [if_pos (by rw [k0]; decide)]
    exact J (by omega)
  · rw [if_neg (nI_nle (by omega) (by omega))]
    by_cases d0 : dcn B s k = 0
    · rw [d0, if_neg (fun z => z rfl), pf_ok, sb]
      exact fin 1 (by unfold rk; rw [if_neg k0, if_pos d0])
    · rw [if_pos (nI_ne0 (by omega) (by omega))]
      exact J (by omega)
theorem q_adv {B : Nat → Nat} {n a : Nat} {S : HS} (hn : n ≤ 740) (ha : a ≤ n) (hR : RdI S B n) (h3 : gf S 2 3 = nI a) : ∃ S', s_X4_advance S = some S' ∧ Fr wA S S' ∧ gf S' 2 3 = nI (tkE B n (tkS B n a)) ∧ gf S' 2 4 = nI (tkK B n (tkS B n a)) ∧ gf S' 2 5 = nI (tkP n (tkS B n a)) ∧ (tkK B n (tkS B n a) = 2 → gf S' 2 6 = nI (dvn B (tkS B n a) (tkE B n (tkS B n a) - tkS B n a))) := by
  have J95 : ∀ (S : HS) (s : Nat), s ≤ n → ¬ (700 < n ∧ 700 ≤ s) → RdI S B n → gf S 2 3 = nI s → gf S 2 5 = nI s → ∃ S', s_X4_advance_J95 S = some S' ∧ Fr wA4 S S' ∧ gf S' 2 3 = nI (tkE B n s) ∧ gf S' 2 4 = nI (tkK B n s) ∧ (tkK B n s = 2 → gf S' 2 6 = nI (dvn B s (tkE B n s - s))) := by
    intro S s hs ho hR h3 h5
    unfold s_X4_advance_J95 tkK tkE
    rw [if_neg ho, if_neg ho, h3, hR.2.2.1]
    by_cases c1 : s < n
    · have hb := (hR.2.2.2 s (by omega)).1
      rw [if_pos (nI_lt c1 (by omega)), rc_ok hR.2.1, sb, tp_ag hR (by omega), sb, if_neg (show ¬ n ≤ s by omega), if_neg (show ¬ n ≤ s by omega)]
      by_cases c2 : B s = 59
      · rw [if_neg (fun z => z ((sB_59 hb).mpr c2)), pf_ok, sb, pf_ok, sb, if_pos c2, if_pos c2]
        refine ⟨_, rfl, fr_sf (fr_sf fr_rf (by unfold wA4; omega)) (by unfold wA4; omega), ?_, ?_, fun z => by omega⟩
        · rw [gf_sf, if_neg (by omega), gf_sf, if_pos ⟨rfl, rfl⟩, nI_succ]
        · rw [gf_sf, if_pos ⟨rfl, rfl⟩]
          rfl
      · rw [if_pos (fun z => c2 ((sB_59 hb).mp z)), if_neg c2, if_neg c2]
        obtain ⟨S', a, b⟩ := q_run hn hs hR h3 h5
        rw [a, sb]
        exact ⟨S', rfl, b⟩
    · rw [if_neg (nI_nlt (by omega) (by omega)), if_pos (show n ≤ s by omega), if_pos (show n ≤ s by omega), pf_ok, sb]
      refine ⟨_, rfl, fr_sf fr_rf (by unfold wA4; omega), ?_, ?_, fun z => by omega⟩
      · rw [gf_sf, if_neg (by omega)]
        exact h3
      · rw [gf_sf, if_pos ⟨rfl, rfl⟩]
        rfl
  have J52 : ∀ (S : HS) (s : Nat), s ≤ n → RdI S B n → gf S 2 3 = nI s → ∃ S', s_X4_advance_J52 S = some S' ∧ Fr wA S S' ∧ gf S' 2 3 = nI (tkE B n s) ∧ gf S' 2 4 = nI (tkK B n s) ∧ gf S' 2 5 = nI (tkP n s) ∧ (tkK B n s = 2 → gf S' 2 6 = nI (dvn B s (tkE B n s - s))) := by
    intro S s hs hR h3
    have hR1 : RdI (sf S 2 5 (nI s)) B n := hR.sf (by omega)
    have g3 : gf (sf S 2 5 (nI s)) 2 3 = nI s := by
      rw [gf_sf, if_neg (by omega)]
      exact h3
    have g5 : gf (sf S 2 5 (nI s)) 2 5 = nI s := rfl
    have K : ¬ (700 < n ∧ 700 ≤ s) → ∃ S', s_X4_advance_J95 (sf S 2 5 (nI s)) = some S' ∧ Fr wA S S' ∧ gf S' 2 3 = nI (tkE B n s) ∧ gf S' 2 4 = nI (tkK B n s) ∧ gf S' 2 5 = nI (tkP n s) ∧ (tkK B n s = 2 → gf S' 2 6 = nI (dvn B s (tkE B n s - s))) := by
      intro ho
      obtain ⟨S', a, b, c, d, e⟩ := J95 _ s hs ho hR1 g3 g5
      refine ⟨S', a, fr_tr (fr_sf fr_rf (by unfold wA; omega)) b (fun k j z => by unfold wA4 at z; unfold wA; omega), c, d, ?_, e⟩
      rw [(b.1 2 5 (by unfold wA4; omega)).1, g5]
      unfold tkP
      rw [if_neg ho]
    unfold s_X4_advance_J52
    rw [h3, pf_ok, sb, hR1.2.2.1, g3, show (700 : Int32) = nI 700 from rfl]
    by_cases c1 : n ≤ 700
    · rw [if_pos (nI_le c1 (by omega))]
      exact K (by omega)
    · rw [if_neg (nI_ge (by omega) (by omega))]
      by_cases c2 : s < 700
      · rw [if_pos (nI_lt c2 (by omega))]
        exact K (by omega)
      · rw [if_neg (nI_nlt (by omega) (by omega)), pf_ok, sb, pf_ok, sb]
        unfold tkE tkK tkP
        rw [if_pos (show 700 < n ∧ 700 ≤ s by omega), if_pos (show 700 < n ∧ 700 ≤ s by omega), if_pos (show 700 < n ∧ 700 ≤ s by omega)]
        refine ⟨_, rfl, fr_sf (fr_sf (fr_sf fr_rf (by unfold wA; omega)) (by unfold wA; omega)) (by unfold wA; omega), ?_, rfl, ?_, fun z => by omega⟩
        · rw [gf_sf, if_neg (by omega), gf_sf, if_neg (by omega)]
          exact g3
        · rw [gf_sf, if_neg (by omega), gf_sf, if_pos ⟨rfl, rfl⟩]
  have L : ∀ (m a : Nat) (S : HS) (K : Nat), a + m = n → m < K → RdI S B n → gf S 2 3 = nI a → ∃ S', s_X4_advance_L0 K S = some S' ∧ Fr wA S S' ∧ gf S' 2 3 = nI (tkE B n (sk B m a)) ∧ gf S' 2 4 = nI (tkK B n (sk B m a)) ∧ gf S' 2 5 = nI (tkP n (sk B m a)) ∧ (tkK B n (sk B m a) = 2 → gf S' 2 6 = nI (dvn B (sk B m a) (tkE B n (sk B m a) - sk B m a))) := by
    intro m
    induction m with
    | zero =>
      intro a S K h1 h2 hR h3
      obtain ⟨K, rfl⟩ : ∃ k, K = k + 1 := ⟨K - 1, by omega⟩
      rw [s_X4_advance_L0, hR.2.2.1, h3, if_pos (nI_le (by omega) (by omega))]
      exact J52 S a (by omega) hR h3
    | succ m ih =>
      intro a S K h1 h2 hR h3
      obtain ⟨K, rfl⟩ : ∃ k, K = k + 1 := ⟨K - 1, by omega⟩
      have hb := (hR.2.2.2 a (by omega)).1
      have go : ∃ S', s_X4_advance_L0 K (sf S 2 3 (nI (a + 1))) = some S' ∧ Fr wA S S' ∧ gf S' 2 3 = nI (tkE B n (sk B m (a + 1))) ∧ gf S' 2 4 = nI (tkK B n (sk B m (a + 1))) ∧ gf S' 2 5 = nI (tkP n (sk B m (a + 1))) ∧ (tkK B n (sk B m (a + 1)) = 2 → gf S' 2 6 = nI (dvn B (sk B m (a + 1)) (tkE B n (sk B m (a + 1)) - sk B m (a + 1)))) := by
        obtain ⟨S', p, q, r⟩ := ih (a + 1) (sf S 2 3 (nI (a + 1))) K (by omega) (by omega) (hR.sf (by omega)) rfl
        exact ⟨S', p, fr_tr (fr_sf fr_rf (by unfold wA; omega)) q (fun k j z => z), r⟩
      rw [s_X4_advance_L0, hR.2.2.1, h3, if_neg (nI_ge (by omega) (by omega)), rc_ok hR.2.1, sb, tp_ag hR (by omega), sb, sb, sb, pf_ok, sb, ← nI_succ, sk]
      by_cases c1 : B a = 32
      · rw [if_pos ((sB_32 hb).mpr c1), if_pos (by unfold isBl; rw [decide_eq_true c1]; rfl)]
        exact go
      · rw [if_neg (fun z => c1 ((sB_32 hb).mp z))]
        by_cases c2 : B a = 10
        · rw [if_neg (fun z => z ((sB_10 hb).mpr c2)), if_pos (by unfold isBl; rw [decide_eq_true c2, Bool.or_true])]
          exact go
        · rw [if_pos (fun z => c2 ((sB_10 hb).mp z)), if_neg (by unfold isBl; rw [decide_eq_false c1, decide_eq_false c2]; decide)]
          exact J52 S a (by omega) hR h3
  unfold tkS
  exact L (n - a) a S 760 (by omega) (by omega) hR h3
