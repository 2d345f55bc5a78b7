/-! queries of the desk, as counted sums -/
def ex (p : Nat → Bool) : Nat → Nat → Bool
  | 0, _ => false
  | m + 1, j => p j || ex p m (j + 1)
theorem tI {c : Prop} [Decidable c] {α : Type} {A B : α} (h : c) : (if c then A else B) = A := if_pos h
def pD (b : Nat) (v : Int32) (S : HS) : Int32 := up (fun j a => if (ga S (b + 2)).getD j 0 = v then a ||| ((1 : Int32) <<< ((nI j) &&& (31 : Int32))) else a) 5 0 0
theorem q_partsOf {b : Nat} {v : Int32} {S : HS} (h2 : (ga S (b + 2)).length = 5) : s_X0_partsOf b v S = some (pD b v S) := by
  have L : ∀ (m j : Nat) (a : Int32) (K : Nat), j + m = 5 → m < K → s_X0_partsOf_L4 b v S K a (nI j) = some (up (fun j a => if (ga S (b + 2)).getD j 0 = v then a ||| ((1 : Int32) <<< ((nI j) &&& (31 : Int32))) else a) m j a) := by
    intro m
    induction m with
    | zero =>
      intro j a K h3 h4
      obtain ⟨K, rfl⟩ : ∃ k, K = k + 1 := ⟨K - 1, by omega⟩
      rw [s_X0_partsOf_L4, if_pos (show (5 : Int32) ≤ nI j from nI_le (a := 5) (by omega) (by omega))]
      rfl
    | succ m ih =>
      intro j a K h3 h4
      obtain ⟨K, rfl⟩ : ∃ k, K = k + 1 := ⟨K - 1, by omega⟩
      rw [s_X0_partsOf_L4, if_neg (show ¬ (5 : Int32) ≤ nI j from nI_ge (b := 5) (by omega) (by omega)), ag_ok h2 (by omega) (by omega), sb, ← nI_succ, up]
      by_cases e : (ga S (b + 2)).getD j 0 = v
      · rw [if_neg (fun z => z e), ih _ _ _ (by omega) (by omega), if_pos e]
      · rw [if_pos e, ih _ _ _ (by omega) (by omega), if_neg e]
  exact L 5 0 0 40 rfl (by omega)
def fDs (b t : Nat) (v : Int32) (S : HS) (j : Nat) (a : Int32) : Int32 := if bt v j then a + 0 else a + (ga S (b + 4)).getD j 0 * ((ga S (t + 1)).getD 0 0 - (ga S (t + 3)).getD j 0)
def fD (b t : Nat) (v : Int32) (S : HS) (N : Nat) : Int32 := up (fDs b t v S) N 0 ((ga S (t + 1)).getD 1 0 * (ga S (t + 1)).getD 0 0)
theorem q_front {b t N : Nat} {v : Int32} {S : HS} (hL : LnD S) (hb : isC b) (ht : isT t) (hN : gf S t 1 = nI N) (h5 : N ≤ 5) : s_X0_frontLoad b t v S = some (fD b t v S N) := by
  have e0 : ag (ga S (t + 1)) (0 : Int32) = some ((ga S (t + 1)).getD 0 0) := ag_ok (k := 0) (nT1 hL ht) (by omega) (by omega)
  have e1 : ag (ga S (t + 1)) (1 : Int32) = some ((ga S (t + 1)).getD 1 0) := ag_ok (k := 1) (nT1 hL ht) (by omega) (by omega)
  have L : ∀ (m j : Nat) (a : Int32) (K : Nat), j + m = N → m < K → s_X0_frontLoad_L20 b t v ((ga S (t + 1)).getD 0 0) S K a (nI j) = some (up (fDs b t v S) m j a) := by
    intro m
    induction m with
    | zero =>
      intro j a K h3 h4
      obtain ⟨K, rfl⟩ : ∃ k, K = k + 1 := ⟨K - 1, by omega⟩
      rw [s_X0_frontLoad_L20, hN, if_pos (nI_le (by omega) (by omega))]
      rfl
    | succ m ih =>
      intro j a K h3 h4
      obtain ⟨K, rfl⟩ : ∃ k, K = k + 1 := ⟨K - 1, by omega⟩
      rw [s_X0_frontLoad_L20, hN, if_neg (nI_ge (by omega) (by omega)), q_isIn, sb, ag_ok (nC4 hL hb) (by omega) (by omega), sb, ag_ok (nT3 hL ht) (by omega) (by omega), sb, ← nI_succ, up]
      unfold fDs
      by_cases e : bt v j = true
      · rw [if_pos e, if_neg (by decide), ih _ _ _ (by omega) (by omega), if_pos e]
        rfl
      · rw [if_neg e, if_pos rfl, ih _ _ _ (by omega) (by omega), if_neg e]
        rfl
  unfold s_X0_frontLoad
  rw [e0, sb, e1, sb]
  exact L N 0 _ 40 (by omega) (by omega)
def rDs (b t : Nat) (v : Int32) (S : HS) (j : Nat) (a : Int32) : Int32 := if bt v j then a + 0 else a + (ga S (b + 4)).getD j 0 * (ga S (t + 3)).getD j 0
def rD (b t : Nat) (v : Int32) (S : HS) (N : Nat) : Int32 := up (rDs b t v S) N 0 ((ga S (t + 1)).getD 2 0 * (ga S (t + 1)).getD 0 0)
theorem q_rear {b t N : Nat} {v : Int32} {S : HS} (hL : LnD S) (hb : isC b) (ht : isT t) (hN : gf S t 1 = nI N) (h5 : N ≤ 5) : s_X0_rearLoad b t v S = some (rD b t v S N) := by
  have e0 : ag (ga S (t + 1)) (0 : Int32) = some ((ga S (t + 1)).getD 0 0) := ag_ok (k := 0) (nT1 hL ht) (by omega) (by omega)
  have e1 : ag (ga S (t + 1)) (2 : Int32) = some ((ga S (t + 1)).getD 2 0) := ag_ok (k := 2) (nT1 hL ht) (by omega) (by omega)
  have L : ∀ (m j : Nat) (a : Int32) (K : Nat), j + m = N → m < K → s_X0_rearLoad_L17 b t v S K a (nI j) = some (up (rDs b t v S) m j a) := by
    intro m
    induction m with
    | zero =>
      intro j a K h3 h4
      obtain ⟨K, rfl⟩ : ∃ k, K = k + 1 := ⟨K - 1, by omega⟩
      rw [s_X0_rearLoad_L17, hN, if_pos (nI_le (by omega) (by omega))]
      rfl
    | succ m ih =>
      intro j a K h3 h4
      obtain ⟨K, rfl⟩ : ∃ k, K = k + 1 := ⟨K - 1, by omega⟩
      rw [s_X0_rearLoad_L17, hN, if_neg (nI_ge (by omega) (by omega)), q_isIn, sb, ag_ok (nC4 hL hb) (by omega) (by omega), sb, ag_ok (nT3 hL ht) (by omega) (by omega), sb, ← nI_succ, up]
      unfold rDs
      by_cases e : bt v j = true
      · rw [if_pos e, if_neg (by decide), ih _ _ _ (by omega) (by omega), if_pos e]
        rfl
      · rw [if_neg e, if_pos rfl, ih _ _ _ (by omega) (by omega), if_neg e]
        rfl
  unfold s_X0_rearLoad
  rw [e1, sb, e0, sb]
  exact L N 0 _ 40 (by omega) (by omega)
def su1 (b t : Nat) (v : Int32) (S : HS) (j : Nat) : Bool := decide ((ga S (t + 4)).getD j 0 = 1) && (!decide ((ga S (b + 1)).getD j 0 ≤ 0) && (!bt v j && (!decide ((ga S (b + 1)).getD j 0 * 100 ≤ (ga S (t + 1)).getD 7 0 * (ga S (t + 2)).getD j 0) && !decide ((ga S (t + 1)).getD 8 0 * (ga S (t + 2)).getD j 0 ≤ (ga S (b + 1)).getD j 0 * 100))))
theorem q_surges {b t N : Nat} {v : Int32} {S : HS} (hL : LnD S) (hb : isC b) (ht : isT t) (hN : gf S t 1 = nI N) (h5 : N ≤ 5) : s_X0_surges b t v S = some (if ex (su1 b t v S) N 0 then 1 else 0) := by
  have e7 : ag (ga S (t + 1)) (7 : Int32) = some ((ga S (t + 1)).getD 7 0) := ag_ok (k := 7) (nT1 hL ht) (by omega) (by omega)
  have e8 : ag (ga S (t + 1)) (8 : Int32) = some ((ga S (t + 1)).getD 8 0) := ag_ok (k := 8) (nT1 hL ht) (by omega) (by omega)
  have L : ∀ (m j : Nat) (K : Nat), j + m = N → m < K → s_X0_surges_L2 b t v S K (nI j) = some (if ex (su1 b t v S) m j then 1 else 0) := by
    intro m
    induction m with
    | zero =>
      intro j K h3 h4
      obtain ⟨K, rfl⟩ : ∃ k, K = k + 1 := ⟨K - 1, by omega⟩
      rw [s_X0_surges_L2, hN, if_pos (nI_le (by omega) (by omega))]
      rfl
    | succ m ih =>
      intro j K h3 h4
      obtain ⟨K, rfl⟩ : ∃ k, K = k + 1 := ⟨K - 1, by omega⟩
      rw [s_X0_surges_L2, hN, if_neg (nI_ge (by omega) (by omega)), ag_ok (nC1 hL hb) (by omega) (by omega), sb, ag_ok (nT4 hL ht) (by omega) (by omega), sb, sb, q_isIn, sb, e7, sb, ag_ok (nT2 hL ht) (by omega) (by omega), sb, e8, sb, sb, ← nI_succ, ih _ _ (by omega) (by omega), ex]
      unfold su1
      by_cases c1 : (ga S (t + 4)).getD j 0 = 1
      · rw [if_neg (fun z => z c1), decide_eq_true c1, Bool.true_and]
        by_cases c2 : (ga S (b + 1)).getD j 0 ≤ 0
        · rw [if_pos c2, decide_eq_true c2]
          rfl
        · rw [if_neg c2, decide_eq_false c2]
          by_cases c3 : bt v j = true
          · rw [if_pos c3, if_pos (by decide), c3]
            rfl
          · rw [if_neg c3, if_neg (by decide), (Bool.eq_false_iff.mpr c3 : bt v j = false)]
            by_cases c4 : (ga S (b + 1)).getD j 0 * 100 ≤ (ga S (t + 1)).getD 7 0 * (ga S (t + 2)).getD j 0
            · rw [if_pos c4, decide_eq_true c4]
              rfl
            · rw [if_neg c4, decide_eq_false c4]
              by_cases c5 : (ga S (t + 1)).getD 8 0 * (ga S (t + 2)).getD j 0 ≤ (ga S (b + 1)).getD j 0 * 100
              · rw [if_pos c5, decide_eq_true c5]
                rfl
              · rw [if_neg c5, decide_eq_false c5]
                rfl
      · rw [if_pos c1, decide_eq_false c1]
        rfl
  exact L N 0 40 (by omega) (by omega)
def stD (b t : Nat) (v : Int32) (S : HS) (N : Nat) : Int32 := if ex (su1 b t v S) N 0 then 1 else if fD b t v S N ≤ (ga S (t + 1)).getD 4 0 * (ga S (t + 1)).getD 0 0 then if (ga S (t + 1)).getD 3 0 * (ga S (t + 1)).getD 0 0 ≤ fD b t v S N then if rD b t v S N ≤ (ga S (t + 1)).getD 5 0 * (ga S (t + 1)).getD 0 0 then 0 else 4 else 3 else 2
theorem q_standing {b t N : Nat} {v : Int32} {S : HS} (hL : LnD S) (hb : isC b) (ht : isT t) (hN : gf S t 1 = nI N) (h5 : N ≤ 5) : s_X0_standing b t v S = some (stD b t v S N) := by
  have e0 : ag (ga S (t + 1)) (0 : Int32) = some ((ga S (t + 1)).getD 0 0) := ag_ok (k := 0) (nT1 hL ht) (by omega) (by omega)
  have e3 : ag (ga S (t + 1)) (3 : Int32) = some ((ga S (t + 1)).getD 3 0) := ag_ok (k := 3) (nT1 hL ht) (by omega) (by omega)
  have e4 : ag (ga S (t + 1)) (4 : Int32) = some ((ga S (t + 1)).getD 4 0) := ag_ok (k := 4) (nT1 hL ht) (by omega) (by omega)
  have e5 : ag (ga S (t + 1)) (5 : Int32) = some ((ga S (t + 1)).getD 5 0) := ag_ok (k := 5) (nT1 hL ht) (by omega) (by omega)
  unfold s_X0_standing stD
  rw [q_surges hL hb ht hN h5, sb, e0, sb, q_front hL hb ht hN h5, sb, e4, sb, e3, sb, q_rear hL hb ht hN h5, sb, e5, sb]
  by_cases c1 : ex (su1 b t v S) N 0 = true
  · rw [if_pos c1, if_pos c1, if_neg (by decide)]
  · rw [if_neg c1, if_neg c1, if_pos rfl]
    split
    · split
      · split
        · rfl
        · rfl
      · rfl
    · rfl
