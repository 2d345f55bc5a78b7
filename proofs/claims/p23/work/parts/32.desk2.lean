/-! bits -/
theorem sh_ix {j : Nat} (h : j < 32) : (((nI j) &&& (31 : Int32)).toBitVec.smod 32).toNat = j := (by decide +kernel : ∀ j : Fin 32, (((nI j.val) &&& (31 : Int32)).toBitVec.smod 32).toNat = j.val) ⟨j, h⟩
theorem bit_shl {j : Nat} (h : j < 32) : (1 : Int32) <<< ((nI j) &&& (31 : Int32)) = nI (2 ^ j) := by
  have e := pk_shlN (n := 1) ((nI j) &&& (31 : Int32)) j (sh_ix h) (by
    have := Nat.pow_lt_pow_right (a := 2) (by decide) h
    omega)
  rw [Nat.one_mul] at e
  exact e
theorem or_nI {a b : Nat} (ha : a < 2 ^ 31) (hb : b < 2 ^ 31) : nI a ||| nI b = nI (a ||| b) := by
  apply Int32.toBitVec_inj.mp
  apply BitVec.eq_of_toNat_eq
  have h := Nat.or_lt_two_pow ha hb
  rw [Int32.toBitVec_or, BitVec.toNat_or, pk_tn (by omega), pk_tn (by omega), pk_tn (by omega)]
theorem bt_nI {m j : Nat} (hm : m < 2 ^ 31) (hj : j < 32) : bt (nI m) j = m.testBit j := by
  unfold bt
  rw [pk_shrN hm _ j (sh_ix hj), pk_andN (Nat.lt_of_le_of_lt (Nat.div_le_self _ _) (by omega)) 1 (by decide), Nat.testBit_eq_decide_div_mod_eq]
  have h2 : m / 2 ^ j % 2 ^ 1 < 2 := Nat.mod_lt _ (by decide)
  apply decide_eq_decide.mpr
  rw [show (0 : Int32) = nI 0 from rfl, Ne, nI_eq (by omega) (by omega)]
  omega
/-! more queries of the desk -/
abbrev ldD (b : Nat) (v : Int32) (S : HS) : Int32 := up (fun j a => if (ga S (b + 2)).getD j 0 = v then a + (ga S (b + 1)).getD j 0 else a) 5 0 0
theorem q_hasC {t N : Nat} {v : Int32} {S : HS} (hN : gf S t 1 = nI N) (h5 : N ≤ 5) : (∃ c, c < N ∧ v = nI c ∧ s_X6_hasCompartment t v S = some 1) ∨ (s_X6_hasCompartment t v S = some 0 ∧ ∀ c, c < N → v ≠ nI c) := by
  unfold s_X6_hasCompartment
  rw [hN]
  rcases pk_ix v (n := N) (by omega) with h | h | ⟨c, h, rfl⟩
  · refine Or.inr ⟨if_pos h, ?_⟩
    rintro c hc rfl
    exact nI_pos (by omega) h
  · refine Or.inr ⟨?_, ?_⟩
    · by_cases z : v < 0
      · rw [if_pos z]
      · rw [if_neg z, if_pos h]
    · rintro c hc rfl
      exact nI_ge hc (by omega) h
  · refine Or.inl ⟨c, h, rfl, ?_⟩
    rw [if_neg (nI_pos (by omega)), if_neg (nI_ge h (by omega))]
theorem q_hasL {t N : Nat} {v : Int32} {S : HS} (hN : gf S t 6 = nI N) (h5 : N ≤ 6) : (∃ c, c < N ∧ v = nI c ∧ s_X6_hasLiquid t v S = some 1) ∨ (s_X6_hasLiquid t v S = some 0 ∧ ∀ c, c < N → v ≠ nI c) := by
  unfold s_X6_hasLiquid
  rw [hN]
  rcases pk_ix v (n := N) (by omega) with h | h | ⟨c, h, rfl⟩
  · refine Or.inr ⟨if_pos h, ?_⟩
    rintro c hc rfl
    exact nI_pos (by omega) h
  · refine Or.inr ⟨?_, ?_⟩
    · by_cases z : v < 0
      · rw [if_pos z]
      · rw [if_neg z, if_pos h]
    · rintro c hc rfl
      exact nI_ge hc (by omega) h
  · refine Or.inl ⟨c, h, rfl, ?_⟩
    rw [if_neg (nI_pos (by omega)), if_neg (nI_ge h (by omega))]
theorem q_hasD {N : Nat} {v : Int32} {S : HS} (hN : gf S 22 1 = nI N) (h5 : N ≤ 20) : (∃ c, c < N ∧ v = nI c ∧ s_X5_hasDrop v S = some 1) ∨ (s_X5_hasDrop v S = some 0 ∧ ∀ c, c < N → v ≠ nI c) := by
  unfold s_X5_hasDrop
  rw [hN]
  rcases pk_ix v (n := N) (by omega) with h | h | ⟨c, h, rfl⟩
  · refine Or.inr ⟨if_pos h, ?_⟩
    rintro c hc rfl
    exact nI_pos (by omega) h
  · refine Or.inr ⟨?_, ?_⟩
    · by_cases z : v < 0
      · rw [if_pos z]
      · rw [if_neg z, if_pos h]
    · rintro c hc rfl
      exact nI_ge hc (by omega) h
  · refine Or.inl ⟨c, h, rfl, ?_⟩
    rw [if_neg (nI_pos (by omega)), if_neg (nI_ge h (by omega))]
abbrev topD (t c : Nat) (S : HS) : Int32 := (ga S (t + 2)).getD c 0 * (ga S (t + 1)).getD 6 0 / 100
theorem q_top {t c : Nat} {S : HS} (hL : LnD S) (ht : isT t) (hc : c < 5) : s_X6_top t (nI c) S = some (topD t c S) := by
  have e6 : ag (ga S (t + 1)) (6 : Int32) = some ((ga S (t + 1)).getD 6 0) := ag_ok (k := 6) (nT1 hL ht) (by omega) (by omega)
  unfold s_X6_top
  rw [ag_ok (nT2 hL ht) hc (by omega), sb, e6, sb]
def brD (t : Nat) (v w : Int32) (S : HS) : Bool := !decide (v = -1) && !decide (lg_cmp (((gl S t) >>> (((v * (6 : Int32)) + w).toInt64 &&& (63 : Int64))) &&& (1 : Int64)) (0 : Int64) = (0 : Int32))
theorem q_barred {t : Nat} {v w : Int32} {S : HS} : s_X6_isBarred t v w S = some (if brD t v w S then 1 else 0) := by
  unfold s_X6_isBarred brD
  by_cases c1 : v = -1
  · rw [if_pos c1, decide_eq_true c1]
    rfl
  · rw [if_neg c1, decide_eq_false c1]
    by_cases c2 : lg_cmp (((gl S t) >>> (((v * (6 : Int32)) + w).toInt64 &&& (63 : Int64))) &&& (1 : Int64)) (0 : Int64) = (0 : Int32)
    · rw [if_pos c2, decide_eq_true c2]
      rfl
    · rw [if_neg c2, decide_eq_false c2]
      rfl
def howD (t d : Nat) (S : HS) : Int32 := if (ga S 28).getD d 0 = 0 then (if (ga S (t + 8)).getD d 0 ≤ ldD 23 (nI d) S then 1 else 0) else (ga S 28).getD d 0
theorem q_how {t d : Nat} {S : HS} (hL : LnD S) (ht : isT t) (hd : d < 20) : s_X5_how t (nI d) S = some (howD t d S) := by
  unfold s_X5_how howD
  rw [ag_ok (nD28 hL) hd (by omega), sb, sb, q_loaded (b := 23) (nD24 hL) (nD25 hL), sb, ag_ok (nT8 hL ht) hd (by omega), sb]
  by_cases c1 : (ga S 28).getD d 0 = 0
  · rw [if_pos c1, if_pos c1]
    split <;> rfl
  · rw [if_neg c1, if_neg c1]
def shD (t d : Nat) (S : HS) : Int32 := if (ga S 28).getD d 0 = 2 then (ga S (t + 8)).getD d 0 - (ga S 29).getD d 0 else 0
theorem q_short {t d : Nat} {S : HS} (hL : LnD S) (ht : isT t) (hd : d < 20) : s_X5_shortOf t (nI d) S = some (shD t d S) := by
  unfold s_X5_shortOf shD
  rw [ag_ok (nD28 hL) hd (by omega), sb, ag_ok (nT8 hL ht) hd (by omega), sb, ag_ok (nD29 hL) hd (by omega), sb]
  by_cases c1 : (ga S 28).getD d 0 = 2
  · rw [if_neg (fun z => z c1), if_pos c1]
  · rw [if_pos c1, if_neg c1]
def cnt (p : Nat → Bool) : Nat → Nat → Nat
  | 0, _ => 0
  | m + 1, j => (if p j then 1 else 0) + cnt p m (j + 1)
theorem cnt_le (p : Nat → Bool) : ∀ m j, cnt p m j ≤ m := by
  intro m
  induction m with
  | zero =>
    intro j
    exact Nat.le_refl 0
  | succ m ih =>
    intro j
    have := ih (j + 1)
    rw [cnt]
    split <;> omega
theorem q_waiting {t N : Nat} {S : HS} (hL : LnD S) (ht : isT t) (hN : gf S 22 1 = nI N) (h5 : N ≤ 20) : s_X5_waiting t S = some (nI (cnt (fun d => decide (howD t d S = 0)) N 0)) := by
  have L : ∀ (m j a : Nat) (K : Nat), j + m = N → m < K → s_X5_waiting_L4 t S K (nI a) (nI j) = some (nI (a + cnt (fun d => decide (howD t d S = 0)) m j)) := by
    intro m
    induction m with
    | zero =>
      intro j a K h3 h4
      obtain ⟨K, rfl⟩ : ∃ k, K = k + 1 := ⟨K - 1, by omega⟩
      rw [s_X5_waiting_L4, hN, if_pos (nI_le (by omega) (by omega))]
      rfl
    | succ m ih =>
      intro j a K h3 h4
      obtain ⟨K, rfl⟩ : ∃ k, K = k + 1 := ⟨K - 1, by omega⟩
      rw [s_X5_waiting_L4, hN, if_neg (nI_ge (by omega) (by omega)), q_how hL ht (by omega), sb, ← nI_succ, ← nI_succ, ih _ _ _ (by omega) (by omega), ih _ _ _ (by omega) (by omega), cnt]
      by_cases e : howD t j S = 0
      · rw [if_neg (fun z => z e), if_pos (decide_eq_true e), Nat.add_assoc]
      · rw [if_pos e, if_neg (by simp [e]), Nat.zero_add]
  have := L N 0 0 40 (by omega) (by omega)
  rw [Nat.zero_add] at this
  exact this
/-! the table of orders -/
def paD (o : Nat) (m : Nat) (S : HS) (A : Nat) : Int32 := up (fun j a => if m.testBit j then a ||| (ga S (o + 2)).getD j 0 else a) A 0 0
theorem q_partsAll {o A m : Nat} {S : HS} (hL : LnD S) (ho : isO o) (hA : gf S o 0 = nI A) (h5 : A ≤ 5) (hm : m < 32) : s_X2_partsOfAll o (nI m) S = some (paD o m S A) := by
  have L : ∀ (q j : Nat) (a : Int32) (K : Nat), j + q = A → q < K → s_X2_partsOfAll_L4 o (nI m) S K a (nI j) = some (up (fun j a => if m.testBit j then a ||| (ga S (o + 2)).getD j 0 else a) q j a) := by
    intro q
    induction q with
    | zero =>
      intro j a K h3 h4
      obtain ⟨K, rfl⟩ : ∃ k, K = k + 1 := ⟨K - 1, by omega⟩
      rw [s_X2_partsOfAll_L4, hA, if_pos (nI_le (by omega) (by omega))]
      rfl
    | succ q ih =>
      intro j a K h3 h4
      obtain ⟨K, rfl⟩ : ∃ k, K = k + 1 := ⟨K - 1, by omega⟩
      have hb := bt_nI (m := m) (j := j) (by omega) (by omega)
      unfold bt at hb
      rw [s_X2_partsOfAll_L4, hA, if_neg (nI_ge (by omega) (by omega)), ag_ok (nO2 hL ho) (by omega) (by omega), sb, ← nI_succ, ih _ _ _ (by omega) (by omega), ih _ _ _ (by omega) (by omega), up, ← hb]
      by_cases e : ((nI m >>> (nI j &&& (31 : Int32))) &&& (1 : Int32)) = 0
      · rw [if_pos e, if_neg (by simp [e])]
      · rw [if_neg e, if_pos (decide_eq_true e)]
  exact L A 0 0 40 (by omega) (by omega)
def waD (o m : Nat) (S : HS) (A : Nat) : Int32 := up (fun j a => if m.testBit j then a else a + (ga S (o + 3)).getD (m ||| 2 ^ j) 0) A 0 0
theorem or_lt32 {m j : Nat} (hm : m < 32) (hj : j < 5) : m ||| 2 ^ j < 32 := Nat.or_lt_two_pow (n := 5) hm (Nat.pow_lt_pow_right (by decide) hj)
theorem or_ix {m j : Nat} (hm : m < 32) (hj : j < 5) : nI m ||| ((1 : Int32) <<< ((nI j) &&& (31 : Int32))) = nI (m ||| 2 ^ j) := by
  have h2 : 2 ^ j < 2 ^ 5 := Nat.pow_lt_pow_right (by decide) hj
  rw [bit_shl (by omega), or_nI (by omega) (by omega)]
theorem q_ways {o A m : Nat} {S : HS} (hL : LnD S) (ho : isO o) (hA : gf S o 0 = nI A) (h5 : A ≤ 5) (hm : m < 32) : s_X2_waysBehind o (nI m) S = some (waD o m S A) := by
  have L : ∀ (q j : Nat) (a : Int32) (K : Nat), j + q = A → q < K → s_X2_waysBehind_L4 o (nI m) S K a (nI j) = some (up (fun j a => if m.testBit j then a else a + (ga S (o + 3)).getD (m ||| 2 ^ j) 0) q j a) := by
    intro q
    induction q with
    | zero =>
      intro j a K h3 h4
      obtain ⟨K, rfl⟩ : ∃ k, K = k + 1 := ⟨K - 1, by omega⟩
      rw [s_X2_waysBehind_L4, hA, if_pos (nI_le (by omega) (by omega))]
      rfl
    | succ q ih =>
      intro j a K h3 h4
      obtain ⟨K, rfl⟩ : ∃ k, K = k + 1 := ⟨K - 1, by omega⟩
      have hb := bt_nI (m := m) (j := j) (by omega) (by omega)
      unfold bt at hb
      rw [s_X2_waysBehind_L4, hA, if_neg (nI_ge (by omega) (by omega)), or_ix hm (by omega), ag_ok (nO3 hL ho) (or_lt32 hm (by omega)) (by omega), sb, ← nI_succ, ih _ _ _ (by omega) (by omega), ih _ _ _ (by omega) (by omega), up, ← hb]
      by_cases e : ((nI m >>> (nI j &&& (31 : Int32))) &&& (1 : Int32)) = 0
      · rw [if_neg (fun z => z e), if_neg (by simp [e])]
      · rw [if_pos e, if_pos (decide_eq_true e)]
  exact L A 0 0 40 (by omega) (by omega)
/-- the least one behind: none, or its place -/
def lsD (o m : Nat) (S : HS) : Nat → Nat → Option Nat
  | 0, _ => none
  | q + 1, j => if m.testBit j then lsD o m S q (j + 1) else if (ga S (o + 3)).getD (m ||| 2 ^ j) 0 ≤ 0 then lsD o m S q (j + 1) else some j
theorem lsD_lt {o m : Nat} {S : HS} : ∀ (q j i : Nat), lsD o m S q j = some i → j ≤ i ∧ i < j + q ∧ m.testBit i = false := by
  intro q
  induction q with
  | zero =>
    intro j i h
    cases h
  | succ q ih =>
    intro j i h
    rw [lsD] at h
    split at h
    · have := ih _ _ h
      exact ⟨by omega, by omega, this.2.2⟩
    · next hb =>
      split at h
      · have := ih _ _ h
        exact ⟨by omega, by omega, this.2.2⟩
      · cases h
        exact ⟨by omega, by omega, Bool.eq_false_iff.mpr hb⟩
def oI1 (x : Option Nat) : Int32 := match x with
  | none => -1
  | some j => nI j
theorem q_least {o A m : Nat} {S : HS} (hL : LnD S) (ho : isO o) (hA : gf S o 0 = nI A) (h5 : A ≤ 5) (hm : m < 32) : s_X2_leastBehind o (nI m) S = some (oI1 (lsD o m S A 0)) := by
  have L : ∀ (q j : Nat) (K : Nat), j + q = A → q < K → s_X2_leastBehind_L2 o (nI m) S K (nI j) = some (oI1 (lsD o m S q j)) := by
    intro q
    induction q with
    | zero =>
      intro j K h3 h4
      obtain ⟨K, rfl⟩ : ∃ k, K = k + 1 := ⟨K - 1, by omega⟩
      rw [s_X2_leastBehind_L2, hA, if_pos (nI_le (by omega) (by omega))]
      rfl
    | succ q ih =>
      intro j K h3 h4
      obtain ⟨K, rfl⟩ : ∃ k, K = k + 1 := ⟨K - 1, by omega⟩
      have hb := bt_nI (m := m) (j := j) (by omega) (by omega)
      unfold bt at hb
      rw [s_X2_leastBehind_L2, hA, if_neg (nI_ge (by omega) (by omega)), or_ix hm (by omega), ag_ok (nO3 hL ho) (or_lt32 hm (by omega)) (by omega), sb, ← nI_succ, ih _ _ (by omega) (by omega), lsD, ← hb]
      by_cases e : ((nI m >>> (nI j &&& (31 : Int32))) &&& (1 : Int32)) = 0
      · have e2 : ¬ decide (((nI m >>> (nI j &&& (31 : Int32))) &&& (1 : Int32)) ≠ 0) = true := by simp [e]
        rw [if_neg (fun z => z e), if_neg e2]
        by_cases e3 : (ga S (o + 3)).getD (m ||| 2 ^ j) 0 ≤ 0
        · rw [if_pos e3, if_pos e3]
        · rw [if_neg e3, if_neg e3]
          rfl
      · rw [if_pos e, if_pos (decide_eq_true e)]
  exact L A 0 40 (by omega) (by omega)
