/-! how the tanker stands, on the model's paper: one formula each, and the desk's are the same -/
theorem up_congr {α : Type} {f g : Nat → α → α} : ∀ (m j : Nat) (a : α), (∀ i x, j ≤ i → i < j + m → f i x = g i x) → up f m j a = up g m j a := by
  intro m
  induction m with
  | zero => intros; rfl
  | succ m ih =>
    intro j a h
    show up f m (j + 1) (f j a) = up g m (j + 1) (g j a)
    rw [h j a (by omega) (by omega)]
    exact ih (j + 1) _ (fun i x h1 h2 => h i x (by omega) (by omega))
theorem ex_congr {p q : Nat → Bool} : ∀ (m j : Nat), (∀ i, j ≤ i → i < j + m → p i = q i) → ex p m j = ex q m j := by
  intro m
  induction m with
  | zero => intros; rfl
  | succ m ih =>
    intro j h
    rw [ex, ex, h j (by omega) (by omega), ih (j + 1) (fun i h1 h2 => h i (by omega) (by omega))]
def mbM (M : HS) (g : Int32) (j : Nat) : Int32 := if (ga M 144).getD j 0 = -1 then (ga M 142).getD j 0 else if hasB g ((ga M 144).getD j 0) = true then 0 else (ga M 142).getD j 0
theorem q_muchBut {M : HS} {g : Int32} {j : Nat} (hL : LnM M) (hj : j < 5) : s_X8_muchBut (nI j) g M = some (mbM M g j) := by
  unfold s_X8_muchBut mbM
  rw [ag_ok (nM144 hL) hj (by omega), sb, ag_ok (nM142 hL) hj (by omega), sb, sb, q_has, sb]
  by_cases c : (ga M 144).getD j 0 = -1
  · rw [if_pos c, if_pos c]
  · rw [if_neg c, if_neg c]
    by_cases h : hasB g ((ga M 144).getD j 0) = true
    · rw [h, if_neg (show ¬ z1 true = 0 by decide), if_pos rfl]
    · rw [if_neg h, Bool.eq_false_iff.mpr h, if_pos (show z1 false = 0 by decide)]
def PL (M : HS) (N : Nat) (lq : Nat → Nat) : Prop := ∀ c, c < N → lq c < 6 ∧ (ga M 143).getD c 0 = nI (lq c)
def fMs (M : HS) (g : Int32) (lq : Nat → Nat) (j : Nat) (a : Int32) : Int32 := a + (mbM M g j * fM M (15 + lq j)) * (fM M 0 - fM M (27 + 1 + 6 * j))
def rMs (M : HS) (g : Int32) (lq : Nat → Nat) (j : Nat) (a : Int32) : Int32 := a + (mbM M g j * fM M (15 + lq j)) * fM M (27 + 1 + 6 * j)
def frM (M : HS) (g : Int32) (lq : Nat → Nat) (N : Nat) : Int32 := up (fMs M g lq) N 0 (fM M 1 * fM M 0)
def reM (M : HS) (g : Int32) (lq : Nat → Nat) (N : Nat) : Int32 := up (rMs M g lq) N 0 (fM M 2 * fM M 0)
theorem q_mfront {M : HS} {N : Nat} {g : Int32} {lq : Nat → Nat} (hL : LnM M) (hN : fM M 9 = nI N) (h5 : N ≤ 5) (hp : PL M N lq) : s_X8_front g M = some (frM M g lq N) := by
  have lp : ∀ (m j : Nat) (a : Int32) (K : Nat), j + m = N → m < K → s_X8_front_L16 g M K a (nI j) = some (up (fMs M g lq) m j a) := by
    intro m
    induction m with
    | zero =>
      intro j a K h1 h2
      obtain ⟨K, rfl⟩ : ∃ k, K = k + 1 := ⟨K - 1, by omega⟩
      rw [s_X8_front_L16, m_at hL (x := 9) (i := 9) rfl (by omega), sb, hN, if_pos (nI_le (by omega) (by omega))]
      rfl
    | succ m ih =>
      intro j a K h1 h2
      obtain ⟨K, rfl⟩ : ∃ k, K = k + 1 := ⟨K - 1, by omega⟩
      obtain ⟨hq, eq⟩ := hp j (by omega)
      rw [s_X8_front_L16, m_at hL (x := 9) (i := 9) rfl (by omega), sb, hN, if_neg (nI_ge (by omega) (by omega)), q_muchBut hL (by omega), sb, ag_ok (nM143 hL) (by omega) (by omega), sb, eq, show (15 : Int32) + nI (lq j) = nI (15 + lq j) from nI_add 15 (lq j), m_at hL rfl (by omega), sb, m_at hL (x := 0) (i := 0) rfl (by omega), sb, q_holds hL (by omega) (x := 1) (k := 1) (by omega) rfl, sb, ← nI_succ]
      exact ih (j + 1) _ K (by omega) (by omega)
  unfold s_X8_front frM
  rw [m_at hL (x := 1) (i := 1) rfl (by omega), sb, m_at hL (x := 0) (i := 0) rfl (by omega), sb]
  exact lp N 0 _ 40 (by omega) (by omega)
theorem q_mrear {M : HS} {N : Nat} {g : Int32} {lq : Nat → Nat} (hL : LnM M) (hN : fM M 9 = nI N) (h5 : N ≤ 5) (hp : PL M N lq) : s_X8_rear g M = some (reM M g lq N) := by
  have lp : ∀ (m j : Nat) (a : Int32) (K : Nat), j + m = N → m < K → s_X8_rear_L16 g M K a (nI j) = some (up (rMs M g lq) m j a) := by
    intro m
    induction m with
    | zero =>
      intro j a K h1 h2
      obtain ⟨K, rfl⟩ : ∃ k, K = k + 1 := ⟨K - 1, by omega⟩
      rw [s_X8_rear_L16, m_at hL (x := 9) (i := 9) rfl (by omega), sb, hN, if_pos (nI_le (by omega) (by omega))]
      rfl
    | succ m ih =>
      intro j a K h1 h2
      obtain ⟨K, rfl⟩ : ∃ k, K = k + 1 := ⟨K - 1, by omega⟩
      obtain ⟨hq, eq⟩ := hp j (by omega)
      rw [s_X8_rear_L16, m_at hL (x := 9) (i := 9) rfl (by omega), sb, hN, if_neg (nI_ge (by omega) (by omega)), q_muchBut hL (by omega), sb, ag_ok (nM143 hL) (by omega) (by omega), sb, eq, show (15 : Int32) + nI (lq j) = nI (15 + lq j) from nI_add 15 (lq j), m_at hL rfl (by omega), sb, q_holds hL (by omega) (x := 1) (k := 1) (by omega) rfl, sb, ← nI_succ]
      exact ih (j + 1) _ K (by omega) (by omega)
  unfold s_X8_rear reM
  rw [m_at hL (x := 2) (i := 2) rfl (by omega), sb, m_at hL (x := 0) (i := 0) rfl (by omega), sb]
  exact lp N 0 _ 40 (by omega) (by omega)
def sM1 (M : HS) (g : Int32) (j : Nat) : Bool := decide (fM M (27 + 2 + 6 * j) = 1) && (!decide (100 * mbM M g j ≤ 0) && (!decide (100 * mbM M g j ≤ fM M 7 * fM M (27 + 0 + 6 * j)) && !decide (fM M 8 * fM M (27 + 0 + 6 * j) ≤ 100 * mbM M g j)))
def tlM (M : HS) (g : Int32) (lq : Nat → Nat) (N : Nat) : Int32 := if frM M g lq N ≤ fM M 4 * fM M 0 then if fM M 3 * fM M 0 ≤ frM M g lq N then if reM M g lq N ≤ fM M 5 * fM M 0 then 0 else 4 else 3 else 2
def stM (M : HS) (g : Int32) (lq : Nat → Nat) (N : Nat) : Int32 := if ex (sM1 M g) N 0 then 1 else tlM M g lq N
theorem ite_some {c : Prop} [Decidable c] {a b : Int32} : (if c then some a else some b) = some (if c then a else b) := by
  split <;> rfl
theorem q_stands {M : HS} {N : Nat} {g : Int32} {lq : Nat → Nat} (hL : LnM M) (hN : fM M 9 = nI N) (h5 : N ≤ 5) (hp : PL M N lq) : s_X8_stands g M = some (stM M g lq N) := by
  have ef := q_mfront (g := g) hL hN h5 hp
  have er := q_mrear (g := g) hL hN h5 hp
  have lp : ∀ (m j : Nat) (K : Nat), j + m = N → m < K → s_X8_stands_L2 g M K (nI j) = some (if ex (sM1 M g) m j then 1 else tlM M g lq N) := by
    intro m
    induction m with
    | zero =>
      intro j K h1 h2
      obtain ⟨K, rfl⟩ : ∃ k, K = k + 1 := ⟨K - 1, by omega⟩
      rw [s_X8_stands_L2, m_at hL (x := 9) (i := 9) rfl (by omega), sb, hN, if_pos (nI_le (by omega) (by omega)), ef, sb, m_at hL (x := 4) (i := 4) rfl (by omega), sb, m_at hL (x := 0) (i := 0) rfl (by omega), sb, sb, m_at hL (x := 3) (i := 3) rfl (by omega), sb, sb, er, sb, m_at hL (x := 5) (i := 5) rfl (by omega), sb, sb, ite_some, ite_some, ite_some]
      rfl
    | succ m ih =>
      intro j K h1 h2
      obtain ⟨K, rfl⟩ : ∃ k, K = k + 1 := ⟨K - 1, by omega⟩
      rw [s_X8_stands_L2, m_at hL (x := 9) (i := 9) rfl (by omega), sb, hN, if_neg (nI_ge (by omega) (by omega)), q_muchBut hL (by omega), sb, q_holds hL (by omega) (x := 2) (k := 2) (by omega) rfl, sb, m_at hL (x := 7) (i := 7) rfl (by omega), sb, q_holds hL (by omega) (x := 0) (k := 0) (by omega) rfl, sb, m_at hL (x := 8) (i := 8) rfl (by omega), sb, sb, ← nI_succ, ih (j + 1) K (by omega) (by omega)]
      have key : ex (sM1 M g) (m + 1) j = (sM1 M g j || ex (sM1 M g) m (j + 1)) := rfl
      rw [key]
      unfold sM1
      by_cases c1 : fM M (27 + 2 + 6 * j) = 1
      · by_cases c2 : 100 * mbM M g j ≤ 0
        · simp only [c1, c2, ne_eq, not_true_eq_false, if_false, if_true, decide_true, Bool.not_true, Bool.false_and, Bool.and_false, Bool.false_or]
        · by_cases c3 : 100 * mbM M g j ≤ fM M 7 * fM M (27 + 0 + 6 * j)
          · simp only [c1, c2, c3, ne_eq, not_true_eq_false, if_false, if_true, decide_true, decide_false, Bool.not_true, Bool.not_false, Bool.false_and, Bool.and_false, Bool.true_and, Bool.false_or]
          · by_cases c4 : fM M 8 * fM M (27 + 0 + 6 * j) ≤ 100 * mbM M g j
            · simp only [c1, c2, c3, c4, ne_eq, not_true_eq_false, if_false, if_true, decide_true, decide_false, Bool.not_true, Bool.not_false, Bool.and_false, Bool.true_and, Bool.false_or]
            · simp only [c1, c2, c3, c4, ne_eq, not_true_eq_false, if_false, if_true, decide_true, decide_false, Bool.not_false, Bool.true_and, Bool.true_or]
      · simp only [c1, ne_eq, not_false_eq_true, if_true, decide_false, Bool.false_and, Bool.false_or]
  exact lp N 0 40 (by omega) (by omega)
/-- the desk's cargo b and the model's paper say the same; the parts v are those of the drops g -/
def RP (S M : HS) (b N : Nat) (lq : Nat → Nat) : Prop := ∀ c, c < N → (∃ k, k ≤ 9999 ∧ (ga M 142).getD c 0 = nI k) ∧ (ga S (b + 1)).getD c 0 = (ga M 142).getD c 0 ∧ (ga S (b + 4)).getD c 0 = (ga M 142).getD c 0 * fM M (15 + lq c)
def RG (M : HS) (N : Nat) (v g : Int32) : Prop := ∀ c, c < N → (bt v c = true ↔ (ga M 144).getD c 0 ≠ -1 ∧ hasB g ((ga M 144).getD c 0) = true)
theorem mb_gone {M : HS} {N c : Nat} {v g : Int32} (h : RG M N v g) (hc : c < N) : mbM M g c = if bt v c = true then 0 else (ga M 142).getD c 0 := by
  unfold mbM
  by_cases e : bt v c = true
  · obtain ⟨a, b⟩ := (h c hc).mp e
    rw [if_neg a, if_pos b, if_pos e]
  · rw [if_neg e]
    by_cases a : (ga M 144).getD c 0 = -1
    · rw [if_pos a]
    · rw [if_neg a, if_neg (fun b => e ((h c hc).mpr ⟨a, b⟩))]
theorem nI_100 {k : Nat} (h : k ≤ 9999) : (100 * nI k ≤ (0 : Int32)) ↔ nI k ≤ 0 := by
  rw [show (100 : Int32) * nI k = nI (100 * k) from (pk_mul 100 k)]
  constructor
  · intro z
    rcases Nat.eq_zero_or_pos k with rfl | p
    · decide
    · exact absurd z (show ¬ nI (100 * k) ≤ nI 0 from nI_ge (by omega) (by omega))
  · intro z
    rcases Nat.eq_zero_or_pos k with rfl | p
    · decide
    · exact absurd z (show ¬ nI k ≤ nI 0 from nI_ge (by omega) (by omega))
theorem st_eq {S M : HS} {b t N : Nat} {v g : Int32} {lq : Nat → Nat} {A : Nat → Nat} (hN : N = A 9) (h5 : N ≤ 5) (hT : RDt S t A) (hM : RMt M 139 A) (hP : RP S M b N lq) (hG : RG M N v g) : fD b t v S N = frM M g lq N ∧ rD b t v S N = reM M g lq N ∧ stD b t v S N = stM M g lq N := by
  subst hN
  obtain ⟨_, _, t3, t4, _, _, _⟩ := hT
  have hf : ∀ i, i < 157 → fM M i = nI (A i) := hM
  have hH : ∀ i, i < 9 → (ga S (t + 1)).getD i 0 = fM M i := fun i hi => (t3 i hi).trans (hf i (by omega)).symm
  have h2 : ∀ c, c < A 9 → (ga S (t + 2)).getD c 0 = fM M (27 + 0 + 6 * c) := fun c hc => (t4 c hc).1.trans (hf (27 + 6 * c) (by omega)).symm
  have h3 : ∀ c, c < A 9 → (ga S (t + 3)).getD c 0 = fM M (27 + 1 + 6 * c) := fun c hc => (t4 c hc).2.1.trans (hf (28 + 6 * c) (by omega)).symm
  have h4 : ∀ c, c < A 9 → (ga S (t + 4)).getD c 0 = fM M (27 + 2 + 6 * c) := fun c hc => (t4 c hc).2.2.trans (hf (29 + 6 * c) (by omega)).symm
  have ef : fD b t v S (A 9) = frM M g lq (A 9) := by
    unfold fD frM
    rw [hH 1 (by omega), hH 0 (by omega)]
    refine up_congr _ 0 _ (fun i x q1 q2 => ?_)
    unfold fDs fMs
    rw [mb_gone hG (show i < A 9 by omega)]
    by_cases e : bt v i = true
    · rw [if_pos e, if_pos e, Int32.zero_mul, Int32.zero_mul]
    · rw [if_neg e, if_neg e, (hP i (by omega)).2.2, h3 i (by omega), hH 0 (by omega)]
  have er : rD b t v S (A 9) = reM M g lq (A 9) := by
    unfold rD reM
    rw [hH 2 (by omega), hH 0 (by omega)]
    refine up_congr _ 0 _ (fun i x q1 q2 => ?_)
    unfold rDs rMs
    rw [mb_gone hG (show i < A 9 by omega)]
    by_cases e : bt v i = true
    · rw [if_pos e, if_pos e, Int32.zero_mul, Int32.zero_mul]
    · rw [if_neg e, if_neg e, (hP i (by omega)).2.2, h3 i (by omega)]
  have es : ex (su1 b t v S) (A 9) 0 = ex (sM1 M g) (A 9) 0 := by
    refine ex_congr _ 0 (fun i q1 q2 => ?_)
    unfold su1 sM1
    obtain ⟨⟨k, hk, ek⟩, p1, _⟩ := hP i (by omega)
    rw [mb_gone hG (show i < A 9 by omega), h4 i (by omega), h2 i (by omega), hH 7 (by omega), hH 8 (by omega), p1]
    by_cases e : bt v i = true
    · rw [if_pos e, e, show (100 : Int32) * 0 = 0 from rfl, decide_eq_true (show (0 : Int32) ≤ 0 by decide)]
      simp
    · rw [if_neg e, Bool.eq_false_iff.mpr e, Int32.mul_comm _ 100, ek, show decide ((100 : Int32) * nI k ≤ 0) = decide (nI k ≤ (0 : Int32)) from decide_eq_decide.mpr (nI_100 hk)]
      simp
  refine ⟨ef, er, ?_⟩
  unfold stD stM tlM
  rw [ef, er, es, hH 4 (by omega), hH 3 (by omega), hH 5 (by omega), hH 0 (by omega)]
