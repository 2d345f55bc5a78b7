/-! whether a deal, laid in, stands and has an order: by its row alone -/
def McL (f : Nat → Int32) (n : Nat) : List Int32 := (List.range n).map f
theorem mc_get {f : Nat → Int32} {n i : Nat} (h : i < n) : (McL f n).getD i 0 = f i := by
  unfold McL
  rw [List.getD_eq_getElem?_getD, List.getElem?_map, List.getElem?_range h]
  rfl
theorem mc_len {f : Nat → Int32} {n : Nat} : (McL f n).length = n := by
  unfold McL
  rw [List.length_map, List.length_range]
def Mc (A B : Nat → Nat) : HS := (fun _ _ => 0, (fun _ => 0, (fun _ _ => .null, fun k => if k = 139 then McL (fun i => nI (A i)) 157 else if k = 142 then McL (fun c => nI (B (30 + 6 * c))) 5 else if k = 143 then McL (fun c => nI (lqA B c)) 5 else if k = 144 then McL (fun c => dn (B (31 + 6 * c))) 5 else List.replicate (ln k) 0)))
theorem mc_ln {A B : Nat → Nat} : LnM (Mc A B) := by
  intro k _ _
  show (if k = 139 then _ else if k = 142 then _ else if k = 143 then _ else if k = 144 then _ else _ : List Int32).length = ln k
  by_cases h1 : k = 139
  · rw [if_pos h1, mc_len, h1]
    rfl
  rw [if_neg h1]
  by_cases h2 : k = 142
  · rw [if_pos h2, mc_len, h2]
    rfl
  rw [if_neg h2]
  by_cases h3 : k = 143
  · rw [if_pos h3, mc_len, h3]
    rfl
  rw [if_neg h3]
  by_cases h4 : k = 144
  · rw [if_pos h4, mc_len, h4]
    rfl
  rw [if_neg h4, List.length_replicate]
theorem mc_rm {A B : Nat → Nat} : RMt (Mc A B) 139 A := fun i hi => mc_get (f := fun i => nI (A i)) hi
theorem mc_lc {A B : Nat → Nat} {c : Nat} (hc : c < 5) : LC (Mc A B) B c := ⟨mc_get (f := fun c => nI (B (30 + 6 * c))) hc, mc_get (f := fun c => nI (lqA B c)) hc, mc_get (f := fun c => dn (B (31 + 6 * c))) hc⟩
theorem stM_ext {M M' : HS} {A B : Nat → Nat} {g : Int32} (h5 : A 9 ≤ 5) (hM : RMt M 139 A) (hM' : RMt M' 139 A) (hc : ∀ c, c < A 9 → LC M B c ∧ LC M' B c ∧ lqA B c < 6) : stM M g (lqA B) (A 9) = stM M' g (lqA B) (A 9) := by
  have ef : ∀ i, i < 157 → fM M i = fM M' i := fun i hi => (hM i hi).trans (hM' i hi).symm
  have em : ∀ c, c < A 9 → mbM M g c = mbM M' g c := fun c h => by
    obtain ⟨⟨a1, _, a3⟩, ⟨b1, _, b3⟩, _⟩ := hc c h
    unfold mbM
    rw [a1, a3, b1, b3]
  have e3 : frM M g (lqA B) (A 9) = frM M' g (lqA B) (A 9) := by
    unfold frM
    rw [ef 1 (by omega), ef 0 (by omega)]
    refine up_congr _ 0 _ (fun i x _ hi => ?_)
    have hl := (hc i (by omega)).2.2
    unfold fMs
    rw [em i (by omega), ef (15 + lqA B i) (by omega), ef 0 (by omega), ef (27 + 1 + 6 * i) (by omega)]
  have e4 : reM M g (lqA B) (A 9) = reM M' g (lqA B) (A 9) := by
    unfold reM
    rw [ef 2 (by omega), ef 0 (by omega)]
    refine up_congr _ 0 _ (fun i x _ hi => ?_)
    have hl := (hc i (by omega)).2.2
    unfold rMs
    rw [em i (by omega), ef (15 + lqA B i) (by omega), ef (27 + 1 + 6 * i) (by omega)]
  have e5 : ex (sM1 M g) (A 9) 0 = ex (sM1 M' g) (A 9) 0 := by
    refine ex_congr _ 0 (fun i _ hi => ?_)
    unfold sM1
    rw [em i (by omega), ef (27 + 2 + 6 * i) (by omega), ef 7 (by omega), ef 8 (by omega), ef (27 + 0 + 6 * i) (by omega)]
  unfold stM tlM
  rw [e3, e4, e5, ef 4 (by omega), ef 0 (by omega), ef 3 (by omega), ef 5 (by omega)]
def orN (p : Nat → Bool) : Nat → Nat
  | 0 => 0
  | n + 1 => if p n = true then orN p n ||| 2 ^ n else orN p n
theorem orN_bit {p : Nat → Bool} : ∀ n i, (orN p n).testBit i = (decide (i < n) && p i) := by
  intro n
  induction n with
  | zero =>
    intro i
    show (0 : Nat).testBit i = _
    rw [Nat.zero_testBit, decide_eq_false (Nat.not_lt_zero i)]
    rfl
  | succ n ih =>
    intro i
    rw [orN]
    by_cases z : p n = true
    · rw [if_pos z, Nat.testBit_or, Nat.testBit_two_pow, ih i]
      by_cases y : n = i
      · subst y
        rw [decide_eq_true (show n = n from rfl), decide_eq_true (show n < n + 1 by omega), z, Bool.or_true]
        rfl
      · rw [decide_eq_false y, Bool.or_false, show decide (i < n) = decide (i < n + 1) from decide_eq_decide.mpr (by omega)]
    · rw [if_neg z, ih i]
      by_cases y : n = i
      · subst y
        rw [Bool.eq_false_iff.mpr z, Bool.and_false, Bool.and_false]
      · rw [show decide (i < n) = decide (i < n + 1) from decide_eq_decide.mpr (by omega)]
theorem orN_lt {p : Nat → Bool} : ∀ n, orN p n < 2 ^ n := by
  intro n
  induction n with
  | zero => exact Nat.one_pos
  | succ n ih =>
    have h1 : 2 ^ n < 2 ^ (n + 1) := Nat.pow_lt_pow_right (by decide) (by omega)
    rw [orN]
    split
    · exact Nat.or_lt_two_pow (Nat.lt_trans ih h1) h1
    · exact Nat.lt_trans ih h1
/-- those aboard once the deal is laid in -/
def abG (A G : Nat → Nat) : Nat := orN (fun d => decide (ldA (layA A G) d 5 = A (58 + 5 * d))) (A 13)
def lawG (A G : Nat → Nat) : Prop := stM (Mc A (layA A G)) 0 (lqA (layA A G)) (A 9) = 0 ∧ 0 < owN (okM (Mc A (layA A G)) (lqA (layA A G)) (A 9)) (abG A G) (A 13) 8 0
theorem ab_bit {A G : Nat → Nat} {d : Nat} : (abG A G).testBit d = true ↔ d < A 13 ∧ ldA (layA A G) d 5 = A (58 + 5 * d) := by
  unfold abG
  rw [orN_bit, Bool.and_eq_true, decide_eq_true_iff, decide_eq_true_iff]
theorem ab_lt {A G : Nat → Nat} (h : A 13 ≤ 20) : abG A G < 2 ^ 20 := Nat.lt_of_lt_of_le (orN_lt (A 13)) (Nat.pow_le_pow_right (by decide) h)
theorem lay_rows {A G : Nat → Nat} (hW : Wf A) (hV : GVa A G (A 9)) : (∀ c, c < A 9 → lqA (layA A G) c < 6) ∧ (∀ c, c < 5 → layA A G (31 + 6 * c) ≤ 20 ∧ layA A G (30 + 6 * c) ≤ 9999) ∧ pcB (abG A G) ≤ 5 := by
  have h5 := hW.1.1
  have h20 := hW.1.2.2.2.2.1
  have h6 := hW.1.2.1
  refine ⟨fun c hc => ?_, fun c hc => ?_, pc_ld (B := layA A G) (fun d hd q => ?_)⟩
  · rw [lq_lay (by omega)]
    by_cases z : G c = 0
    · rw [if_pos z]
      exact lq_6 hW hc
    · rw [if_neg z]
      have h3 := (hV c z).2.2.1
      have := (hW.1.2.2.2.2.2.2.2.2.2.2.2 (G c - 1) (by omega)).1
      omega
  · obtain ⟨l0, l1, _⟩ := lay_c (A := A) (G := G) hc
    rw [l0, l1]
    by_cases z : G c = 0
    · rw [if_pos z, if_pos z]
      refine ⟨hW.o20 hc, ?_⟩
      by_cases y : c < A 9
      · have := (hW.2.2.1 c y).1
        omega
      · rw [(hW.2.1 c (by omega) hc).1]
        omega
    · obtain ⟨v1, _, v3, _⟩ := hV c z
      rw [if_neg z, if_neg z]
      have ht := tp_999 hW v1
      refine ⟨by omega, ?_⟩
      unfold amA
      omega
  · obtain ⟨q1, q2⟩ := ab_bit.mp q
    have hq1 := (hW.1.2.2.2.2.2.2.2.2.2.2.2 d q1).2.1
    omega
/-- the model's set of those aboard and served is it -/
theorem ab_eq {A G : Nat → Nat} {a s : Nat} (hW : Wf A) (hV : GVa A G (A 9)) (hk : ∀ d, d < A 13 → (∃ c, c < A 9 ∧ G c = d + 1) → lfA A G d (A 9) = 0) (hsb : ∀ d, s.testBit d = true ↔ d < A 13 ∧ ∃ c, c < A 9 ∧ G c = d + 1) (hab : ∀ d, a.testBit d = true ↔ d < A 13 ∧ A (59 + 5 * d) = 1) : a ||| s = abG A G := by
  have h5 := hW.1.1
  apply Nat.eq_of_testBit_eq
  intro d
  apply Bool.eq_iff_iff.mpr
  have e5 : lfA A G d 5 = lfA A G d (A 9) := by
    have e := lf_stay (A := A) (G := G) (d := d) (n := A 9) (fun c hc => by
      have : G c = 0 := by
        by_cases z : G c = 0
        · exact z
        · have := (hV c z).1
          omega
      omega) (5 - A 9)
    rw [show A 9 + (5 - A 9) = 5 by omega] at e
    exact e
  rw [ab_bit, Nat.testBit_or, Bool.or_eq_true, hab d, hsb d, ld_lay hV 5 (by omega), e5]
  have hle := lf_le (A := A) (G := G) (d := d) 0 (A 9)
  rw [Nat.zero_add] at hle
  have e0 : lfA A G d 0 = lkA A d := rfl
  constructor
  · intro q
    rcases q with ⟨q1, q2⟩ | ⟨q1, q2⟩
    · refine ⟨q1, ?_⟩
      have hld : ldA A d 5 = A (58 + 5 * d) := by
        rcases hW.2.2.2.1 d q1 with w | w | w
        · omega
        · exact w.2
        · omega
      unfold lkA at *
      omega
    · have z1 := hk d q1 q2
      refine ⟨q1, ?_⟩
      obtain ⟨c, hc, ec⟩ := q2
      have hs0 := (hV c (by omega)).2.2.2
      rw [ec, show d + 1 - 1 = d by omega] at hs0
      have hld : ldA A d 5 < A (58 + 5 * d) := by
        rcases hW.2.2.2.1 d q1 with w | w | w
        · exact w.2
        · omega
        · omega
      unfold lkA at *
      omega
  · rintro ⟨q1, q2⟩
    have hq1 := (hW.1.2.2.2.2.2.2.2.2.2.2.2 d q1).2.1
    rcases hW.2.2.2.1 d q1 with w | w | w
    · right
      refine ⟨q1, lf_some (A := A) (A 9) ?_⟩
      unfold lkA at *
      omega
    · exact Or.inl ⟨q1, w.1⟩
    · right
      refine ⟨q1, lf_some (A := A) (A 9) ?_⟩
      unfold lkA at *
      omega
theorem ok_ext {M : HS} {A G : Nat → Nat} (hW : Wf A) (hV : GVa A G (A 9)) (hM : RMt M 139 A) (hlc : ∀ c, c < A 9 → LC M (layA A G) c) : okM M (lqA (layA A G)) (A 9) = okM (Mc A (layA A G)) (lqA (layA A G)) (A 9) := by
  have h5 := hW.1.1
  funext g
  unfold okM
  rw [stM_ext h5 hM mc_rm (fun c hc => ⟨hlc c hc, mc_lc (by omega), (lay_rows hW hV).1 c hc⟩)]
