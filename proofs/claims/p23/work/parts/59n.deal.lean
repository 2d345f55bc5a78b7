/-! a deal on paper: who is given what; what it lacks; when it must fail -/
def tpA (A : Nat → Nat) (c : Nat) : Nat := A (27 + 6 * c) * A 6 / 100
def lkA (A : Nat → Nat) (d : Nat) : Nat := A (58 + 5 * d) - ldA A d 5
def lfA (A G : Nat → Nat) (d : Nat) : Nat → Nat
  | 0 => lkA A d
  | c + 1 => if G c = d + 1 then lfA A G d c - tpA A c else lfA A G d c
def amA (A G : Nat → Nat) (c : Nat) : Nat := min (lfA A G (G c - 1) c) (tpA A c)
def wtA (A : Nat → Nat) (d : Nat) : Bool := decide (A (59 + 5 * d) = 0)
def GVa (A G : Nat → Nat) (n : Nat) : Prop := ∀ c, G c ≠ 0 → c < n ∧ A (31 + 6 * c) = 0 ∧ G c ≤ A 13 ∧ A (59 + 5 * (G c - 1)) = 0
def GdA (A G : Nat → Nat) (c : Nat) : Prop := 0 < amA A G c ∧ bA A c (A (57 + 5 * (G c - 1))) = false
def PkA (A G : Nat → Nat) : Prop := ∀ d, d < A 13 → (∀ c, c < A 9 → G c = d + 1 → GdA A G c) ∧ ((∃ c, c < A 9 ∧ G c = d + 1) → lfA A G d (A 9) = 0)
def owA (A G : Nat → Nat) (n : Nat) : Nat := sP (fun d => if wtA A d = true ∧ lfA A G d n < lkA A d then lfA A G d n else 0) (A 13)
/-- what goes into the empty ones from m on, k of them -/
def rmS (A : Nat → Nat) : Nat → Nat → Nat
  | 0, _ => 0
  | k + 1, c => (if A (30 + 6 * c) = 0 then tpA A c else 0) + rmS A k (c + 1)
def rmA (A : Nat → Nat) (c : Nat) : Nat := rmS A (A 9 - c) c
def upG (G : Nat → Nat) (n x : Nat) : Nat → Nat := fun c => if c = n then x else G c
theorem rmA_end {A : Nat → Nat} : rmA A (A 9) = 0 := by
  unfold rmA
  rw [Nat.sub_self]
  rfl
theorem rmA_s {A : Nat → Nat} {c : Nat} (h : c < A 9) : rmA A c = (if A (30 + 6 * c) = 0 then tpA A c else 0) + rmA A (c + 1) := by
  unfold rmA
  rw [show A 9 - c = (A 9 - (c + 1)) + 1 by omega, rmS]
theorem lf_congr {A G H : Nat → Nat} {d : Nat} : ∀ n, (∀ c, c < n → H c = G c) → lfA A H d n = lfA A G d n := by
  intro n
  induction n with
  | zero => intro _; rfl
  | succ n ih =>
    intro h
    rw [lfA, lfA, h n (by omega), ih (fun c hc => h c (by omega))]
theorem lf_le {A G : Nat → Nat} {d : Nat} : ∀ n k, lfA A G d (n + k) ≤ lfA A G d n := by
  intro n k
  induction k with
  | zero => exact Nat.le_refl _
  | succ k ih =>
    show lfA A G d (n + k + 1) ≤ _
    rw [lfA]
    split <;> omega
theorem lf_some {A G : Nat → Nat} {d : Nat} : ∀ n, lfA A G d n < lkA A d → ∃ c, c < n ∧ G c = d + 1 := by
  intro n
  induction n with
  | zero =>
    intro h
    exact absurd h (Nat.lt_irrefl _)
  | succ n ih =>
    intro h
    rw [lfA] at h
    by_cases z : G n = d + 1
    · exact ⟨n, by omega, z⟩
    · rw [if_neg z] at h
      obtain ⟨c, hc, e⟩ := ih h
      exact ⟨c, by omega, e⟩
theorem lf_stay {A G : Nat → Nat} {d n : Nat} (h : ∀ c, n ≤ c → G c ≠ d + 1) : ∀ k, lfA A G d (n + k) = lfA A G d n := by
  intro k
  induction k with
  | zero => rfl
  | succ k ih =>
    show lfA A G d (n + k + 1) = _
    rw [lfA, if_neg (h (n + k) (by omega)), ih]
theorem am_congr {A G H : Nat → Nat} {c : Nat} (h : ∀ i, i ≤ c → H i = G i) : amA A H c = amA A G c := by
  unfold amA
  rw [h c (Nat.le_refl _), lf_congr c (fun i hi => h i (by omega))]
theorem gd_congr {A G H : Nat → Nat} {c : Nat} (h : ∀ i, i ≤ c → H i = G i) : GdA A H c ↔ GdA A G c := by
  unfold GdA
  rw [am_congr h, h c (Nat.le_refl _)]
theorem sP_one {F H : Nat → Nat} {d t : Nat} (h1 : ∀ i, i ≠ d → F i ≤ H i) (h2 : F d ≤ H d + t) : ∀ n, sP F n ≤ sP H n + t ∧ (n ≤ d → sP F n ≤ sP H n) := by
  intro n
  induction n with
  | zero => exact ⟨Nat.zero_le _, fun _ => Nat.le_refl _⟩
  | succ n ih =>
    rw [sP, sP]
    by_cases z : n = d
    · subst z
      have := ih.2 (Nat.le_refl _)
      exact ⟨by omega, fun q => by omega⟩
    · have := h1 n z
      refine ⟨by omega, fun q => ?_⟩
      have := ih.2 (by omega)
      omega
theorem sP_congr {F H : Nat → Nat} : ∀ n, (∀ i, i < n → F i = H i) → sP F n = sP H n := by
  intro n
  induction n with
  | zero => intro _; rfl
  | succ n ih =>
    intro h
    rw [sP, sP, ih (fun i hi => h i (by omega)), h n (by omega)]
theorem sP_pos {F : Nat → Nat} : ∀ n, 0 < sP F n → ∃ i, i < n ∧ 0 < F i := by
  intro n
  induction n with
  | zero =>
    intro h
    exact absurd h (Nat.lt_irrefl _)
  | succ n ih =>
    intro h
    rw [sP] at h
    by_cases z : 0 < F n
    · exact ⟨n, by omega, z⟩
    · obtain ⟨i, hi, e⟩ := ih (by omega)
      exact ⟨i, by omega, e⟩
theorem sP_ge {F : Nat → Nat} {i : Nat} : ∀ n, i < n → F i ≤ sP F n := by
  intro n
  induction n with
  | zero => intro h; omega
  | succ n ih =>
    intro h
    rw [sP]
    by_cases z : i = n
    · rw [z]
      omega
    · have := ih (by omega)
      omega
def BadA (A G : Nat → Nat) (n : Nat) : Prop := (∃ c, c < n ∧ G c ≠ 0 ∧ ¬ GdA A G c) ∨ rmA A n < owA A G n
theorem bad_none {A G : Nat → Nat} {n : Nat} (h : BadA A G n) (hn : n < A 9) (hG : G n = 0) : BadA A G (n + 1) := by
  rcases h with ⟨c, hc, h1, h2⟩ | h
  · exact Or.inl ⟨c, by omega, h1, h2⟩
  · refine Or.inr ?_
    have e : owA A G (n + 1) = owA A G n := by
      unfold owA
      refine sP_congr _ (fun d _ => ?_)
      rw [lfA, if_neg (show ¬ G n = d + 1 by omega)]
    rw [e]
    rw [rmA_s hn] at h
    omega
theorem bad_up {A G : Nat → Nat} {n x : Nat} (h : BadA A G n) : BadA A (upG G n x) n := by
  have hu : ∀ i, i < n → upG G n x i = G i := fun i hi => if_neg (by omega)
  rcases h with ⟨c, hc, h1, h2⟩ | h
  · refine Or.inl ⟨c, hc, ?_, ?_⟩
    · rw [hu c hc]
      exact h1
    · rw [gd_congr (fun i hi => hu i (by omega))]
      exact h2
  · refine Or.inr ?_
    have e : owA A (upG G n x) n = owA A G n := by
      unfold owA
      refine sP_congr _ (fun d _ => ?_)
      rw [lf_congr n hu]
    rw [e]
    exact h
theorem bad_give {A G : Nat → Nat} {n d : Nat} (h : BadA A G n) (hn : n < A 9) (hG : G n = d + 1) (h0 : A (30 + 6 * n) = 0) : BadA A G (n + 1) := by
  rcases h with ⟨c, hc, h1, h2⟩ | h
  · exact Or.inl ⟨c, by omega, h1, h2⟩
  · refine Or.inr ?_
    rw [rmA_s hn, if_pos h0] at h
    have key : owA A G n ≤ owA A G (n + 1) + tpA A n := by
      unfold owA
      refine (sP_one (d := d) (fun i hi => ?_) ?_ (A 13)).1
      · rw [lfA, if_neg (show ¬ G n = i + 1 by omega)]
        exact Nat.le_refl _
      · rw [lfA, if_pos hG]
        by_cases z : wtA A d = true ∧ lfA A G d n < lkA A d
        · rw [if_pos z, if_pos ⟨z.1, by omega⟩]
          omega
        · rw [if_neg z]
          omega
    omega
theorem bad_end {A G : Nat → Nat} (h : BadA A G (A 9)) (hV : GVa A G (A 9)) : ¬ PkA A G := by
  intro hP
  rcases h with ⟨c, hc, h1, h2⟩ | h
  · obtain ⟨_, _, v3, _⟩ := hV c h1
    exact h2 ((hP (G c - 1) (by omega)).1 c hc (by omega))
  · rw [rmA_end] at h
    obtain ⟨d, hd, hF⟩ := sP_pos _ h
    by_cases z : wtA A d = true ∧ lfA A G d (A 9) < lkA A d
    · rw [if_pos z] at hF
      have := (hP d hd).2 (lf_some _ z.2)
      omega
    · rw [if_neg z] at hF
      omega
/-- not hopeless at the end, and all good: it pours -/
theorem pk_of {A G : Nat → Nat} (hV : GVa A G (A 9)) (hg : ∀ c, c < A 9 → G c ≠ 0 → GdA A G c) (ho : owA A G (A 9) ≤ rmA A (A 9)) : PkA A G ∧ ∀ d, d < A 13 → (∃ c, c < A 9 ∧ G c = d + 1) → lfA A G d (A 9) = 0 ∧ wtA A d = true := by
  have key : ∀ d, d < A 13 → (∃ c, c < A 9 ∧ G c = d + 1) → lfA A G d (A 9) = 0 ∧ wtA A d = true := by
    rintro d hd ⟨c, hc, e⟩
    obtain ⟨_, _, _, v4⟩ := hV c (by omega)
    rw [e, show d + 1 - 1 = d by omega] at v4
    have hw : wtA A d = true := decide_eq_true v4
    have hga := (hg c hc (by omega)).1
    unfold amA at hga
    rw [e, show d + 1 - 1 = d by omega] at hga
    have h1 : lfA A G d (c + 1) < lfA A G d c := by
      rw [lfA, if_pos e]
      omega
    have h2 := lf_le (A := A) (G := G) (d := d) 0 c
    rw [Nat.zero_add] at h2
    have h3 := lf_le (A := A) (G := G) (d := d) (c + 1) (A 9 - (c + 1))
    rw [show c + 1 + (A 9 - (c + 1)) = A 9 by omega] at h3
    have hlt : lfA A G d (A 9) < lkA A d := by
      have e0 : lfA A G d 0 = lkA A d := rfl
      omega
    rw [rmA_end] at ho
    have h4 := sP_ge (F := fun d => if wtA A d = true ∧ lfA A G d (A 9) < lkA A d then lfA A G d (A 9) else 0) (A 13) hd
    have h5 : (if wtA A d = true ∧ lfA A G d (A 9) < lkA A d then lfA A G d (A 9) else 0) = lfA A G d (A 9) := if_pos ⟨hw, hlt⟩
    have h6 : (if wtA A d = true ∧ lfA A G d (A 9) < lkA A d then lfA A G d (A 9) else 0) ≤ owA A G (A 9) := h4
    exact ⟨by omega, hw⟩
  exact ⟨fun d hd => ⟨fun c hc e => hg c hc (by omega), fun q => (key d hd q).1⟩, key⟩
/-- the row with a deal laid in -/
def layA (A G : Nat → Nat) (i : Nat) : Nat := if 27 ≤ i ∧ i < 57 ∧ G ((i - 27) / 6) ≠ 0 then (if (i - 27) % 6 = 3 then amA A G ((i - 27) / 6) else if (i - 27) % 6 = 4 then G ((i - 27) / 6) else if (i - 27) % 6 = 5 then A (57 + 5 * (G ((i - 27) / 6) - 1)) + 1 else A i) else A i
theorem lay_out {A G : Nat → Nat} {i : Nat} (h : i < 27 ∨ 57 ≤ i) : layA A G i = A i := by
  unfold layA
  rw [if_neg (by omega)]
theorem lay_c {A G : Nat → Nat} {c : Nat} (hc : c < 5) : layA A G (30 + 6 * c) = (if G c = 0 then A (30 + 6 * c) else amA A G c) ∧ layA A G (31 + 6 * c) = (if G c = 0 then A (31 + 6 * c) else G c) ∧ layA A G (32 + 6 * c) = (if G c = 0 then A (32 + 6 * c) else A (57 + 5 * (G c - 1)) + 1) := by
  unfold layA
  rw [show (30 + 6 * c - 27) / 6 = c by omega, show (31 + 6 * c - 27) / 6 = c by omega, show (32 + 6 * c - 27) / 6 = c by omega, show (30 + 6 * c - 27) % 6 = 3 by omega, show (31 + 6 * c - 27) % 6 = 4 by omega, show (32 + 6 * c - 27) % 6 = 5 by omega]
  by_cases z : G c = 0
  · rw [if_neg (show ¬ (27 ≤ 30 + 6 * c ∧ 30 + 6 * c < 57 ∧ G c ≠ 0) from fun q => q.2.2 z), if_neg (show ¬ (27 ≤ 31 + 6 * c ∧ 31 + 6 * c < 57 ∧ G c ≠ 0) from fun q => q.2.2 z), if_neg (show ¬ (27 ≤ 32 + 6 * c ∧ 32 + 6 * c < 57 ∧ G c ≠ 0) from fun q => q.2.2 z), if_pos z, if_pos z, if_pos z]
    exact ⟨rfl, rfl, rfl⟩
  · rw [if_pos (show 27 ≤ 30 + 6 * c ∧ 30 + 6 * c < 57 ∧ G c ≠ 0 from ⟨by omega, by omega, z⟩), if_pos (show 27 ≤ 31 + 6 * c ∧ 31 + 6 * c < 57 ∧ G c ≠ 0 from ⟨by omega, by omega, z⟩), if_pos (show 27 ≤ 32 + 6 * c ∧ 32 + 6 * c < 57 ∧ G c ≠ 0 from ⟨by omega, by omega, z⟩), if_neg z, if_neg z, if_neg z, if_pos rfl, if_neg (by omega), if_pos rfl, if_neg (by omega), if_neg (by omega), if_pos rfl]
    exact ⟨rfl, rfl, rfl⟩
theorem ld_lay {A G : Nat → Nat} {d N : Nat} (hV : GVa A G N) : ∀ n, n ≤ 5 → ldA (layA A G) d n = ldA A d n + (lkA A d - lfA A G d n) := by
  intro n
  induction n with
  | zero =>
    intro _
    show 0 = 0 + (lkA A d - lkA A d)
    omega
  | succ n ih =>
    intro hn
    have h1 := lf_le (A := A) (G := G) (d := d) 0 n
    rw [Nat.zero_add] at h1
    have e0 : lfA A G d 0 = lkA A d := rfl
    obtain ⟨l0, l1, _⟩ := lay_c (A := A) (G := G) (c := n) (by omega)
    rw [ldA, ldA, ih (by omega), l0, l1, lfA]
    by_cases z : G n = 0
    · rw [if_pos z, if_pos z, if_neg (show ¬ G n = d + 1 by omega)]
      omega
    · obtain ⟨_, v2, _, _⟩ := hV n z
      rw [if_neg z, if_neg z, v2, if_neg (show ¬ 0 = d + 1 by omega)]
      by_cases y : G n = d + 1
      · rw [if_pos y, if_pos y]
        unfold amA
        rw [y, show d + 1 - 1 = d by omega]
        omega
      · rw [if_neg y, if_neg y]
        omega
theorem lq_lay {A G : Nat → Nat} {c : Nat} (hc : c < 5) : lqA (layA A G) c = if G c = 0 then lqA A c else A (57 + 5 * (G c - 1)) := by
  obtain ⟨_, l1, _⟩ := lay_c (A := A) (G := G) hc
  unfold lqA
  rw [l1]
  by_cases z : G c = 0
  · rw [if_pos z, if_pos z, lay_out (Or.inr (by omega))]
  · rw [if_neg z, if_neg z, if_neg z, lay_out (Or.inr (by omega))]
