/-! the whole state: the desk's and the model's, by one row A -/
def Wf (A : Nat → Nat) : Prop :=
  RgA A ∧ (∀ c, A 9 ≤ c → c < 5 → A (30 + 6 * c) = 0 ∧ A (31 + 6 * c) = 0) ∧
  (∀ c, c < A 9 → A (30 + 6 * c) ≤ 999 ∧ (A (30 + 6 * c) = 0 ↔ A (31 + 6 * c) = 0) ∧ A (31 + 6 * c) ≤ A 13 ∧ (A (31 + 6 * c) ≠ 0 → A (32 + 6 * c) = lqA A c + 1)) ∧
  (∀ d, d < A 13 → (A (59 + 5 * d) = 0 ∧ ldA A d 5 < A (58 + 5 * d)) ∨ (A (59 + 5 * d) = 1 ∧ ldA A d 5 = A (58 + 5 * d)) ∨ ((A (59 + 5 * d) = 2 ∨ A (59 + 5 * d) = 3) ∧ ldA A d 5 = 0)) ∧
  (∀ d, d < A 13 → (A (59 + 5 * d) = 2 → A (60 + 5 * d) ≤ A (58 + 5 * d) ∧ A (61 + 5 * d) = A (58 + 5 * d) - A (60 + 5 * d)) ∧ (A (59 + 5 * d) ≠ 2 → A (60 + 5 * d) = 0 ∧ A (61 + 5 * d) = 0)) ∧
  cnt (fun d => decide (A (59 + 5 * d) = 0)) (A 13) 0 ≤ 4
def RSt (S : HS) (s : Nat) (A : Nat → Nat) : Prop := gf S s 1 = nI (A 13) ∧ gf S s 4 = nI (A 14) ∧ RCa S (s + 1) A ∧ ∀ d, d < A 13 → (ga S (s + 6)).getD d 0 = nI (if A (59 + 5 * d) = 1 then 0 else A (59 + 5 * d)) ∧ (ga S (s + 7)).getD d 0 = nI (A (60 + 5 * d))
def FS (S M : HS) (t : Nat) (A : Nat → Nat) : Prop := LnD S ∧ LnM M ∧ gr S 0 4 = .ref t ∧ isT t ∧ RDt S t A ∧ RSt S 22 A ∧ RMt M 139 A ∧ Wf A
theorem Wf.o20 {A : Nat → Nat} (h : Wf A) {c : Nat} (hc : c < 5) : A (31 + 6 * c) ≤ 20 := by
  have h13 := h.1.2.2.2.2.1
  by_cases z : c < A 9
  · have := (h.2.2.1 c z).2.2.1
    omega
  · have := (h.2.1 c (by omega) hc).2
    omega
theorem ldD_ {S : HS} {A : Nat → Nat} {d : Nat} (hL : LnD S) (hC : RCa S 23 A) (hW : Wf A) (hd : d < 20) : ldD 23 (nI d) S = nI (ldA A d 5) := by
  have e := q_dloaded (b := 23) hL (by unfold isC; decide) hC (fun c hc => hW.o20 hc) hd
  rw [q_loaded (b := 23) (nD24 hL) (nD25 hL)] at e
  exact Option.some.inj e
theorem how_eq {S M : HS} {t d : Nat} {A : Nat → Nat} (h : FS S M t A) (hd : d < A 13) : howD t d S = nI (A (59 + 5 * d)) := by
  obtain ⟨hL, _, _, ht, hT, ⟨_, _, hC, hF⟩, _, hW⟩ := h
  have h13 := hW.1.2.2.2.2.1
  have hq : (ga S (t + 8)).getD d 0 = nI (A (58 + 5 * d)) := (hT.2.2.2.2.2.2 d hd).2
  have hb := (hW.1.2.2.2.2.2.2.2.2.2.2.2 d hd).2.2
  unfold howD
  rw [ldD_ hL hC hW (by omega), hq, show (ga S 28).getD d 0 = nI (if A (59 + 5 * d) = 1 then 0 else A (59 + 5 * d)) from (hF d hd).1]
  rcases hW.2.2.2.1 d hd with ⟨a, b⟩ | ⟨a, b⟩ | ⟨a, b⟩
  · rw [a, if_neg (show ¬ (0 : Nat) = 1 by omega), if_pos (show nI 0 = 0 from rfl), if_neg (nI_ge b (by omega))]
    rfl
  · rw [a, if_pos (show (1 : Nat) = 1 from rfl), if_pos (show nI 0 = 0 from rfl), b, if_pos (nI_le (Nat.le_refl _) (by omega))]
    rfl
  · rcases a with a | a
    · rw [a, if_neg (show ¬ (2 : Nat) = 1 by omega), if_neg (show ¬ nI 2 = 0 by decide)]
    · rw [a, if_neg (show ¬ (3 : Nat) = 1 by omega), if_neg (show ¬ nI 3 = 0 by decide)]
