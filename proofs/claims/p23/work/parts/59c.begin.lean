/-! a text that is taken begins the whole state -/
theorem ld_0 {A : Nat → Nat} {d : Nat} (h : ∀ c, c < 5 → A (30 + 6 * c) = 0 ∧ A (31 + 6 * c) = 0) : ∀ n, n ≤ 5 → ldA A d n = 0 := by
  intro n
  induction n with
  | zero => intro _; rfl
  | succ n ih =>
    intro hn
    rw [ldA, ih (by omega), if_neg (by rw [(h n (by omega)).2]; omega)]
theorem fs_new {S M : HS} {A : Nat → Nat} {t u : Nat} (hL : LnD S) (hLM : LnM M) (h : NewT S M A t u) : FS S M t A := by
  obtain ⟨ht, _, hr, _, hT, hR, h4, ⟨z1, z2, z3, _⟩, hc, hl, hd, hf, hw, _, hM, _⟩ := h
  refine ⟨hL, hLM, hr, ht, hT, ⟨hd, ?_, fun c hc5 => ⟨?_, ?_, ?_, ?_⟩, fun d hd2 => ⟨?_, ?_⟩⟩, hM, hR, fun c _ hc5 => z2 c hc5, fun c hc9 => ?_, fun d hd2 => ?_, fun d hd2 => ⟨fun q => ?_, fun _ => ?_⟩, ?_⟩
  · rw [hw, z1]
    rfl
  · rw [(z2 c hc5).1]
    exact (hc c hc5).1
  · rw [(z2 c hc5).2]
    exact (hc c hc5).2.2
  · exact hl c hc5
  · rw [(z2 c hc5).1, show nI 0 = 0 from rfl, Int32.zero_mul]
    exact (hc c hc5).2.1
  · rw [(z3 d (by omega)).1]
    exact (hf d hd2).1
  · rw [(z3 d (by omega)).2.1]
    exact (hf d hd2).2
  · have h5 := hR.1
    obtain ⟨a, b⟩ := z2 c (by omega)
    rw [a, b]
    exact ⟨by omega, Iff.rfl, by omega, fun q => absurd rfl q⟩
  · refine Or.inl ⟨(z3 d (by omega)).1, ?_⟩
    rw [ld_0 z2 5 (by omega)]
    exact (hR.2.2.2.2.2.2.2.2.2.2.2 d hd2).2.1
  · rw [(z3 d (by omega)).1] at q
    omega
  · exact (z3 d (by omega)).2
  · exact Nat.le_trans (cnt_le _ _ _) h4
