/-! X8_load -/
theorem fs_X8_load_L36 {S0 : HS} : ∀ (K : Nat) (v1 : Int32) (S : HS), Fr wD S0 S → Pm (fun r => Fr wD S0 r.2) (s_X8_load_L36 K v1 S) := by
  intro K
  induction K with
  | zero =>
    intros
    exact pm_none
  | succ K ih =>
    intro v1 S f0
    rw [s_X8_load_L36]
    refine pm_bind (fun a4 _ => ?_)
    refine pm_ite (fun _ => ?_) (fun _ => ?_)
    · exact pm_some f0
    · refine pm_bind (fun a5 _ => ?_)
      refine pm_ite (fun _ => ?_) (fun _ => ?_)
      · exact ih _ _ f0
      · refine pm_bind (fun a6 _ => ?_)
        refine pm_bind (fun a7 _ => ?_)
        refine pm_bind (fun q8 hq8 => ?_)
        have fq8 := fr_tr f0 (fs_X8_puts fr_rf _ hq8) (fun _ _ _ => trivial)
        exact ih _ _ fq8
theorem fs_X8_load {S0 : HS} {S : HS} (f0 : Fr wD S0 S) : Pm (fun r => Fr wD S0 r.2) (s_X8_load S) := by
  unfold s_X8_load
  refine pm_bind (fun S1 hS1 => ?_)
  have fS1 := fr_pf f0 trivial hS1
  refine pm_bind (fun q2 hq2 => ?_)
  have fq2 := fr_tr fS1 (fs_X8_laysPlan fr_rf _ hq2) (fun _ _ _ => trivial)
  refine pm_ite (fun _ => ?_) (fun _ => ?_)
  · refine pm_ite (fun _ => ?_) (fun _ => ?_)
    · refine pm_bind (fun q3 hq3 => ?_)
      have fq3 := fr_tr fq2 (fs_X8_snap fr_rf _ hq3) (fun _ _ _ => trivial)
      exact fs_X8_load_L36 _ _ _ fq3
    · exact pm_some fq2
  · exact pm_some fq2
/-! X8_goes -/
theorem fs_X8_goes {S0 : HS} {v1 : Int32} {S : HS} (f0 : Fr w9 S0 S) : Pm (fun r => Fr w9 S0 r) (s_X8_goes v1 S) := by
  unfold s_X8_goes
  refine pm_bind (fun S1 hS1 => ?_)
  have fS1 := fr_wa f0 (by unfold w9; omega) hS1
  refine pm_bind (fun S2 hS2 => ?_)
  have fS2 := fr_wa fS1 (by unfold w9; omega) hS2
  exact pm_some fS2
/-! X8_unload -/
theorem fs_X8_unload_L70 {S0 : HS} {v1 : Int32} {v2 : Int32} {v3 : Int32} : ∀ (K : Nat) (v4 : Int32) (S : HS), Fr wD S0 S → Pm (fun r => Fr wD S0 r.2) (s_X8_unload_L70 v1 v2 v3 K v4 S) := by
  intro K
  induction K with
  | zero =>
    intros
    exact pm_none
  | succ K ih =>
    intro v4 S f0
    rw [s_X8_unload_L70]
    refine pm_bind (fun a10 _ => ?_)
    refine pm_ite (fun _ => ?_) (fun _ => ?_)
    · refine pm_bind (fun S11 hS11 => ?_)
      have fS11 := fr_wa f0 trivial hS11
      refine pm_bind (fun S12 hS12 => ?_)
      have fS12 := fr_wa fS11 trivial hS12
      refine pm_bind (fun S13 hS13 => ?_)
      have fS13 := fr_wa fS12 trivial hS13
      exact pm_some fS13
    · refine pm_bind (fun q14 _ => ?_)
      refine pm_ite (fun _ => ?_) (fun _ => ?_)
      · exact ih _ _ f0
      · refine pm_bind (fun q15 hq15 => ?_)
        have fq15 := fr_tr f0 (fs_X8_goes fr_rf _ hq15) (fun _ _ _ => trivial)
        exact ih _ _ fq15
theorem fs_X8_unload {S0 : HS} {v1 : Int32} {v2 : Int32} {S : HS} (f0 : Fr wD S0 S) : Pm (fun r => Fr wD S0 r.2) (s_X8_unload v1 v2 S) := by
  unfold s_X8_unload
  refine pm_bind (fun S1 hS1 => ?_)
  have fS1 := fr_pf f0 trivial hS1
  refine pm_bind (fun q2 _ => ?_)
  refine pm_ite (fun _ => ?_) (fun _ => ?_)
  · exact pm_some fS1
  · refine pm_bind (fun q3 _ => ?_)
    refine pm_ite (fun _ => ?_) (fun _ => ?_)
    · exact pm_some fS1
    · refine pm_bind (fun q4 _ => ?_)
      refine pm_bind (fun q5 _ => ?_)
      refine pm_ite (fun _ => ?_) (fun _ => ?_)
      · refine pm_bind (fun q6 hq6 => ?_)
        have fq6 := fr_tr fS1 (fs_X8_laysNow fr_rf _ hq6) (fun _ _ _ => trivial)
        refine pm_bind (fun q7 _ => ?_)
        refine pm_ite (fun _ => ?_) (fun _ => ?_)
        · refine pm_bind (fun q8 hq8 => ?_)
          have fq8 := fr_tr fq6 (fs_X8_snap fr_rf _ hq8) (fun _ _ _ => trivial)
          refine pm_bind (fun q9 _ => ?_)
          exact fs_X8_unload_L70 _ _ _ fq8
        · exact pm_some fq6
      · exact pm_some fS1
/-! X8_empty -/
theorem fs_X8_empty_J55 {S0 : HS} {v1 : Int32} {v2 : Int32} {S : HS} (f0 : Fr wD S0 S) : Pm (fun r => Fr wD S0 r.2) (s_X8_empty_J55 v1 v2 S) := by
  unfold s_X8_empty_J55
  refine pm_bind (fun q6 hq6 => ?_)
  have fq6 := fr_tr f0 (fs_X8_snap fr_rf _ hq6) (fun _ _ _ => trivial)
  refine pm_bind (fun q7 _ => ?_)
  refine pm_bind (fun q8 hq8 => ?_)
  have fq8 := fr_tr fq6 (fs_X8_goes fr_rf _ hq8) (fun _ _ _ => trivial)
  refine pm_bind (fun S9 hS9 => ?_)
  have fS9 := fr_wa fq8 trivial hS9
  exact pm_some fS9
theorem fs_X8_empty {S0 : HS} {v1 : Int32} {S : HS} (f0 : Fr wD S0 S) : Pm (fun r => Fr wD S0 r.2) (s_X8_empty v1 S) := by
  unfold s_X8_empty
  refine pm_bind (fun S1 hS1 => ?_)
  have fS1 := fr_pf f0 trivial hS1
  refine pm_bind (fun q2 _ => ?_)
  refine pm_ite (fun _ => ?_) (fun _ => ?_)
  · exact pm_some fS1
  · refine pm_bind (fun q3 _ => ?_)
    refine pm_ite (fun _ => ?_) (fun _ => ?_)
    · refine pm_bind (fun q4 _ => ?_)
      refine pm_bind (fun q5 _ => ?_)
      refine pm_ite (fun _ => ?_) (fun _ => ?_)
      · exact fs_X8_empty_J55 fS1
      · refine pm_bind (fun q10 _ => ?_)
        refine pm_ite (fun _ => ?_) (fun _ => ?_)
        · exact fs_X8_empty_J55 fS1
        · exact pm_some fS1
    · exact pm_some fS1
/-! X8_wash -/
theorem fs_X8_wash {S0 : HS} {v1 : Int32} {S : HS} (f0 : Fr wD S0 S) : Pm (fun r => Fr wD S0 r.2) (s_X8_wash v1 S) := by
  unfold s_X8_wash
  refine pm_bind (fun S1 hS1 => ?_)
  have fS1 := fr_pf f0 trivial hS1
  refine pm_bind (fun q2 _ => ?_)
  refine pm_ite (fun _ => ?_) (fun _ => ?_)
  · exact pm_some fS1
  · refine pm_bind (fun q3 _ => ?_)
    refine pm_ite (fun _ => ?_) (fun _ => ?_)
    · exact pm_some fS1
    · refine pm_bind (fun q4 _ => ?_)
      refine pm_ite (fun _ => ?_) (fun _ => ?_)
      · refine pm_bind (fun q5 hq5 => ?_)
        have fq5 := fr_tr fS1 (fs_X8_snap fr_rf _ hq5) (fun _ _ _ => trivial)
        refine pm_bind (fun S6 hS6 => ?_)
        have fS6 := fr_wa fq5 trivial hS6
        refine pm_bind (fun a7 _ => ?_)
        refine pm_bind (fun S8 hS8 => ?_)
        have fS8 := fr_wa fS6 trivial hS8
        exact pm_some fS8
      · exact pm_some fS1
/-! X8_undo -/
theorem fs_X8_undo_L26 {S0 : HS} : ∀ (K : Nat) (v1 : Int32) (S : HS), Fr wD S0 S → Pm (fun r => Fr wD S0 r.2) (s_X8_undo_L26 K v1 S) := by
  intro K
  induction K with
  | zero =>
    intros
    exact pm_none
  | succ K ih =>
    intro v1 S f0
    rw [s_X8_undo_L26]
    refine pm_ite (fun _ => ?_) (fun _ => ?_)
    · exact pm_some f0
    · refine pm_bind (fun a3 _ => ?_)
      refine pm_bind (fun S4 hS4 => ?_)
      have fS4 := fr_wa f0 trivial hS4
      exact ih _ _ fS4
theorem fs_X8_undo {S0 : HS} {S : HS} (f0 : Fr wD S0 S) : Pm (fun r => Fr wD S0 r.2) (s_X8_undo S) := by
  unfold s_X8_undo
  refine pm_bind (fun S1 hS1 => ?_)
  have fS1 := fr_pf f0 trivial hS1
  refine pm_ite (fun _ => ?_) (fun _ => ?_)
  · refine pm_bind (fun S2 hS2 => ?_)
    have fS2 := fr_pf fS1 trivial hS2
    exact fs_X8_undo_L26 _ _ _ fS2
  · exact pm_some fS1
