/-! X7_wash -/
theorem fs_X7_wash {S0 : HS} {v1 : Int32} {S : HS} (f0 : Fr wD S0 S) : Pm (fun r => Fr wD S0 r.2) (s_X7_wash v1 S) := by
  unfold s_X7_wash
  refine pm_bind (fun t1 ht1 => ?_)
  have it1 := tl_is ht1
  refine pm_bind (fun q2 _ => ?_)
  refine pm_ite (fun _ => ?_) (fun _ => ?_)
  · exact pm_some f0
  · refine pm_bind (fun a3 _ => ?_)
    refine pm_ite (fun _ => ?_) (fun _ => ?_)
    · exact pm_some f0
    · refine pm_bind (fun a4 _ => ?_)
      refine pm_ite (fun _ => ?_) (fun _ => ?_)
      · refine pm_bind (fun q5 hq5 => ?_)
        have fq5 := fr_tr f0 (fs_X1_keep fr_rf _ hq5) (fun _ _ _ => trivial)
        refine pm_bind (fun S6 hS6 => ?_)
        have fS6 := fr_wa fq5 trivial hS6
        refine pm_bind (fun S7 hS7 => ?_)
        have fS7 := fr_pf fS6 trivial hS7
        exact pm_some fS7
      · exact pm_some f0
/-! X1_goBack -/
theorem fs_X1_goBack_J28 {S0 : HS} {x1 : Int32} {S : HS} (f0 : Fr wB S0 S) : Pm (fun r => Fr wB S0 r.2) (s_X1_goBack_J28 x1 S) := by
  unfold s_X1_goBack_J28
  refine pm_bind (fun S1 hS1 => ?_)
  have fS1 := fr_pf f0 (by unfold wB; omega) hS1
  refine pm_bind (fun S2 hS2 => ?_)
  have fS2 := fr_pf fS1 (by unfold wB; omega) hS2
  refine pm_bind (fun s3 hs3 => ?_)
  have is3 := rw_is hs3
  refine pm_bind (fun q4 hq4 => ?_)
  have fq4 := fr_tr fS2 (fs_X5_copyFrom fr_rf _ hq4) (fun k j => by unfold wS wB; omega)
  exact pm_some fq4
theorem fs_X1_goBack {S0 : HS} {S : HS} (f0 : Fr wB S0 S) : Pm (fun r => Fr wB S0 r.2) (s_X1_goBack S) := by
  unfold s_X1_goBack
  refine pm_ite (fun _ => ?_) (fun _ => ?_)
  · refine pm_ite (fun _ => ?_) (fun _ => ?_)
    · exact fs_X1_goBack_J28 f0
    · exact fs_X1_goBack_J28 f0
  · exact pm_some f0
/-! X7_undo -/
theorem fs_X7_undo {S0 : HS} {S : HS} (f0 : Fr wD S0 S) : Pm (fun r => Fr wD S0 r.2) (s_X7_undo S) := by
  unfold s_X7_undo
  refine pm_bind (fun q1 hq1 => ?_)
  have fq1 := fr_tr f0 (fs_X1_goBack fr_rf _ hq1) (fun _ _ _ => trivial)
  refine pm_ite (fun _ => ?_) (fun _ => ?_)
  · exact pm_some fq1
  · exact pm_some fq1
/-! X8_lays -/
theorem fs_X8_lays_L3 {S0 : HS} {v1 : Int32} : ∀ (K : Nat) (v2 : Int32) (S : HS), Fr wL S0 S → Pm (fun r => Fr wL S0 r) (s_X8_lays_L3 v1 K v2 S) := by
  intro K
  induction K with
  | zero =>
    intros
    exact pm_none
  | succ K ih =>
    intro v2 S f0
    rw [s_X8_lays_L3]
    refine pm_ite (fun _ => ?_) (fun _ => ?_)
    · exact pm_some f0
    · refine pm_bind (fun S1 hS1 => ?_)
      have fS1 := fr_wa f0 (by unfold wL; omega) hS1
      refine pm_bind (fun S2 hS2 => ?_)
      have fS2 := fr_pf fS1 (by unfold wL; omega) hS2
      exact ih _ _ fS2
theorem fs_X8_lays {S0 : HS} {v1 : Int32} {S : HS} (f0 : Fr wL S0 S) : Pm (fun r => Fr wL S0 r) (s_X8_lays v1 S) := by
  unfold s_X8_lays
  exact fs_X8_lays_L3 _ _ _ f0
/-! X8_feed -/
theorem fs_X8_feed {S0 : HS} {v1 : Int32} {v2 : Int32} {v3 : Int32} {v4 : Int32} {v5 : Int32} {S : HS} (f0 : Fr wD S0 S) : Pm (fun r => Fr wD S0 r.2) (s_X8_feed v1 v2 v3 v4 v5 S) := by
  unfold s_X8_feed
  refine pm_bind (fun S1 hS1 => ?_)
  have fS1 := fr_pf f0 trivial hS1
  refine pm_ite (fun _ => ?_) (fun _ => ?_)
  · refine pm_bind (fun q2 hq2 => ?_)
    have fq2 := fr_tr fS1 (fs_X8_lays fr_rf _ hq2) (fun _ _ _ => trivial)
    refine pm_bind (fun q3 hq3 => ?_)
    have fq3 := fr_tr fq2 (fs_X8_lays fr_rf _ hq3) (fun _ _ _ => trivial)
    refine pm_bind (fun q4 hq4 => ?_)
    have fq4 := fr_tr fq3 (fs_X8_lays fr_rf _ hq4) (fun _ _ _ => trivial)
    refine pm_bind (fun q5 hq5 => ?_)
    have fq5 := fr_tr fq4 (fs_X8_lays fr_rf _ hq5) (fun _ _ _ => trivial)
    refine pm_bind (fun q6 hq6 => ?_)
    have fq6 := fr_tr fq5 (fs_X8_lays fr_rf _ hq6) (fun _ _ _ => trivial)
    exact pm_some fq6
  · exact pm_some fS1
/-! X8_end -/
theorem fs_X8_end {S0 : HS} {v1 : Int32} {S : HS} (f0 : Fr wD S0 S) : Pm (fun r => Fr wD S0 r.2) (s_X8_end v1 S) := by
  unfold s_X8_end
  refine pm_bind (fun S1 hS1 => ?_)
  have fS1 := fr_pf f0 trivial hS1
  refine pm_ite (fun _ => ?_) (fun _ => ?_)
  · exact pm_some fS1
  · refine pm_ite (fun _ => ?_) (fun _ => ?_)
    · refine pm_bind (fun S2 hS2 => ?_)
      have fS2 := fr_pf fS1 trivial hS2
      exact pm_some fS2
    · exact pm_some fS1
/-! X8_go -/
theorem fs_X8_go_J269 {S0 : HS} {rc177 : Int32 → HS → Option HS} {v2 : Int32} {v3 : Int32} {v4 : Int32} {S : HS} (hrc177 : ∀ (v3 : Int32) (S : HS), Fr wg S0 S → Pm (fun r => Fr wg S0 r) (rc177 v3 S)) (f0 : Fr wg S0 S) : Pm (fun r => Fr wg S0 r) (s_X8_go_J269 rc177 v2 v3 v4 S) := by
  unfold s_X8_go_J269
  refine pm_ite (fun _ => ?_) (fun _ => ?_)
  · refine pm_bind (fun S10 hS10 => ?_)
    have fS10 := fr_pf f0 (by unfold wg; omega) hS10
    exact hrc177 _ _ fS10
  · refine pm_bind (fun S11 hS11 => ?_)
    have fS11 := fr_pf f0 (by unfold wg; omega) hS11
    refine pm_bind (fun S12 hS12 => ?_)
    have fS12 := fr_pf fS11 (by unfold wg; omega) hS12
    exact hrc177 _ _ fS12
theorem fs_X8_go_J234 {S0 : HS} {rc177 : Int32 → HS → Option HS} {v2 : Int32} {v4 : Int32} {x0 : Int32} {S : HS} (hrc177 : ∀ (v3 : Int32) (S : HS), Fr wg S0 S → Pm (fun r => Fr wg S0 r) (rc177 v3 S)) (f0 : Fr wg S0 S) : Pm (fun r => Fr wg S0 r) (s_X8_go_J234 rc177 v2 v4 x0 S) := by
  unfold s_X8_go_J234
  refine pm_ite (fun _ => ?_) (fun _ => ?_)
  · exact fs_X8_go_J269 hrc177 f0
  · refine pm_bind (fun S13 hS13 => ?_)
    have fS13 := fr_pl f0 (by unfold wg; omega) hS13
    exact fs_X8_go_J269 hrc177 fS13
theorem fs_X8_go_J233 {S0 : HS} {rc177 : Int32 → HS → Option HS} {v2 : Int32} {v4 : Int32} {S : HS} (hrc177 : ∀ (v3 : Int32) (S : HS), Fr wg S0 S → Pm (fun r => Fr wg S0 r) (rc177 v3 S)) (f0 : Fr wg S0 S) : Pm (fun r => Fr wg S0 r) (s_X8_go_J233 rc177 v2 v4 S) := by
  unfold s_X8_go_J233
  exact fs_X8_go_J234 hrc177 f0
theorem fs_X8_go_J205 {S0 : HS} {rc177 : Int32 → HS → Option HS} {v2 : Int32} {v3 : Int32} {S : HS} (hrc177 : ∀ (v3 : Int32) (S : HS), Fr wg S0 S → Pm (fun r => Fr wg S0 r) (rc177 v3 S)) (f0 : Fr wg S0 S) : Pm (fun r => Fr wg S0 r) (s_X8_go_J205 rc177 v2 v3 S) := by
  unfold s_X8_go_J205
  refine pm_bind (fun a9 _ => ?_)
  refine pm_ite (fun _ => ?_) (fun _ => ?_)
  · exact fs_X8_go_J233 hrc177 f0
  · refine pm_bind (fun q14 _ => ?_)
    refine pm_ite (fun _ => ?_) (fun _ => ?_)
    · exact fs_X8_go_J233 hrc177 f0
    · exact fs_X8_go_J234 hrc177 f0
theorem fs_X8_go_L177 {S0 : HS} {v2 : Int32} : ∀ (K : Nat) (v3 : Int32) (S : HS), Fr wg S0 S → Pm (fun r => Fr wg S0 r) (s_X8_go_L177 v2 K v3 S) := by
  intro K
  induction K with
  | zero =>
    intros
    exact pm_none
  | succ K ih =>
    intro v3 S f0
    rw [s_X8_go_L177]
    refine pm_bind (fun q7 _ => ?_)
    refine pm_bind (fun q8 _ => ?_)
    refine pm_ite (fun _ => ?_) (fun _ => ?_)
    · exact fs_X8_go_J205 ih f0
    · refine pm_bind (fun q15 _ => ?_)
      refine pm_bind (fun q16 _ => ?_)
      refine pm_ite (fun _ => ?_) (fun _ => ?_)
      · refine pm_ite (fun _ => ?_) (fun _ => ?_)
        · refine pm_bind (fun S17 hS17 => ?_)
          have fS17 := fr_pf f0 (by unfold wg; omega) hS17
          exact pm_some fS17
        · refine pm_ite (fun _ => ?_) (fun _ => ?_)
          · refine pm_ite (fun _ => ?_) (fun _ => ?_)
            · refine pm_bind (fun S18 hS18 => ?_)
              have fS18 := fr_pf f0 (by unfold wg; omega) hS18
              exact pm_some fS18
            · refine pm_bind (fun S19 hS19 => ?_)
              have fS19 := fr_pf f0 (by unfold wg; omega) hS19
              exact pm_some fS19
          · refine pm_ite (fun _ => ?_) (fun _ => ?_)
            · refine pm_ite (fun _ => ?_) (fun _ => ?_)
              · refine pm_bind (fun S20 hS20 => ?_)
                have fS20 := fr_pf f0 (by unfold wg; omega) hS20
                exact pm_some fS20
              · refine pm_bind (fun S21 hS21 => ?_)
                have fS21 := fr_pf f0 (by unfold wg; omega) hS21
                exact pm_some fS21
            · refine pm_bind (fun S22 hS22 => ?_)
              have fS22 := fr_pf f0 (by unfold wg; omega) hS22
              exact pm_some fS22
      · exact fs_X8_go_J205 ih f0
theorem fs_X8_go_J160 {S0 : HS} {v1 : Int32} {S : HS} (f0 : Fr wg S0 S) : Pm (fun r => Fr wg S0 r) (s_X8_go_J160 v1 S) := by
  unfold s_X8_go_J160
  refine pm_bind (fun q4 _ => ?_)
  refine pm_bind (fun S5 hS5 => ?_)
  have fS5 := fr_pl f0 (by unfold wg; omega) hS5
  refine pm_bind (fun S6 hS6 => ?_)
  have fS6 := fr_pf fS5 (by unfold wg; omega) hS6
  exact fs_X8_go_L177 _ _ _ fS6
theorem fs_X8_go_J93 {S0 : HS} {S : HS} (f0 : Fr wg S0 S) : Pm (fun r => Fr wg S0 r) (s_X8_go_J93 S) := by
  unfold s_X8_go_J93
  refine pm_ite (fun _ => ?_) (fun _ => ?_)
  · refine pm_bind (fun a2 _ => ?_)
    refine pm_bind (fun q3 _ => ?_)
    refine pm_ite (fun _ => ?_) (fun _ => ?_)
    · exact fs_X8_go_J160 f0
    · refine pm_bind (fun q23 _ => ?_)
      refine pm_ite (fun _ => ?_) (fun _ => ?_)
      · exact fs_X8_go_J160 f0
      · refine pm_ite (fun _ => ?_) (fun _ => ?_)
        · refine pm_bind (fun S24 hS24 => ?_)
          have fS24 := fr_pf f0 (by unfold wg; omega) hS24
          refine pm_bind (fun S25 hS25 => ?_)
          have fS25 := fr_pf fS24 (by unfold wg; omega) hS25
          exact pm_some fS25
        · refine pm_bind (fun S26 hS26 => ?_)
          have fS26 := fr_pf f0 (by unfold wg; omega) hS26
          refine pm_bind (fun S27 hS27 => ?_)
          have fS27 := fr_pf fS26 (by unfold wg; omega) hS27
          exact pm_some fS27
  · refine pm_bind (fun S28 hS28 => ?_)
    have fS28 := fr_pf f0 (by unfold wg; omega) hS28
    exact pm_some fS28
theorem fs_X8_go_J52 {S0 : HS} {S : HS} (f0 : Fr wg S0 S) : Pm (fun r => Fr wg S0 r) (s_X8_go_J52 S) := by
  unfold s_X8_go_J52
  refine pm_bind (fun S1 hS1 => ?_)
  have fS1 := fr_pf f0 (by unfold wg; omega) hS1
  refine pm_ite (fun _ => ?_) (fun _ => ?_)
  · exact fs_X8_go_J93 fS1
  · refine pm_ite (fun _ => ?_) (fun _ => ?_)
    · exact fs_X8_go_J93 fS1
    · refine pm_bind (fun S29 hS29 => ?_)
      have fS29 := fr_pf fS1 (by unfold wg; omega) hS29
      refine pm_bind (fun S30 hS30 => ?_)
      have fS30 := fr_pf fS29 (by unfold wg; omega) hS30
      exact pm_some fS30
theorem fs_X8_go_L0 {S0 : HS} : ∀ (K : Nat) (S : HS), Fr wg S0 S → Pm (fun r => Fr wg S0 r) (s_X8_go_L0 K S) := by
  intro K
  induction K with
  | zero =>
    intros
    exact pm_none
  | succ K ih =>
    intro S f0
    rw [s_X8_go_L0]
    refine pm_ite (fun _ => ?_) (fun _ => ?_)
    · exact fs_X8_go_J52 f0
    · refine pm_bind (fun a31 _ => ?_)
      refine pm_ite (fun _ => ?_) (fun _ => ?_)
      · refine pm_bind (fun S32 hS32 => ?_)
        have fS32 := fr_pf f0 (by unfold wg; omega) hS32
        exact ih _ fS32
      · refine pm_bind (fun a33 _ => ?_)
        refine pm_ite (fun _ => ?_) (fun _ => ?_)
        · exact fs_X8_go_J52 f0
        · refine pm_bind (fun S34 hS34 => ?_)
          have fS34 := fr_pf f0 (by unfold wg; omega) hS34
          exact ih _ fS34
theorem fs_X8_go {S0 : HS} {S : HS} (f0 : Fr wg S0 S) : Pm (fun r => Fr wg S0 r) (s_X8_go S) := by
  unfold s_X8_go
  exact fs_X8_go_L0 _ _ f0
/-! X8_bad -/
theorem fs_X8_bad {S0 : HS} {v1 : Int32} {S : HS} (f0 : Fr wG S0 S) : Pm (fun r => Fr wG S0 r.2) (s_X8_bad v1 S) := by
  unfold s_X8_bad
  refine pm_ite (fun _ => ?_) (fun _ => ?_)
  · refine pm_bind (fun S1 hS1 => ?_)
    have fS1 := fr_pf f0 (by unfold wG; omega) hS1
    refine pm_bind (fun S2 hS2 => ?_)
    have fS2 := fr_pf fS1 (by unfold wG; omega) hS2
    exact pm_some fS2
  · refine pm_bind (fun S3 hS3 => ?_)
    have fS3 := fr_pf f0 (by unfold wG; omega) hS3
    refine pm_bind (fun S4 hS4 => ?_)
    have fS4 := fr_pf fS3 (by unfold wG; omega) hS4
    exact pm_some fS4
/-! X8_told -/
theorem fs_X8_told {S0 : HS} {v1 : Int32} {v2 : Int32} {v3 : Int32} {S : HS} (f0 : Fr wG S0 S) : Pm (fun r => Fr wG S0 r.2) (s_X8_told v1 v2 v3 S) := by
  unfold s_X8_told
  refine pm_ite (fun _ => ?_) (fun _ => ?_)
  · refine pm_bind (fun q1 _ => ?_)
    refine pm_ite (fun _ => ?_) (fun _ => ?_)
    · refine pm_bind (fun S2 hS2 => ?_)
      have fS2 := fr_wa f0 (by unfold wG; omega) hS2
      refine pm_bind (fun q3 hq3 => ?_)
      have fq3 := fr_tr fS2 (fs_X8_go fr_rf _ hq3) (fun k j => by unfold wg wG; omega)
      exact pm_some fq3
    · refine pm_bind (fun q4 hq4 => ?_)
      have fq4 := fr_tr f0 (fs_X8_bad fr_rf _ hq4) (fun _ _ z => z)
      refine pm_bind (fun _ _ => ?_)
      exact pm_some fq4
  · refine pm_bind (fun q5 hq5 => ?_)
    have fq5 := fr_tr f0 (fs_X8_bad fr_rf _ hq5) (fun _ _ z => z)
    refine pm_bind (fun _ _ => ?_)
    exact pm_some fq5
/-! X8_readTanker -/
theorem fs_X8_readTanker_L47 {S0 : HS} : ∀ (K : Nat) (v1 : Int32) (S : HS), Fr wG S0 S → Pm (fun r => Fr wG S0 r.2) (s_X8_readTanker_L47 K v1 S) := by
  intro K
  induction K with
  | zero =>
    intros
    exact pm_none
  | succ K ih =>
    intro v1 S f0
    rw [s_X8_readTanker_L47]
    refine pm_ite (fun _ => ?_) (fun _ => ?_)
    · refine pm_bind (fun q5 hq5 => ?_)
      have fq5 := fr_tr f0 (fs_X8_told fr_rf _ hq5) (fun _ _ z => z)
      refine pm_ite (fun _ => ?_) (fun _ => ?_)
      · exact pm_some fq5
      · refine pm_bind (fun q6 hq6 => ?_)
        have fq6 := fr_tr fq5 (fs_X8_told fr_rf _ hq6) (fun _ _ z => z)
        refine pm_ite (fun _ => ?_) (fun _ => ?_)
        · exact pm_some fq6
        · refine pm_bind (fun a7 _ => ?_)
          refine pm_bind (fun q8 hq8 => ?_)
          have fq8 := fr_tr fq6 (fs_X8_told fr_rf _ hq8) (fun _ _ z => z)
          refine pm_ite (fun _ => ?_) (fun _ => ?_)
          · exact pm_some fq8
          · exact pm_some fq8
    · refine pm_bind (fun q9 hq9 => ?_)
      have fq9 := fr_tr f0 (fs_X8_told fr_rf _ hq9) (fun _ _ z => z)
      refine pm_ite (fun _ => ?_) (fun _ => ?_)
      · exact ih _ _ fq9
      · exact pm_some fq9
theorem fs_X8_readTanker {S0 : HS} {S : HS} (f0 : Fr wG S0 S) : Pm (fun r => Fr wG S0 r.2) (s_X8_readTanker S) := by
  unfold s_X8_readTanker
  refine pm_bind (fun q1 _ => ?_)
  refine pm_bind (fun q2 _ => ?_)
  refine pm_ite (fun _ => ?_) (fun _ => ?_)
  · refine pm_bind (fun q3 hq3 => ?_)
    have fq3 := fr_tr f0 (fs_X8_go fr_rf _ hq3) (fun k j => by unfold wg wG; omega)
    refine pm_bind (fun q4 hq4 => ?_)
    have fq4 := fr_tr fq3 (fs_X8_told fr_rf _ hq4) (fun _ _ z => z)
    refine pm_ite (fun _ => ?_) (fun _ => ?_)
    · exact fs_X8_readTanker_L47 _ _ _ fq4
    · exact pm_some fq4
  · refine pm_bind (fun q10 hq10 => ?_)
    have fq10 := fr_tr f0 (fs_X8_bad fr_rf _ hq10) (fun _ _ z => z)
    refine pm_bind (fun _ _ => ?_)
    exact pm_some fq10
/-! X8_readHold -/
theorem fs_X8_readHold_J136 {S0 : HS} {x1 : Int32} {x2 : Int32} {S : HS} (f0 : Fr wG S0 S) : Pm (fun r => Fr wG S0 r.2) (s_X8_readHold_J136 x1 x2 S) := by
  unfold s_X8_readHold_J136
  refine pm_bind (fun S8 hS8 => ?_)
  have fS8 := fr_wa f0 (by unfold wG; omega) hS8
  refine pm_bind (fun q9 hq9 => ?_)
  have fq9 := fr_tr fS8 (fs_X8_go fr_rf _ hq9) (fun k j => by unfold wg wG; omega)
  refine pm_bind (fun a10 _ => ?_)
  refine pm_bind (fun S11 hS11 => ?_)
  have fS11 := fr_wa fq9 (by unfold wG; omega) hS11
  exact pm_some fS11
theorem fs_X8_readHold_J120 {S0 : HS} {v1 : Int32} {v2 : Int32} {S : HS} (f0 : Fr wG S0 S) : Pm (fun r => Fr wG S0 r.2) (s_X8_readHold_J120 v1 v2 S) := by
  unfold s_X8_readHold_J120
  refine pm_ite (fun _ => ?_) (fun _ => ?_)
  · exact fs_X8_readHold_J136 f0
  · exact fs_X8_readHold_J136 f0
theorem fs_X8_readHold {S0 : HS} {S : HS} (f0 : Fr wG S0 S) : Pm (fun r => Fr wG S0 r.2) (s_X8_readHold S) := by
  unfold s_X8_readHold
  refine pm_bind (fun a1 _ => ?_)
  refine pm_ite (fun _ => ?_) (fun _ => ?_)
  · refine pm_bind (fun q2 hq2 => ?_)
    have fq2 := fr_tr f0 (fs_X8_go fr_rf _ hq2) (fun k j => by unfold wg wG; omega)
    refine pm_bind (fun a3 _ => ?_)
    refine pm_bind (fun q4 hq4 => ?_)
    have fq4 := fr_tr fq2 (fs_X8_told fr_rf _ hq4) (fun _ _ z => z)
    refine pm_ite (fun _ => ?_) (fun _ => ?_)
    · exact pm_some fq4
    · refine pm_bind (fun q5 hq5 => ?_)
      have fq5 := fr_tr fq4 (fs_X8_told fr_rf _ hq5) (fun _ _ z => z)
      refine pm_ite (fun _ => ?_) (fun _ => ?_)
      · refine pm_bind (fun q6 _ => ?_)
        refine pm_bind (fun q7 _ => ?_)
        refine pm_ite (fun _ => ?_) (fun _ => ?_)
        · exact fs_X8_readHold_J120 fq5
        · refine pm_bind (fun q12 _ => ?_)
          refine pm_bind (fun q13 _ => ?_)
          refine pm_ite (fun _ => ?_) (fun _ => ?_)
          · exact fs_X8_readHold_J120 fq5
          · refine pm_bind (fun q14 hq14 => ?_)
            have fq14 := fr_tr fq5 (fs_X8_bad fr_rf _ hq14) (fun _ _ z => z)
            refine pm_bind (fun _ _ => ?_)
            exact pm_some fq14
      · exact pm_some fq5
  · refine pm_bind (fun q15 hq15 => ?_)
    have fq15 := fr_tr f0 (fs_X8_bad fr_rf _ hq15) (fun _ _ z => z)
    refine pm_bind (fun _ _ => ?_)
    exact pm_some fq15
/-! X8_readLiquid -/
theorem fs_X8_readLiquid {S0 : HS} {S : HS} (f0 : Fr wG S0 S) : Pm (fun r => Fr wG S0 r.2) (s_X8_readLiquid S) := by
  unfold s_X8_readLiquid
  refine pm_bind (fun a1 _ => ?_)
  refine pm_ite (fun _ => ?_) (fun _ => ?_)
  · refine pm_bind (fun q2 hq2 => ?_)
    have fq2 := fr_tr f0 (fs_X8_go fr_rf _ hq2) (fun k j => by unfold wg wG; omega)
    refine pm_bind (fun a3 _ => ?_)
    refine pm_bind (fun q4 hq4 => ?_)
    have fq4 := fr_tr fq2 (fs_X8_told fr_rf _ hq4) (fun _ _ z => z)
    refine pm_ite (fun _ => ?_) (fun _ => ?_)
    · refine pm_bind (fun a5 _ => ?_)
      refine pm_bind (fun S6 hS6 => ?_)
      have fS6 := fr_wa fq4 (by unfold wG; omega) hS6
      exact pm_some fS6
    · exact pm_some fq4
  · refine pm_bind (fun q7 hq7 => ?_)
    have fq7 := fr_tr f0 (fs_X8_bad fr_rf _ hq7) (fun _ _ z => z)
    refine pm_bind (fun _ _ => ?_)
    exact pm_some fq7
/-! X8_oneOf -/
theorem fs_X8_oneOf {S0 : HS} {v1 : Int32} {S : HS} (f0 : Fr wG S0 S) : Pm (fun r => Fr wG S0 r.2) (s_X8_oneOf v1 S) := by
  unfold s_X8_oneOf
  refine pm_ite (fun _ => ?_) (fun _ => ?_)
  · refine pm_ite (fun _ => ?_) (fun _ => ?_)
    · refine pm_bind (fun S1 hS1 => ?_)
      have fS1 := fr_pf f0 (by unfold wG; omega) hS1
      refine pm_bind (fun q2 hq2 => ?_)
      have fq2 := fr_tr fS1 (fs_X8_go fr_rf _ hq2) (fun k j => by unfold wg wG; omega)
      exact pm_some fq2
    · refine pm_bind (fun q3 hq3 => ?_)
      have fq3 := fr_tr f0 (fs_X8_bad fr_rf _ hq3) (fun _ _ z => z)
      refine pm_bind (fun _ _ => ?_)
      exact pm_some fq3
  · refine pm_bind (fun q4 hq4 => ?_)
    have fq4 := fr_tr f0 (fs_X8_bad fr_rf _ hq4) (fun _ _ z => z)
    refine pm_bind (fun _ _ => ?_)
    exact pm_some fq4
/-! X8_readBar -/
theorem fs_X8_readBar {S0 : HS} {S : HS} (f0 : Fr wG S0 S) : Pm (fun r => Fr wG S0 r.2) (s_X8_readBar S) := by
  unfold s_X8_readBar
  refine pm_bind (fun a1 _ => ?_)
  refine pm_ite (fun _ => ?_) (fun _ => ?_)
  · refine pm_bind (fun q2 hq2 => ?_)
    have fq2 := fr_tr f0 (fs_X8_go fr_rf _ hq2) (fun k j => by unfold wg wG; omega)
    refine pm_bind (fun a3 _ => ?_)
    refine pm_bind (fun q4 hq4 => ?_)
    have fq4 := fr_tr fq2 (fs_X8_oneOf fr_rf _ hq4) (fun _ _ z => z)
    refine pm_ite (fun _ => ?_) (fun _ => ?_)
    · refine pm_bind (fun a5 _ => ?_)
      refine pm_bind (fun q6 hq6 => ?_)
      have fq6 := fr_tr fq4 (fs_X8_oneOf fr_rf _ hq6) (fun _ _ z => z)
      refine pm_ite (fun _ => ?_) (fun _ => ?_)
      · refine pm_bind (fun a7 _ => ?_)
        refine pm_bind (fun S8 hS8 => ?_)
        have fS8 := fr_wa fq6 (by unfold wG; omega) hS8
        refine pm_bind (fun a9 _ => ?_)
        refine pm_bind (fun S10 hS10 => ?_)
        have fS10 := fr_wa fS8 (by unfold wG; omega) hS10
        exact pm_some fS10
      · exact pm_some fq6
    · exact pm_some fq4
  · refine pm_bind (fun q11 hq11 => ?_)
    have fq11 := fr_tr f0 (fs_X8_bad fr_rf _ hq11) (fun _ _ z => z)
    refine pm_bind (fun _ _ => ?_)
    exact pm_some fq11
/-! X8_readLast -/
theorem fs_X8_readLast {S0 : HS} {S : HS} (f0 : Fr wG S0 S) : Pm (fun r => Fr wG S0 r.2) (s_X8_readLast S) := by
  unfold s_X8_readLast
  refine pm_bind (fun a1 _ => ?_)
  refine pm_ite (fun _ => ?_) (fun _ => ?_)
  · refine pm_bind (fun q2 hq2 => ?_)
    have fq2 := fr_tr f0 (fs_X8_go fr_rf _ hq2) (fun k j => by unfold wg wG; omega)
    refine pm_bind (fun a3 _ => ?_)
    refine pm_bind (fun q4 hq4 => ?_)
    have fq4 := fr_tr fq2 (fs_X8_oneOf fr_rf _ hq4) (fun _ _ z => z)
    refine pm_ite (fun _ => ?_) (fun _ => ?_)
    · refine pm_bind (fun a5 _ => ?_)
      refine pm_bind (fun q6 hq6 => ?_)
      have fq6 := fr_tr fq4 (fs_X8_oneOf fr_rf _ hq6) (fun _ _ z => z)
      refine pm_ite (fun _ => ?_) (fun _ => ?_)
      · refine pm_bind (fun S7 hS7 => ?_)
        have fS7 := fr_wa fq6 (by unfold wG; omega) hS7
        refine pm_bind (fun a8 _ => ?_)
        refine pm_bind (fun S9 hS9 => ?_)
        have fS9 := fr_wa fS7 (by unfold wG; omega) hS9
        exact pm_some fS9
      · exact pm_some fq6
    · exact pm_some fq4
  · refine pm_bind (fun q10 hq10 => ?_)
    have fq10 := fr_tr f0 (fs_X8_bad fr_rf _ hq10) (fun _ _ z => z)
    refine pm_bind (fun _ _ => ?_)
    exact pm_some fq10
/-! X8_readDrop -/
theorem fs_X8_readDrop {S0 : HS} {S : HS} (f0 : Fr wG S0 S) : Pm (fun r => Fr wG S0 r.2) (s_X8_readDrop S) := by
  unfold s_X8_readDrop
  refine pm_bind (fun a1 _ => ?_)
  refine pm_ite (fun _ => ?_) (fun _ => ?_)
  · refine pm_bind (fun q2 hq2 => ?_)
    have fq2 := fr_tr f0 (fs_X8_go fr_rf _ hq2) (fun k j => by unfold wg wG; omega)
    refine pm_bind (fun a3 _ => ?_)
    refine pm_bind (fun a4 _ => ?_)
    refine pm_bind (fun q5 hq5 => ?_)
    have fq5 := fr_tr fq2 (fs_X8_oneOf fr_rf _ hq5) (fun _ _ z => z)
    refine pm_ite (fun _ => ?_) (fun _ => ?_)
    · refine pm_bind (fun S6 hS6 => ?_)
      have fS6 := fr_wa fq5 (by unfold wG; omega) hS6
      refine pm_bind (fun q7 hq7 => ?_)
      have fq7 := fr_tr fS6 (fs_X8_told fr_rf _ hq7) (fun _ _ z => z)
      refine pm_ite (fun _ => ?_) (fun _ => ?_)
      · refine pm_bind (fun a8 _ => ?_)
        refine pm_bind (fun S9 hS9 => ?_)
        have fS9 := fr_wa fq7 (by unfold wG; omega) hS9
        exact pm_some fS9
      · exact pm_some fq7
    · exact pm_some fq5
  · refine pm_bind (fun q10 hq10 => ?_)
    have fq10 := fr_tr f0 (fs_X8_bad fr_rf _ hq10) (fun _ _ z => z)
    refine pm_bind (fun _ _ => ?_)
    exact pm_some fq10
/-! X8_readLine -/
theorem fs_X8_readLine {S0 : HS} {v1 : Int32} {S : HS} (f0 : Fr wG S0 S) : Pm (fun r => Fr wG S0 r.2) (s_X8_readLine v1 S) := by
  unfold s_X8_readLine
  refine pm_ite (fun _ => ?_) (fun _ => ?_)
  · refine pm_bind (fun q1 _ => ?_)
    refine pm_bind (fun q2 _ => ?_)
    refine pm_bind (fun q3 _ => ?_)
    refine pm_ite (fun _ => ?_) (fun _ => ?_)
    · refine pm_bind (fun q4 _ => ?_)
      refine pm_bind (fun q5 _ => ?_)
      refine pm_ite (fun _ => ?_) (fun _ => ?_)
      · refine pm_bind (fun q6 _ => ?_)
        refine pm_bind (fun q7 _ => ?_)
        refine pm_ite (fun _ => ?_) (fun _ => ?_)
        · refine pm_bind (fun q8 _ => ?_)
          refine pm_bind (fun q9 _ => ?_)
          refine pm_ite (fun _ => ?_) (fun _ => ?_)
          · refine pm_bind (fun q10 _ => ?_)
            refine pm_bind (fun q11 _ => ?_)
            refine pm_ite (fun _ => ?_) (fun _ => ?_)
            · refine pm_bind (fun q12 hq12 => ?_)
              have fq12 := fr_tr f0 (fs_X8_bad fr_rf _ hq12) (fun _ _ z => z)
              refine pm_bind (fun _ _ => ?_)
              exact pm_some fq12
            · refine pm_bind (fun q13 hq13 => ?_)
              have fq13 := fr_tr f0 (fs_X8_readDrop fr_rf _ hq13) (fun _ _ z => z)
              refine pm_bind (fun _ _ => ?_)
              exact pm_some fq13
          · refine pm_bind (fun q14 hq14 => ?_)
            have fq14 := fr_tr f0 (fs_X8_readLast fr_rf _ hq14) (fun _ _ z => z)
            refine pm_bind (fun _ _ => ?_)
            exact pm_some fq14
        · refine pm_bind (fun q15 hq15 => ?_)
          have fq15 := fr_tr f0 (fs_X8_readBar fr_rf _ hq15) (fun _ _ z => z)
          refine pm_bind (fun _ _ => ?_)
          exact pm_some fq15
      · refine pm_bind (fun q16 hq16 => ?_)
        have fq16 := fr_tr f0 (fs_X8_readLiquid fr_rf _ hq16) (fun _ _ z => z)
        refine pm_bind (fun _ _ => ?_)
        exact pm_some fq16
    · refine pm_bind (fun q17 hq17 => ?_)
      have fq17 := fr_tr f0 (fs_X8_readHold fr_rf _ hq17) (fun _ _ z => z)
      refine pm_bind (fun _ _ => ?_)
      exact pm_some fq17
  · refine pm_bind (fun q18 hq18 => ?_)
    have fq18 := fr_tr f0 (fs_X8_readTanker fr_rf _ hq18) (fun _ _ z => z)
    refine pm_bind (fun _ _ => ?_)
    exact pm_some fq18
/-! X8_readEnd -/
theorem fs_X8_readEnd {S0 : HS} {S : HS} (f0 : Fr wG S0 S) : Pm (fun r => Fr wG S0 r.2) (s_X8_readEnd S) := by
  unfold s_X8_readEnd
  refine pm_ite (fun _ => ?_) (fun _ => ?_)
  · refine pm_bind (fun q1 hq1 => ?_)
    have fq1 := fr_tr f0 (fs_X8_go fr_rf _ hq1) (fun k j => by unfold wg wG; omega)
    exact pm_some fq1
  · refine pm_bind (fun q2 hq2 => ?_)
    have fq2 := fr_tr f0 (fs_X8_bad fr_rf _ hq2) (fun _ _ z => z)
    refine pm_bind (fun _ _ => ?_)
    exact pm_some fq2
/-! X8_text -/
theorem fs_X8_text_L108 {S0 : HS} {v1 : Int32} : ∀ (K : Nat) (v2 : Int32) (S : HS), Fr wD S0 S → Pm (fun r => Fr wD S0 r.2) (s_X8_text_L108 v1 K v2 S) := by
  intro K
  induction K with
  | zero =>
    intros
    exact pm_none
  | succ K ih =>
    intro v2 S f0
    rw [s_X8_text_L108]
    refine pm_ite (fun _ => ?_) (fun _ => ?_)
    · refine pm_bind (fun S8 hS8 => ?_)
      have fS8 := fr_pf f0 trivial hS8
      exact pm_some fS8
    · refine pm_bind (fun a9 _ => ?_)
      refine pm_bind (fun S10 hS10 => ?_)
      have fS10 := fr_wa f0 trivial hS10
      exact ih _ _ fS10
theorem fs_X8_text_J80 {S0 : HS} {rc63 : Int32 → HS → Option (Int32 × HS)} {v1 : Int32} {x1 : Int32} {S : HS} (hrc63 : ∀ (v1 : Int32) (S : HS), Fr wD S0 S → Pm (fun r => Fr wD S0 r.2) (rc63 v1 S)) (f0 : Fr wD S0 S) : Pm (fun r => Fr wD S0 r.2) (s_X8_text_J80 rc63 v1 x1 S) := by
  unfold s_X8_text_J80
  refine pm_bind (fun q11 hq11 => ?_)
  have fq11 := fr_tr f0 (fs_X8_readLine fr_rf _ hq11) (fun _ _ _ => trivial)
  refine pm_ite (fun _ => ?_) (fun _ => ?_)
  · exact pm_some fq11
  · refine pm_bind (fun q12 hq12 => ?_)
    have fq12 := fr_tr fq11 (fs_X8_readEnd fr_rf _ hq12) (fun _ _ _ => trivial)
    refine pm_ite (fun _ => ?_) (fun _ => ?_)
    · exact hrc63 _ _ fq12
    · exact pm_some fq12
theorem fs_X8_text_L63 {S0 : HS} : ∀ (K : Nat) (v1 : Int32) (S : HS), Fr wD S0 S → Pm (fun r => Fr wD S0 r.2) (s_X8_text_L63 K v1 S) := by
  intro K
  induction K with
  | zero =>
    intros
    exact pm_none
  | succ K ih =>
    intro v1 S f0
    rw [s_X8_text_L63]
    refine pm_ite (fun _ => ?_) (fun _ => ?_)
    · exact fs_X8_text_L108 _ _ _ f0
    · refine pm_ite (fun _ => ?_) (fun _ => ?_)
      · exact fs_X8_text_J80 ih f0
      · exact fs_X8_text_J80 ih f0
theorem fs_X8_text_L32 {S0 : HS} {v1 : Int32} : ∀ (K : Nat) (v2 : Int32) (S : HS), Fr wD S0 S → Pm (fun r => Fr wD S0 r.2) (s_X8_text_L32 v1 K v2 S) := by
  intro K
  induction K with
  | zero =>
    intros
    exact pm_none
  | succ K ih =>
    intro v2 S f0
    rw [s_X8_text_L32]
    refine pm_ite (fun _ => ?_) (fun _ => ?_)
    · refine pm_bind (fun S6 hS6 => ?_)
      have fS6 := fr_wa f0 trivial hS6
      refine pm_bind (fun q7 hq7 => ?_)
      have fq7 := fr_tr fS6 (fs_X8_go fr_rf _ hq7) (fun _ _ _ => trivial)
      exact fs_X8_text_L63 _ _ _ fq7
    · refine pm_bind (fun S13 hS13 => ?_)
      have fS13 := fr_wa f0 trivial hS13
      exact ih _ _ fS13
theorem fs_X8_text {S0 : HS} {S : HS} (f0 : Fr wD S0 S) : Pm (fun r => Fr wD S0 r.2) (s_X8_text S) := by
  unfold s_X8_text
  refine pm_bind (fun S1 hS1 => ?_)
  have fS1 := fr_pf f0 trivial hS1
  refine pm_bind (fun S2 hS2 => ?_)
  have fS2 := fr_pf fS1 trivial hS2
  refine pm_bind (fun S3 hS3 => ?_)
  have fS3 := fr_pf fS2 trivial hS3
  refine pm_bind (fun S4 hS4 => ?_)
  have fS4 := fr_pf fS3 trivial hS4
  refine pm_bind (fun S5 hS5 => ?_)
  have fS5 := fr_pf fS4 trivial hS5
  exact fs_X8_text_L32 _ _ _ fS5
/-! X8_fault -/
theorem fs_X8_fault {S0 : HS} {S : HS} (f0 : Fr wD S0 S) : Pm (fun r => Fr wD S0 r.2) (s_X8_fault S) := by
  unfold s_X8_fault
  refine pm_bind (fun S1 hS1 => ?_)
  have fS1 := fr_pf f0 trivial hS1
  exact pm_some fS1
/-! X8_laysNow -/
theorem fs_X8_laysNow_L2 {S0 : HS} : ∀ (K : Nat) (v1 : Int32) (S : HS), Fr wN S0 S → Pm (fun r => Fr wN S0 r) (s_X8_laysNow_L2 K v1 S) := by
  intro K
  induction K with
  | zero =>
    intros
    exact pm_none
  | succ K ih =>
    intro v1 S f0
    rw [s_X8_laysNow_L2]
    refine pm_bind (fun a1 _ => ?_)
    refine pm_ite (fun _ => ?_) (fun _ => ?_)
    · exact pm_some f0
    · refine pm_bind (fun q2 _ => ?_)
      refine pm_bind (fun S3 hS3 => ?_)
      have fS3 := fr_wa f0 (by unfold wN; omega) hS3
      refine pm_bind (fun q4 _ => ?_)
      refine pm_bind (fun S5 hS5 => ?_)
      have fS5 := fr_wa fS3 (by unfold wN; omega) hS5
      refine pm_bind (fun a6 _ => ?_)
      refine pm_ite (fun _ => ?_) (fun _ => ?_)
      · refine pm_bind (fun a7 _ => ?_)
        refine pm_bind (fun q8 _ => ?_)
        refine pm_bind (fun S9 hS9 => ?_)
        have fS9 := fr_wa fS5 (by unfold wN; omega) hS9
        exact ih _ _ fS9
      · refine pm_bind (fun S10 hS10 => ?_)
        have fS10 := fr_wa fS5 (by unfold wN; omega) hS10
        exact ih _ _ fS10
theorem fs_X8_laysNow {S0 : HS} {S : HS} (f0 : Fr wN S0 S) : Pm (fun r => Fr wN S0 r) (s_X8_laysNow S) := by
  unfold s_X8_laysNow
  exact fs_X8_laysNow_L2 _ _ _ f0
/-! X8_now -/
theorem fs_X8_now {S0 : HS} {v1 : Int32} {S : HS} (f0 : Fr wD S0 S) : Pm (fun r => Fr wD S0 r.2) (s_X8_now v1 S) := by
  unfold s_X8_now
  refine pm_bind (fun S1 hS1 => ?_)
  have fS1 := fr_pf f0 trivial hS1
  refine pm_bind (fun q2 hq2 => ?_)
  have fq2 := fr_tr fS1 (fs_X8_laysNow fr_rf _ hq2) (fun _ _ _ => trivial)
  refine pm_ite (fun _ => ?_) (fun _ => ?_)
  · refine pm_bind (fun a3 _ => ?_)
    exact pm_some fq2
  · refine pm_ite (fun _ => ?_) (fun _ => ?_)
    · refine pm_bind (fun a4 _ => ?_)
      exact pm_some fq2
    · refine pm_ite (fun _ => ?_) (fun _ => ?_)
      · refine pm_bind (fun a5 _ => ?_)
        exact pm_some fq2
      · refine pm_ite (fun _ => ?_) (fun _ => ?_)
        · refine pm_bind (fun q6 _ => ?_)
          exact pm_some fq2
        · refine pm_ite (fun _ => ?_) (fun _ => ?_)
          · refine pm_bind (fun q7 _ => ?_)
            exact pm_some fq2
          · refine pm_ite (fun _ => ?_) (fun _ => ?_)
            · refine pm_bind (fun q8 _ => ?_)
              exact pm_some fq2
            · refine pm_ite (fun _ => ?_) (fun _ => ?_)
              · refine pm_bind (fun q9 _ => ?_)
                exact pm_some fq2
              · refine pm_ite (fun _ => ?_) (fun _ => ?_)
                · refine pm_bind (fun a10 _ => ?_)
                  exact pm_some fq2
                · refine pm_ite (fun _ => ?_) (fun _ => ?_)
                  · exact pm_some fq2
                  · refine pm_ite (fun _ => ?_) (fun _ => ?_)
                    · exact pm_some fq2
                    · exact pm_some fq2
/-! X8_compartment -/
theorem fs_X8_compartment_J60 {S0 : HS} {v1 : Int32} {v2 : Int32} {S : HS} (f0 : Fr wD S0 S) : Pm (fun r => Fr wD S0 r.2) (s_X8_compartment_J60 v1 v2 S) := by
  unfold s_X8_compartment_J60
  refine pm_bind (fun q3 _ => ?_)
  exact pm_some f0
theorem fs_X8_compartment {S0 : HS} {v1 : Int32} {v2 : Int32} {S : HS} (f0 : Fr wD S0 S) : Pm (fun r => Fr wD S0 r.2) (s_X8_compartment v1 v2 S) := by
  unfold s_X8_compartment
  refine pm_bind (fun S1 hS1 => ?_)
  have fS1 := fr_pf f0 trivial hS1
  refine pm_bind (fun q2 _ => ?_)
  refine pm_ite (fun _ => ?_) (fun _ => ?_)
  · refine pm_ite (fun _ => ?_) (fun _ => ?_)
    · exact fs_X8_compartment_J60 fS1
    · refine pm_ite (fun _ => ?_) (fun _ => ?_)
      · exact fs_X8_compartment_J60 fS1
      · refine pm_ite (fun _ => ?_) (fun _ => ?_)
        · exact fs_X8_compartment_J60 fS1
        · refine pm_ite (fun _ => ?_) (fun _ => ?_)
          · refine pm_bind (fun q4 _ => ?_)
            exact pm_some fS1
          · refine pm_ite (fun _ => ?_) (fun _ => ?_)
            · refine pm_bind (fun q5 _ => ?_)
              exact pm_some fS1
            · refine pm_ite (fun _ => ?_) (fun _ => ?_)
              · refine pm_bind (fun q6 _ => ?_)
                exact pm_some fS1
              · refine pm_ite (fun _ => ?_) (fun _ => ?_)
                · refine pm_bind (fun q7 _ => ?_)
                  exact pm_some fS1
                · exact pm_some fS1
  · exact pm_some fS1
/-! X8_refuse -/
theorem fs_X8_refuse {S0 : HS} {S : HS} (f0 : Fr wD S0 S) : Pm (fun r => Fr wD S0 r.2) (s_X8_refuse S) := by
  unfold s_X8_refuse
  refine pm_bind (fun S1 hS1 => ?_)
  have fS1 := fr_pf f0 trivial hS1
  exact pm_some fS1
/-! X8_drop -/
theorem fs_X8_drop {S0 : HS} {v1 : Int32} {v2 : Int32} {S : HS} (f0 : Fr wD S0 S) : Pm (fun r => Fr wD S0 r.2) (s_X8_drop v1 v2 S) := by
  unfold s_X8_drop
  refine pm_bind (fun S1 hS1 => ?_)
  have fS1 := fr_pf f0 trivial hS1
  refine pm_bind (fun q2 _ => ?_)
  refine pm_ite (fun _ => ?_) (fun _ => ?_)
  · refine pm_bind (fun q3 hq3 => ?_)
    have fq3 := fr_tr fS1 (fs_X8_refuse fr_rf _ hq3) (fun _ _ _ => trivial)
    exact pm_some fq3
  · refine pm_bind (fun q4 _ => ?_)
    refine pm_ite (fun _ => ?_) (fun _ => ?_)
    · refine pm_ite (fun _ => ?_) (fun _ => ?_)
      · refine pm_ite (fun _ => ?_) (fun _ => ?_)
        · refine pm_bind (fun q5 _ => ?_)
          exact pm_some fS1
        · refine pm_bind (fun q6 _ => ?_)
          exact pm_some fS1
      · refine pm_bind (fun q7 _ => ?_)
        exact pm_some fS1
    · refine pm_bind (fun q8 hq8 => ?_)
      have fq8 := fr_tr fS1 (fs_X8_refuse fr_rf _ hq8) (fun _ _ _ => trivial)
      exact pm_some fq8
/-! X8_may -/
theorem fs_X8_may {S0 : HS} {v1 : Int32} {v2 : Int32} {S : HS} (f0 : Fr wD S0 S) : Pm (fun r => Fr wD S0 r.2) (s_X8_may v1 v2 S) := by
  unfold s_X8_may
  refine pm_bind (fun S1 hS1 => ?_)
  have fS1 := fr_pf f0 trivial hS1
  refine pm_bind (fun q2 _ => ?_)
  refine pm_ite (fun _ => ?_) (fun _ => ?_)
  · exact pm_some fS1
  · refine pm_bind (fun q3 _ => ?_)
    refine pm_ite (fun _ => ?_) (fun _ => ?_)
    · exact pm_some fS1
    · refine pm_bind (fun q4 _ => ?_)
      refine pm_ite (fun _ => ?_) (fun _ => ?_)
      · exact pm_some fS1
      · exact pm_some fS1
/-! X8_would -/
theorem fs_X8_would {S0 : HS} {v1 : Int32} {v2 : Int32} {v3 : Int32} {S : HS} (f0 : Fr wD S0 S) : Pm (fun r => Fr wD S0 r.2) (s_X8_would v1 v2 v3 S) := by
  unfold s_X8_would
  refine pm_bind (fun S1 hS1 => ?_)
  have fS1 := fr_pf f0 trivial hS1
  refine pm_bind (fun q2 _ => ?_)
  refine pm_ite (fun _ => ?_) (fun _ => ?_)
  · exact pm_some fS1
  · refine pm_bind (fun q3 _ => ?_)
    refine pm_ite (fun _ => ?_) (fun _ => ?_)
    · exact pm_some fS1
    · refine pm_bind (fun q4 _ => ?_)
      refine pm_bind (fun q5 _ => ?_)
      refine pm_ite (fun _ => ?_) (fun _ => ?_)
      · refine pm_bind (fun q6 hq6 => ?_)
        have fq6 := fr_tr fS1 (fs_X8_laysNow fr_rf _ hq6) (fun _ _ _ => trivial)
        refine pm_bind (fun S7 hS7 => ?_)
        have fS7 := fr_wa fq6 trivial hS7
        refine pm_bind (fun S8 hS8 => ?_)
        have fS8 := fr_wa fS7 trivial hS8
        refine pm_bind (fun S9 hS9 => ?_)
        have fS9 := fr_wa fS8 trivial hS9
        refine pm_bind (fun q10 _ => ?_)
        exact pm_some fS9
      · exact pm_some fS1
/-! X8_ordersFrom -/
theorem fs_X8_ordersFrom_L55 {S0 : HS} {v1 : Int32} {v2 : Int32} {v3 : Int32} {self : Int32 → Int32 → Int32 → HS → Option (Int32 × HS)} (hself : ∀ (v1 : Int32) (v2 : Int32) (v3 : Int32) (S : HS), Fr wQ S0 S → Pm (fun r => Fr wQ S0 r.2) (self v1 v2 v3 S)) : ∀ (K : Nat) (v4 : Int32) (v5 : Int32) (S : HS), Fr wQ S0 S → Pm (fun r => Fr wQ S0 r.2) (s_X8_ordersFrom_L55 self v1 v2 v3 K v4 v5 S) := by
  intro K
  induction K with
  | zero =>
    intros
    exact pm_none
  | succ K ih =>
    intro v4 v5 S f0
    rw [s_X8_ordersFrom_L55]
    refine pm_bind (fun a1 _ => ?_)
    refine pm_ite (fun _ => ?_) (fun _ => ?_)
    · exact pm_some f0
    · refine pm_bind (fun q2 _ => ?_)
      refine pm_ite (fun _ => ?_) (fun _ => ?_)
      · exact ih _ _ _ f0
      · refine pm_bind (fun q3 _ => ?_)
        refine pm_ite (fun _ => ?_) (fun _ => ?_)
        · exact ih _ _ _ f0
        · refine pm_bind (fun q4 _ => ?_)
          refine pm_ite (fun _ => ?_) (fun _ => ?_)
          · refine pm_bind (fun S5 hS5 => ?_)
            have fS5 := fr_wa f0 (by unfold wQ; omega) hS5
            refine pm_bind (fun q6 hq6 => ?_)
            have fq6 := hself _ _ _ _ fS5 _ hq6
            exact ih _ _ _ fq6
          · exact ih _ _ _ f0
theorem fs_X8_ordersFrom_L21 {S0 : HS} {v3 : Int32} {self : Int32 → Int32 → Int32 → HS → Option (Int32 × HS)} (hself : ∀ (v1 : Int32) (v2 : Int32) (v3 : Int32) (S : HS), Fr wQ S0 S → Pm (fun r => Fr wQ S0 r.2) (self v1 v2 v3 S)) : ∀ (K : Nat) (v4 : Int32) (S : HS), Fr wQ S0 S → Pm (fun r => Fr wQ S0 r.2) (s_X8_ordersFrom_L21 self v3 K v4 S) := by
  intro K
  induction K with
  | zero =>
    intros
    exact pm_none
  | succ K ih =>
    intro v4 S f0
    rw [s_X8_ordersFrom_L21]
    refine pm_ite (fun _ => ?_) (fun _ => ?_)
    · exact pm_some f0
    · refine pm_bind (fun a8 _ => ?_)
      refine pm_bind (fun S9 hS9 => ?_)
      have fS9 := fr_wa f0 (by unfold wQ; omega) hS9
      exact ih _ _ fS9
theorem fb_X8_ordersFrom {S0 : HS} {v1 : Int32} {v2 : Int32} {v3 : Int32} {S : HS} {self : Int32 → Int32 → Int32 → HS → Option (Int32 × HS)} (hself : ∀ (v1 : Int32) (v2 : Int32) (v3 : Int32) (S : HS), Fr wQ S0 S → Pm (fun r => Fr wQ S0 r.2) (self v1 v2 v3 S)) (f0 : Fr wQ S0 S) : Pm (fun r => Fr wQ S0 r.2) (s_X8_ordersFrom_B self v1 v2 v3 S) := by
  unfold s_X8_ordersFrom_B
  refine pm_ite (fun _ => ?_) (fun _ => ?_)
  · exact fs_X8_ordersFrom_L55 hself _ _ _ _ f0
  · refine pm_ite (fun _ => ?_) (fun _ => ?_)
    · exact pm_some f0
    · refine pm_bind (fun S7 hS7 => ?_)
      have fS7 := fr_pf f0 (by unfold wQ; omega) hS7
      exact fs_X8_ordersFrom_L21 hself _ _ _ fS7
theorem fs_X8_ordersFrom {S0 : HS} : ∀ (r : Nat) (v1 : Int32) (v2 : Int32) (v3 : Int32) (S : HS), Fr wQ S0 S → Pm (fun r => Fr wQ S0 r.2) (s_X8_ordersFrom r v1 v2 v3 S) := by
  intro r
  induction r with
  | zero =>
    intros
    exact pm_none
  | succ r ih =>
    intro v1 v2 v3 S f0
    rw [s_X8_ordersFrom]
    exact fb_X8_ordersFrom ih f0
/-! X8_ordersOf -/
theorem fs_X8_ordersOf {S0 : HS} {v1 : Int32} {S : HS} (f0 : Fr wQ S0 S) : Pm (fun r => Fr wQ S0 r.2) (s_X8_ordersOf v1 S) := by
  unfold s_X8_ordersOf
  refine pm_bind (fun S1 hS1 => ?_)
  have fS1 := fr_pf f0 (by unfold wQ; omega) hS1
  refine pm_bind (fun q2 hq2 => ?_)
  have fq2 := fr_tr fS1 (fs_X8_ordersFrom _ _ _ _ _ fr_rf _ hq2) (fun _ _ z => z)
  exact pm_some fq2
/-! X8_orders -/
theorem fs_X8_orders {S0 : HS} {S : HS} (f0 : Fr wD S0 S) : Pm (fun r => Fr wD S0 r.2) (s_X8_orders S) := by
  unfold s_X8_orders
  refine pm_bind (fun S1 hS1 => ?_)
  have fS1 := fr_pf f0 trivial hS1
  refine pm_bind (fun q2 hq2 => ?_)
  have fq2 := fr_tr fS1 (fs_X8_laysNow fr_rf _ hq2) (fun _ _ _ => trivial)
  refine pm_bind (fun q3 _ => ?_)
  refine pm_bind (fun q4 hq4 => ?_)
  have fq4 := fr_tr fq2 (fs_X8_ordersOf fr_rf _ hq4) (fun _ _ _ => trivial)
  exact pm_some fq4
/-! X8_ordered -/
theorem fs_X8_ordered {S0 : HS} {v1 : Int32} {S : HS} (f0 : Fr wD S0 S) : Pm (fun r => Fr wD S0 r.2) (s_X8_ordered v1 S) := by
  unfold s_X8_ordered
  refine pm_bind (fun S1 hS1 => ?_)
  have fS1 := fr_pf f0 trivial hS1
  refine pm_bind (fun q2 hq2 => ?_)
  have fq2 := fr_tr fS1 (fs_X8_laysNow fr_rf _ hq2) (fun _ _ _ => trivial)
  refine pm_bind (fun q3 _ => ?_)
  refine pm_bind (fun q4 hq4 => ?_)
  have fq4 := fr_tr fq2 (fs_X8_ordersOf fr_rf _ hq4) (fun _ _ _ => trivial)
  refine pm_bind (fun q5 _ => ?_)
  refine pm_ite (fun _ => ?_) (fun _ => ?_)
  · exact pm_some fq4
  · refine pm_bind (fun a6 _ => ?_)
    exact pm_some fq4
/-! X8_without -/
theorem fs_X8_without {S0 : HS} {v1 : Int32} {S : HS} (f0 : Fr wD S0 S) : Pm (fun r => Fr wD S0 r.2) (s_X8_without v1 S) := by
  unfold s_X8_without
  refine pm_bind (fun S1 hS1 => ?_)
  have fS1 := fr_pf f0 trivial hS1
  refine pm_bind (fun q2 _ => ?_)
  refine pm_ite (fun _ => ?_) (fun _ => ?_)
  · exact pm_some fS1
  · refine pm_bind (fun q3 _ => ?_)
    refine pm_ite (fun _ => ?_) (fun _ => ?_)
    · refine pm_bind (fun q4 hq4 => ?_)
      have fq4 := fr_tr fS1 (fs_X8_laysNow fr_rf _ hq4) (fun _ _ _ => trivial)
      refine pm_bind (fun q5 _ => ?_)
      exact pm_some fq4
    · exact pm_some fS1
/-! X8_pours -/
theorem fs_X8_pours_J122 {S0 : HS} {rc30 : Int32 → Int32 → HS → Option (Int32 × HS)} {rc74 : Int32 → Int32 → Int32 → HS → Option (Int32 × HS)} {v1 : Int32} {v2 : Int32} {v3 : Int32} {v4 : Int32} {v6 : Int32} {x0 : Int32} {S : HS} (hrc30 : ∀ (v2 : Int32) (v3 : Int32) (S : HS), Fr wU S0 S → Pm (fun r => Fr wU S0 r.2) (rc30 v2 v3 S)) (hrc74 : ∀ (v4 : Int32) (v5 : Int32) (v6 : Int32) (S : HS), Fr wU S0 S → Pm (fun r => Fr wU S0 r.2) (rc74 v4 v5 v6 S)) (f0 : Fr wU S0 S) : Pm (fun r => Fr wU S0 r.2) (s_X8_pours_J122 rc30 rc74 v1 v2 v3 v4 v6 x0 S) := by
  unfold s_X8_pours_J122
  refine pm_ite (fun _ => ?_) (fun _ => ?_)
  · exact pm_some f0
  · refine pm_bind (fun q8 _ => ?_)
    refine pm_bind (fun q9 _ => ?_)
    refine pm_ite (fun _ => ?_) (fun _ => ?_)
    · refine pm_bind (fun S10 hS10 => ?_)
      have fS10 := fr_wa f0 (by unfold wU; omega) hS10
      exact hrc74 _ _ _ _ fS10
    · exact pm_some f0
theorem fs_X8_pours_L74 {S0 : HS} {rc30 : Int32 → Int32 → HS → Option (Int32 × HS)} {v1 : Int32} {v2 : Int32} {v3 : Int32} (hrc30 : ∀ (v2 : Int32) (v3 : Int32) (S : HS), Fr wU S0 S → Pm (fun r => Fr wU S0 r.2) (rc30 v2 v3 S)) : ∀ (K : Nat) (v4 : Int32) (v5 : Int32) (v6 : Int32) (S : HS), Fr wU S0 S → Pm (fun r => Fr wU S0 r.2) (s_X8_pours_L74 rc30 v1 v2 v3 K v4 v5 v6 S) := by
  intro K
  induction K with
  | zero =>
    intros
    exact pm_none
  | succ K ih =>
    intro v4 v5 v6 S f0
    rw [s_X8_pours_L74]
    refine pm_bind (fun a4 _ => ?_)
    refine pm_ite (fun _ => ?_) (fun _ => ?_)
    · refine pm_ite (fun _ => ?_) (fun _ => ?_)
      · refine pm_ite (fun _ => ?_) (fun _ => ?_)
        · exact hrc30 _ _ _ f0
        · exact hrc30 _ _ _ f0
      · refine pm_ite (fun _ => ?_) (fun _ => ?_)
        · refine pm_ite (fun _ => ?_) (fun _ => ?_)
          · exact hrc30 _ _ _ f0
          · exact hrc30 _ _ _ f0
        · exact pm_some f0
    · refine pm_bind (fun a5 _ => ?_)
      refine pm_ite (fun _ => ?_) (fun _ => ?_)
      · refine pm_bind (fun q6 _ => ?_)
        refine pm_ite (fun _ => ?_) (fun _ => ?_)
        · refine pm_bind (fun q7 _ => ?_)
          exact fs_X8_pours_J122 hrc30 ih f0
        · exact fs_X8_pours_J122 hrc30 ih f0
      · exact ih _ _ _ _ f0
theorem fs_X8_pours_L30 {S0 : HS} {v1 : Int32} : ∀ (K : Nat) (v2 : Int32) (v3 : Int32) (S : HS), Fr wU S0 S → Pm (fun r => Fr wU S0 r.2) (s_X8_pours_L30 v1 K v2 v3 S) := by
  intro K
  induction K with
  | zero =>
    intros
    exact pm_none
  | succ K ih =>
    intro v2 v3 S f0
    rw [s_X8_pours_L30]
    refine pm_bind (fun a2 _ => ?_)
    refine pm_ite (fun _ => ?_) (fun _ => ?_)
    · exact pm_some f0
    · refine pm_bind (fun q3 _ => ?_)
      refine pm_ite (fun _ => ?_) (fun _ => ?_)
      · exact fs_X8_pours_L74 ih _ _ _ _ _ f0
      · refine pm_bind (fun q11 _ => ?_)
        refine pm_bind (fun q12 _ => ?_)
        exact fs_X8_pours_L74 ih _ _ _ _ _ f0
theorem fs_X8_pours_L4 {S0 : HS} {v1 : Int32} {v2 : Int32} : ∀ (K : Nat) (v3 : Int32) (S : HS), Fr wU S0 S → Pm (fun r => Fr wU S0 r.2) (s_X8_pours_L4 v1 v2 K v3 S) := by
  intro K
  induction K with
  | zero =>
    intros
    exact pm_none
  | succ K ih =>
    intro v3 S f0
    rw [s_X8_pours_L4]
    refine pm_bind (fun a1 _ => ?_)
    refine pm_ite (fun _ => ?_) (fun _ => ?_)
    · exact fs_X8_pours_L30 _ _ _ _ f0
    · refine pm_bind (fun S13 hS13 => ?_)
      have fS13 := fr_wa f0 (by unfold wU; omega) hS13
      exact ih _ _ fS13
theorem fs_X8_pours {S0 : HS} {v1 : Int32} {S : HS} (f0 : Fr wU S0 S) : Pm (fun r => Fr wU S0 r.2) (s_X8_pours v1 S) := by
  unfold s_X8_pours
  exact fs_X8_pours_L4 _ _ _ f0
/-! X8_looks -/
theorem fs_X8_looks_L196 {S0 : HS} : ∀ (K : Nat) (v5 : Int32) (S : HS), Fr wM S0 S → Pm (fun r => Fr wM S0 r) (s_X8_looks_L196 K v5 S) := by
  intro K
  induction K with
  | zero =>
    intros
    exact pm_none
  | succ K ih =>
    intro v5 S f0
    rw [s_X8_looks_L196]
    refine pm_ite (fun _ => ?_) (fun _ => ?_)
    · exact pm_some f0
    · refine pm_bind (fun a9 _ => ?_)
      refine pm_bind (fun S10 hS10 => ?_)
      have fS10 := fr_wa f0 (by unfold wM; omega) hS10
      refine pm_bind (fun a11 _ => ?_)
      refine pm_bind (fun S12 hS12 => ?_)
      have fS12 := fr_wa fS10 (by unfold wM; omega) hS12
      exact ih _ _ fS12
theorem fs_X8_looks_J160 {S0 : HS} {v2 : Int32} {v3 : Int32} {v4 : Int32} {S : HS} (f0 : Fr wM S0 S) : Pm (fun r => Fr wM S0 r) (s_X8_looks_J160 v2 v3 v4 S) := by
  unfold s_X8_looks_J160
  refine pm_bind (fun q4 _ => ?_)
  refine pm_ite (fun _ => ?_) (fun _ => ?_)
  · exact pm_some f0
  · refine pm_bind (fun q5 _ => ?_)
    refine pm_bind (fun q6 hq6 => ?_)
    have fq6 := fr_tr f0 (fs_X8_ordersOf fr_rf _ hq6) (fun k j => by unfold wQ wM; omega)
    refine pm_ite (fun _ => ?_) (fun _ => ?_)
    · refine pm_bind (fun S7 hS7 => ?_)
      have fS7 := fr_pf fq6 (by unfold wM; omega) hS7
      refine pm_bind (fun S8 hS8 => ?_)
      have fS8 := fr_pf fS7 (by unfold wM; omega) hS8
      exact fs_X8_looks_L196 _ _ _ fS8
    · exact pm_some fq6
theorem fs_X8_looks_L52 {S0 : HS} {v2 : Int32} {v3 : Int32} : ∀ (K : Nat) (v4 : Int32) (v5 : Int32) (S : HS), Fr wM S0 S → Pm (fun r => Fr wM S0 r) (s_X8_looks_L52 v2 v3 K v4 v5 S) := by
  intro K
  induction K with
  | zero =>
    intros
    exact pm_none
  | succ K ih =>
    intro v4 v5 S f0
    rw [s_X8_looks_L52]
    refine pm_bind (fun a3 _ => ?_)
    refine pm_ite (fun _ => ?_) (fun _ => ?_)
    · refine pm_ite (fun _ => ?_) (fun _ => ?_)
      · exact pm_some f0
      · refine pm_ite (fun _ => ?_) (fun _ => ?_)
        · exact fs_X8_looks_J160 f0
        · refine pm_ite (fun _ => ?_) (fun _ => ?_)
          · exact fs_X8_looks_J160 f0
          · exact pm_some f0
    · refine pm_bind (fun a13 _ => ?_)
      refine pm_ite (fun _ => ?_) (fun _ => ?_)
      · refine pm_bind (fun a14 _ => ?_)
        refine pm_bind (fun S15 hS15 => ?_)
        have fS15 := fr_wa f0 (by unfold wM; omega) hS15
        refine pm_bind (fun a16 _ => ?_)
        refine pm_bind (fun S17 hS17 => ?_)
        have fS17 := fr_wa fS15 (by unfold wM; omega) hS17
        refine pm_bind (fun a18 _ => ?_)
        refine pm_bind (fun q19 _ => ?_)
        refine pm_bind (fun S20 hS20 => ?_)
        have fS20 := fr_wa fS17 (by unfold wM; omega) hS20
        exact ih _ _ _ fS20
      · exact ih _ _ _ f0
theorem fs_X8_looks_L17 {S0 : HS} {v2 : Int32} : ∀ (K : Nat) (v3 : Int32) (v4 : Int32) (S : HS), Fr wM S0 S → Pm (fun r => Fr wM S0 r) (s_X8_looks_L17 v2 K v3 v4 S) := by
  intro K
  induction K with
  | zero =>
    intros
    exact pm_none
  | succ K ih =>
    intro v3 v4 S f0
    rw [s_X8_looks_L17]
    refine pm_ite (fun _ => ?_) (fun _ => ?_)
    · refine pm_bind (fun q2 hq2 => ?_)
      have fq2 := fr_tr f0 (fs_X8_laysNow fr_rf _ hq2) (fun k j => by unfold wN wM; omega)
      exact fs_X8_looks_L52 _ _ _ _ fq2
    · refine pm_bind (fun q21 _ => ?_)
      refine pm_ite (fun _ => ?_) (fun _ => ?_)
      · exact ih _ _ _ f0
      · exact ih _ _ _ f0
theorem fs_X8_looks {S0 : HS} {v1 : Int32} {S : HS} (f0 : Fr wM S0 S) : Pm (fun r => Fr wM S0 r) (s_X8_looks v1 S) := by
  unfold s_X8_looks
  refine pm_bind (fun q1 hq1 => ?_)
  have fq1 := fr_tr f0 (fs_X8_pours fr_rf _ hq1) (fun k j => by unfold wU wM; omega)
  refine pm_ite (fun _ => ?_) (fun _ => ?_)
  · exact fs_X8_looks_L17 _ _ _ _ fq1
  · exact pm_some fq1
/-! X8_tries -/
theorem fs_X8_tries_J72 {S0 : HS} {v1 : Int32} {v2 : Int32} {S : HS} {self : Int32 → Int32 → HS → Option HS} (hself : ∀ (v1 : Int32) (v2 : Int32) (S : HS), Fr wM S0 S → Pm (fun r => Fr wM S0 r) (self v1 v2 S)) (f0 : Fr wM S0 S) : Pm (fun r => Fr wM S0 r) (s_X8_tries_J72 self v1 v2 S) := by
  unfold s_X8_tries_J72
  refine pm_bind (fun S3 hS3 => ?_)
  have fS3 := fr_wa f0 (by unfold wM; omega) hS3
  refine pm_bind (fun q4 hq4 => ?_)
  have fq4 := hself _ _ _ fS3 _ hq4
  exact pm_some fq4
theorem fs_X8_tries_L19 {S0 : HS} {v1 : Int32} {v2 : Int32} {self : Int32 → Int32 → HS → Option HS} (hself : ∀ (v1 : Int32) (v2 : Int32) (S : HS), Fr wM S0 S → Pm (fun r => Fr wM S0 r) (self v1 v2 S)) : ∀ (K : Nat) (v3 : Int32) (S : HS), Fr wM S0 S → Pm (fun r => Fr wM S0 r) (s_X8_tries_L19 self v1 v2 K v3 S) := by
  intro K
  induction K with
  | zero =>
    intros
    exact pm_none
  | succ K ih =>
    intro v3 S f0
    rw [s_X8_tries_L19]
    refine pm_bind (fun a2 _ => ?_)
    refine pm_ite (fun _ => ?_) (fun _ => ?_)
    · exact fs_X8_tries_J72 hself f0
    · refine pm_bind (fun q5 _ => ?_)
      refine pm_ite (fun _ => ?_) (fun _ => ?_)
      · exact fs_X8_tries_J72 hself f0
      · refine pm_bind (fun q6 _ => ?_)
        refine pm_ite (fun _ => ?_) (fun _ => ?_)
        · refine pm_bind (fun S7 hS7 => ?_)
          have fS7 := fr_wa f0 (by unfold wM; omega) hS7
          refine pm_bind (fun q8 hq8 => ?_)
          have fq8 := hself _ _ _ fS7 _ hq8
          exact ih _ _ fq8
        · exact ih _ _ f0
theorem fb_X8_tries {S0 : HS} {v1 : Int32} {v2 : Int32} {S : HS} {self : Int32 → Int32 → HS → Option HS} (hself : ∀ (v1 : Int32) (v2 : Int32) (S : HS), Fr wM S0 S → Pm (fun r => Fr wM S0 r) (self v1 v2 S)) (f0 : Fr wM S0 S) : Pm (fun r => Fr wM S0 r) (s_X8_tries_B self v1 v2 S) := by
  unfold s_X8_tries_B
  refine pm_bind (fun a1 _ => ?_)
  refine pm_ite (fun _ => ?_) (fun _ => ?_)
  · exact fs_X8_tries_L19 hself _ _ _ f0
  · refine pm_bind (fun q9 hq9 => ?_)
    have fq9 := fr_tr f0 (fs_X8_looks fr_rf _ hq9) (fun _ _ z => z)
    exact pm_some fq9
theorem fs_X8_tries {S0 : HS} : ∀ (r : Nat) (v1 : Int32) (v2 : Int32) (S : HS), Fr wM S0 S → Pm (fun r => Fr wM S0 r) (s_X8_tries r v1 v2 S) := by
  intro r
  induction r with
  | zero =>
    intros
    exact pm_none
  | succ r ih =>
    intro v1 v2 S f0
    rw [s_X8_tries]
    exact fb_X8_tries ih f0
/-! X8_laysPlan -/
theorem fs_X8_laysPlan_L12 {S0 : HS} {v1 : Int32} : ∀ (K : Nat) (v2 : Int32) (S : HS), Fr wM S0 S → Pm (fun r => Fr wM S0 r) (s_X8_laysPlan_L12 v1 K v2 S) := by
  intro K
  induction K with
  | zero =>
    intros
    exact pm_none
  | succ K ih =>
    intro v2 S f0
    rw [s_X8_laysPlan_L12]
    refine pm_ite (fun _ => ?_) (fun _ => ?_)
    · refine pm_bind (fun q3 hq3 => ?_)
      have fq3 := fr_tr f0 (fs_X8_tries _ _ _ _ fr_rf _ hq3) (fun _ _ z => z)
      exact pm_some fq3
    · refine pm_bind (fun S4 hS4 => ?_)
      have fS4 := fr_wa f0 (by unfold wM; omega) hS4
      refine pm_bind (fun S5 hS5 => ?_)
      have fS5 := fr_wa fS4 (by unfold wM; omega) hS5
      refine pm_bind (fun S6 hS6 => ?_)
      have fS6 := fr_wa fS5 (by unfold wM; omega) hS6
      exact ih _ _ fS6
theorem fs_X8_laysPlan {S0 : HS} {v1 : Int32} {S : HS} (f0 : Fr wM S0 S) : Pm (fun r => Fr wM S0 r) (s_X8_laysPlan v1 S) := by
  unfold s_X8_laysPlan
  refine pm_bind (fun S1 hS1 => ?_)
  have fS1 := fr_pf f0 (by unfold wM; omega) hS1
  refine pm_bind (fun S2 hS2 => ?_)
  have fS2 := fr_pf fS1 (by unfold wM; omega) hS2
  exact fs_X8_laysPlan_L12 _ _ _ fS2
/-! X8_plan -/
theorem fs_X8_plan_J52 {S0 : HS} {v1 : Int32} {v2 : Int32} {S : HS} (f0 : Fr wD S0 S) : Pm (fun r => Fr wD S0 r.2) (s_X8_plan_J52 v1 v2 S) := by
  unfold s_X8_plan_J52
  refine pm_bind (fun q3 hq3 => ?_)
  have fq3 := fr_tr f0 (fs_X8_laysPlan fr_rf _ hq3) (fun _ _ _ => trivial)
  refine pm_ite (fun _ => ?_) (fun _ => ?_)
  · refine pm_ite (fun _ => ?_) (fun _ => ?_)
    · refine pm_ite (fun _ => ?_) (fun _ => ?_)
      · refine pm_ite (fun _ => ?_) (fun _ => ?_)
        · refine pm_bind (fun a4 _ => ?_)
          exact pm_some fq3
        · refine pm_bind (fun a5 _ => ?_)
          exact pm_some fq3
      · exact pm_some fq3
    · exact pm_some fq3
  · exact pm_some fq3
theorem fs_X8_plan_J22 {S0 : HS} {v1 : Int32} {x0 : Int32} {S : HS} (f0 : Fr wD S0 S) : Pm (fun r => Fr wD S0 r.2) (s_X8_plan_J22 v1 x0 S) := by
  unfold s_X8_plan_J22
  refine pm_bind (fun q2 _ => ?_)
  refine pm_ite (fun _ => ?_) (fun _ => ?_)
  · exact fs_X8_plan_J52 f0
  · refine pm_bind (fun q6 _ => ?_)
    refine pm_ite (fun _ => ?_) (fun _ => ?_)
    · exact pm_some f0
    · refine pm_bind (fun q7 _ => ?_)
      refine pm_ite (fun _ => ?_) (fun _ => ?_)
      · exact fs_X8_plan_J52 f0
      · exact pm_some f0
theorem fs_X8_plan {S0 : HS} {v1 : Int32} {S : HS} (f0 : Fr wD S0 S) : Pm (fun r => Fr wD S0 r.2) (s_X8_plan v1 S) := by
  unfold s_X8_plan
  refine pm_bind (fun S1 hS1 => ?_)
  have fS1 := fr_pf f0 trivial hS1
  refine pm_ite (fun _ => ?_) (fun _ => ?_)
  · exact fs_X8_plan_J22 fS1
  · exact fs_X8_plan_J22 fS1
/-! X8_washes -/
theorem fs_X8_washes_J105 {S0 : HS} {rc46 : Int32 → Int32 → HS → Option (Int32 × HS)} {v1 : Int32} {v2 : Int32} {v3 : Int32} {v4 : Int32} {S : HS} (hrc46 : ∀ (v2 : Int32) (v3 : Int32) (S : HS), Fr wD S0 S → Pm (fun r => Fr wD S0 r.2) (rc46 v2 v3 S)) (f0 : Fr wD S0 S) : Pm (fun r => Fr wD S0 r.2) (s_X8_washes_J105 rc46 v1 v2 v3 v4 S) := by
  unfold s_X8_washes_J105
  refine pm_bind (fun q3 hq3 => ?_)
  have fq3 := fr_tr f0 (fs_X8_laysPlan fr_rf _ hq3) (fun _ _ _ => trivial)
  refine pm_bind (fun q4 _ => ?_)
  refine pm_ite (fun _ => ?_) (fun _ => ?_)
  · exact hrc46 _ _ _ fq3
  · exact hrc46 _ _ _ fq3
theorem fs_X8_washes_L58 {S0 : HS} {rc46 : Int32 → Int32 → HS → Option (Int32 × HS)} {v1 : Int32} {v2 : Int32} {v3 : Int32} (hrc46 : ∀ (v2 : Int32) (v3 : Int32) (S : HS), Fr wD S0 S → Pm (fun r => Fr wD S0 r.2) (rc46 v2 v3 S)) : ∀ (K : Nat) (v4 : Int32) (v5 : Int32) (S : HS), Fr wD S0 S → Pm (fun r => Fr wD S0 r.2) (s_X8_washes_L58 rc46 v1 v2 v3 K v4 v5 S) := by
  intro K
  induction K with
  | zero =>
    intros
    exact pm_none
  | succ K ih =>
    intro v4 v5 S f0
    rw [s_X8_washes_L58]
    refine pm_ite (fun _ => ?_) (fun _ => ?_)
    · refine pm_ite (fun _ => ?_) (fun _ => ?_)
      · exact hrc46 _ _ _ f0
      · refine pm_ite (fun _ => ?_) (fun _ => ?_)
        · exact fs_X8_washes_J105 hrc46 f0
        · refine pm_ite (fun _ => ?_) (fun _ => ?_)
          · exact fs_X8_washes_J105 hrc46 f0
          · exact hrc46 _ _ _ f0
    · refine pm_bind (fun q5 _ => ?_)
      refine pm_ite (fun _ => ?_) (fun _ => ?_)
      · exact ih _ _ _ f0
      · exact ih _ _ _ f0
theorem fs_X8_washes_L46 {S0 : HS} {v1 : Int32} : ∀ (K : Nat) (v2 : Int32) (v3 : Int32) (S : HS), Fr wD S0 S → Pm (fun r => Fr wD S0 r.2) (s_X8_washes_L46 v1 K v2 v3 S) := by
  intro K
  induction K with
  | zero =>
    intros
    exact pm_none
  | succ K ih =>
    intro v2 v3 S f0
    rw [s_X8_washes_L46]
    refine pm_ite (fun _ => ?_) (fun _ => ?_)
    · exact pm_some f0
    · exact fs_X8_washes_L58 ih _ _ _ _ f0
theorem fs_X8_washes_L9 {S0 : HS} : ∀ (K : Nat) (v1 : Int32) (v2 : Int32) (S : HS), Fr wD S0 S → Pm (fun r => Fr wD S0 r.2) (s_X8_washes_L9 K v1 v2 S) := by
  intro K
  induction K with
  | zero =>
    intros
    exact pm_none
  | succ K ih =>
    intro v1 v2 S f0
    rw [s_X8_washes_L9]
    refine pm_bind (fun a2 _ => ?_)
    refine pm_ite (fun _ => ?_) (fun _ => ?_)
    · exact fs_X8_washes_L46 _ _ _ _ f0
    · refine pm_bind (fun q6 _ => ?_)
      refine pm_ite (fun _ => ?_) (fun _ => ?_)
      · exact ih _ _ _ f0
      · exact ih _ _ _ f0
theorem fs_X8_washes {S0 : HS} {S : HS} (f0 : Fr wD S0 S) : Pm (fun r => Fr wD S0 r.2) (s_X8_washes S) := by
  unfold s_X8_washes
  refine pm_bind (fun S1 hS1 => ?_)
  have fS1 := fr_pf f0 trivial hS1
  exact fs_X8_washes_L9 _ _ _ _ fS1
/-! X8_snap -/
theorem fs_X8_snap_L52 {S0 : HS} : ∀ (K : Nat) (v1 : Int32) (S : HS), Fr wZ S0 S → Pm (fun r => Fr wZ S0 r) (s_X8_snap_L52 K v1 S) := by
  intro K
  induction K with
  | zero =>
    intros
    exact pm_none
  | succ K ih =>
    intro v1 S f0
    rw [s_X8_snap_L52]
    refine pm_ite (fun _ => ?_) (fun _ => ?_)
    · refine pm_bind (fun S1 hS1 => ?_)
      have fS1 := fr_pf f0 (by unfold wZ; omega) hS1
      exact pm_some fS1
    · refine pm_bind (fun a2 _ => ?_)
      refine pm_bind (fun S3 hS3 => ?_)
      have fS3 := fr_wa f0 (by unfold wZ; omega) hS3
      exact ih _ _ fS3
theorem fs_X8_snap_L11 {S0 : HS} : ∀ (K : Nat) (v1 : Int32) (S : HS), Fr wZ S0 S → Pm (fun r => Fr wZ S0 r) (s_X8_snap_L11 K v1 S) := by
  intro K
  induction K with
  | zero =>
    intros
    exact pm_none
  | succ K ih =>
    intro v1 S f0
    rw [s_X8_snap_L11]
    refine pm_ite (fun _ => ?_) (fun _ => ?_)
    · refine pm_bind (fun S4 hS4 => ?_)
      have fS4 := fr_pf f0 (by unfold wZ; omega) hS4
      exact fs_X8_snap_L52 _ _ _ fS4
    · refine pm_bind (fun a5 _ => ?_)
      refine pm_bind (fun S6 hS6 => ?_)
      have fS6 := fr_wa f0 (by unfold wZ; omega) hS6
      exact ih _ _ fS6
theorem fs_X8_snap {S0 : HS} {S : HS} (f0 : Fr wZ S0 S) : Pm (fun r => Fr wZ S0 r) (s_X8_snap S) := by
  unfold s_X8_snap
  refine pm_ite (fun _ => ?_) (fun _ => ?_)
  · exact fs_X8_snap_L52 _ _ _ f0
  · exact fs_X8_snap_L11 _ _ _ f0
/-! X8_asks -/
theorem fs_X8_asks {S0 : HS} {v1 : Int32} {v2 : Int32} {S : HS} (f0 : Fr wD S0 S) : Pm (fun r => Fr wD S0 r.2) (s_X8_asks v1 v2 S) := by
  unfold s_X8_asks
  refine pm_bind (fun S1 hS1 => ?_)
  have fS1 := fr_pf f0 trivial hS1
  refine pm_bind (fun q2 _ => ?_)
  refine pm_ite (fun _ => ?_) (fun _ => ?_)
  · exact pm_some fS1
  · refine pm_bind (fun q3 _ => ?_)
    refine pm_ite (fun _ => ?_) (fun _ => ?_)
    · refine pm_bind (fun q4 _ => ?_)
      refine pm_ite (fun _ => ?_) (fun _ => ?_)
      · refine pm_bind (fun a5 _ => ?_)
        refine pm_ite (fun _ => ?_) (fun _ => ?_)
        · refine pm_bind (fun q6 hq6 => ?_)
          have fq6 := fr_tr fS1 (fs_X8_snap fr_rf _ hq6) (fun _ _ _ => trivial)
          refine pm_bind (fun a7 _ => ?_)
          refine pm_bind (fun S8 hS8 => ?_)
          have fS8 := fr_wa fq6 trivial hS8
          refine pm_bind (fun S9 hS9 => ?_)
          have fS9 := fr_wa fS8 trivial hS9
          refine pm_bind (fun S10 hS10 => ?_)
          have fS10 := fr_wa fS9 trivial hS10
          refine pm_bind (fun S11 hS11 => ?_)
          have fS11 := fr_wa fS10 trivial hS11
          refine pm_bind (fun S12 hS12 => ?_)
          have fS12 := fr_wa fS11 trivial hS12
          refine pm_bind (fun a13 _ => ?_)
          refine pm_bind (fun S14 hS14 => ?_)
          have fS14 := fr_wa fS12 trivial hS14
          exact pm_some fS14
        · exact pm_some fS1
      · exact pm_some fS1
    · exact pm_some fS1
/-! X8_cancel -/
theorem fs_X8_cancel {S0 : HS} {v1 : Int32} {S : HS} (f0 : Fr wD S0 S) : Pm (fun r => Fr wD S0 r.2) (s_X8_cancel v1 S) := by
  unfold s_X8_cancel
  refine pm_bind (fun S1 hS1 => ?_)
  have fS1 := fr_pf f0 trivial hS1
  refine pm_bind (fun q2 _ => ?_)
  refine pm_ite (fun _ => ?_) (fun _ => ?_)
  · exact pm_some fS1
  · refine pm_bind (fun q3 _ => ?_)
    refine pm_ite (fun _ => ?_) (fun _ => ?_)
    · exact pm_some fS1
    · refine pm_bind (fun q4 _ => ?_)
      refine pm_ite (fun _ => ?_) (fun _ => ?_)
      · refine pm_bind (fun q5 hq5 => ?_)
        have fq5 := fr_tr fS1 (fs_X8_snap fr_rf _ hq5) (fun _ _ _ => trivial)
        refine pm_bind (fun S6 hS6 => ?_)
        have fS6 := fr_wa fq5 trivial hS6
        exact pm_some fS6
      · exact pm_some fS1
/-! X8_puts -/
theorem fs_X8_puts {S0 : HS} {v1 : Int32} {v2 : Int32} {v3 : Int32} {S : HS} (f0 : Fr w9 S0 S) : Pm (fun r => Fr w9 S0 r) (s_X8_puts v1 v2 v3 S) := by
  unfold s_X8_puts
  refine pm_bind (fun S1 hS1 => ?_)
  have fS1 := fr_wa f0 (by unfold w9; omega) hS1
  refine pm_bind (fun S2 hS2 => ?_)
  have fS2 := fr_wa fS1 (by unfold w9; omega) hS2
  refine pm_bind (fun q3 _ => ?_)
  refine pm_bind (fun S4 hS4 => ?_)
  have fS4 := fr_wa fS2 (by unfold w9; omega) hS4
  refine pm_bind (fun q5 _ => ?_)
  refine pm_bind (fun q6 _ => ?_)
  refine pm_ite (fun _ => ?_) (fun _ => ?_)
  · exact pm_some fS4
  · refine pm_bind (fun S7 hS7 => ?_)
    have fS7 := fr_wa fS4 (by unfold w9; omega) hS7
    exact pm_some fS7
/-! X8_put -/
theorem fs_X8_put_J108 {S0 : HS} {v1 : Int32} {v2 : Int32} {x0 : Int32} {S : HS} (f0 : Fr wD S0 S) : Pm (fun r => Fr wD S0 r.2) (s_X8_put_J108 v1 v2 x0 S) := by
  unfold s_X8_put_J108
  refine pm_bind (fun q14 hq14 => ?_)
  have fq14 := fr_tr f0 (fs_X8_puts fr_rf _ hq14) (fun _ _ _ => trivial)
  exact pm_some fq14
theorem fs_X8_put {S0 : HS} {v1 : Int32} {v2 : Int32} {S : HS} (f0 : Fr wD S0 S) : Pm (fun r => Fr wD S0 r.2) (s_X8_put v1 v2 S) := by
  unfold s_X8_put
  refine pm_bind (fun S1 hS1 => ?_)
  have fS1 := fr_pf f0 trivial hS1
  refine pm_bind (fun q2 _ => ?_)
  refine pm_ite (fun _ => ?_) (fun _ => ?_)
  · exact pm_some fS1
  · refine pm_bind (fun q3 _ => ?_)
    refine pm_ite (fun _ => ?_) (fun _ => ?_)
    · exact pm_some fS1
    · refine pm_bind (fun q4 _ => ?_)
      refine pm_ite (fun _ => ?_) (fun _ => ?_)
      · refine pm_bind (fun q5 _ => ?_)
        refine pm_ite (fun _ => ?_) (fun _ => ?_)
        · refine pm_bind (fun q6 _ => ?_)
          refine pm_bind (fun q7 _ => ?_)
          refine pm_ite (fun _ => ?_) (fun _ => ?_)
          · refine pm_bind (fun q8 _ => ?_)
            refine pm_ite (fun _ => ?_) (fun _ => ?_)
            · refine pm_bind (fun q9 hq9 => ?_)
              have fq9 := fr_tr fS1 (fs_X8_snap fr_rf _ hq9) (fun _ _ _ => trivial)
              refine pm_bind (fun q10 _ => ?_)
              refine pm_bind (fun q11 _ => ?_)
              refine pm_bind (fun q12 _ => ?_)
              refine pm_ite (fun _ => ?_) (fun _ => ?_)
              · refine pm_bind (fun q13 _ => ?_)
                exact fs_X8_put_J108 fq9
              · exact fs_X8_put_J108 fq9
            · exact pm_some fS1
          · exact pm_some fS1
        · exact pm_some fS1
      · exact pm_some fS1
