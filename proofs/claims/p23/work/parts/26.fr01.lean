/-! X7_tapeNumber -/
theorem fs_X7_tapeNumber_L3 {S0 : HS} {v1 : Int32} : ∀ (K : Nat) (v2 : Int32) (S : HS), Fr wTp S0 S → Pm (fun r => Fr wTp S0 r) (s_X7_tapeNumber_L3 v1 K v2 S) := by
  intro K
  induction K with
  | zero =>
    intros
    exact pm_none
  | succ K ih =>
    intro v2 S f0
    rw [s_X7_tapeNumber_L3]
    refine pm_ite (fun _ => ?_) (fun _ => ?_)
    · exact pm_some f0
    · refine pm_ite (fun _ => ?_) (fun _ => ?_)
      · exact ih _ _ f0
      · refine pm_bind (fun S1 hS1 => ?_)
        have fS1 := fr_wa f0 (by unfold wTp; omega) hS1
        refine pm_bind (fun S2 hS2 => ?_)
        have fS2 := fr_pf fS1 (by unfold wTp; omega) hS2
        exact ih _ _ fS2
theorem fs_X7_tapeNumber {S0 : HS} {v1 : Int32} {S : HS} (f0 : Fr wTp S0 S) : Pm (fun r => Fr wTp S0 r) (s_X7_tapeNumber v1 S) := by
  unfold s_X7_tapeNumber
  exact fs_X7_tapeNumber_L3 _ _ _ f0
/-! X7_feed -/
theorem fs_X7_feed {S0 : HS} {v1 : Int32} {v2 : Int32} {v3 : Int32} {v4 : Int32} {v5 : Int32} {S : HS} (f0 : Fr wD S0 S) : Pm (fun r => Fr wD S0 r.2) (s_X7_feed v1 v2 v3 v4 v5 S) := by
  unfold s_X7_feed
  refine pm_ite (fun _ => ?_) (fun _ => ?_)
  · refine pm_bind (fun q1 hq1 => ?_)
    have fq1 := fr_tr f0 (fs_X7_tapeNumber fr_rf _ hq1) (fun _ _ _ => trivial)
    refine pm_bind (fun q2 hq2 => ?_)
    have fq2 := fr_tr fq1 (fs_X7_tapeNumber fr_rf _ hq2) (fun _ _ _ => trivial)
    refine pm_bind (fun q3 hq3 => ?_)
    have fq3 := fr_tr fq2 (fs_X7_tapeNumber fr_rf _ hq3) (fun _ _ _ => trivial)
    refine pm_bind (fun q4 hq4 => ?_)
    have fq4 := fr_tr fq3 (fs_X7_tapeNumber fr_rf _ hq4) (fun _ _ _ => trivial)
    refine pm_bind (fun q5 hq5 => ?_)
    have fq5 := fr_tr fq4 (fs_X7_tapeNumber fr_rf _ hq5) (fun _ _ _ => trivial)
    exact pm_some fq5
  · exact pm_some f0
/-! X7_end -/
theorem fs_X7_end {S0 : HS} {v1 : Int32} {S : HS} (f0 : Fr wD S0 S) : Pm (fun r => Fr wD S0 r.2) (s_X7_end v1 S) := by
  unfold s_X7_end
  refine pm_ite (fun _ => ?_) (fun _ => ?_)
  · exact pm_some f0
  · refine pm_ite (fun _ => ?_) (fun _ => ?_)
    · refine pm_bind (fun S1 hS1 => ?_)
      have fS1 := fr_pf f0 trivial hS1
      exact pm_some fS1
    · exact pm_some f0
/-! X6_clear -/
theorem fs_X6_clear {S0 : HS} {t : Nat} {S : HS} (f0 : Fr (wTt t) S0 S) : Pm (fun r => Fr (wTt t) S0 r) (s_X6_clear t S) := by
  unfold s_X6_clear
  refine pm_bind (fun S1 hS1 => ?_)
  have fS1 := fr_wf f0 (by unfold wTt; omega) hS1
  refine pm_bind (fun S2 hS2 => ?_)
  have fS2 := fr_wa fS1 (by unfold wTt; omega) hS2
  refine pm_bind (fun S3 hS3 => ?_)
  have fS3 := fr_pf fS2 (by unfold wTt; omega) hS3
  refine pm_bind (fun S4 hS4 => ?_)
  have fS4 := fr_wf fS3 (by unfold wTt; omega) hS4
  refine pm_bind (fun S5 hS5 => ?_)
  have fS5 := fr_pf fS4 (by unfold wTt; omega) hS5
  refine pm_bind (fun S6 hS6 => ?_)
  have fS6 := fr_pl fS5 (by unfold wTt; omega) hS6
  refine pm_bind (fun S7 hS7 => ?_)
  have fS7 := fr_pf fS6 (by unfold wTt; omega) hS7
  exact pm_some fS7
/-! X4_advanceRun -/
theorem fs_X4_advanceRun_J141 {S0 : HS} {v1 : Int32} {v2 : Int32} {S : HS} (f0 : Fr w2 S0 S) : Pm (fun r => Fr w2 S0 r) (s_X4_advanceRun_J141 v1 v2 S) := by
  unfold s_X4_advanceRun_J141
  refine pm_ite (fun _ => ?_) (fun _ => ?_)
  · refine pm_bind (fun S2 hS2 => ?_)
    have fS2 := fr_pf f0 (by unfold w2; omega) hS2
    exact pm_some fS2
  · refine pm_ite (fun _ => ?_) (fun _ => ?_)
    · refine pm_bind (fun S3 hS3 => ?_)
      have fS3 := fr_pf f0 (by unfold w2; omega) hS3
      exact pm_some fS3
    · refine pm_ite (fun _ => ?_) (fun _ => ?_)
      · refine pm_bind (fun S4 hS4 => ?_)
        have fS4 := fr_pf f0 (by unfold w2; omega) hS4
        exact pm_some fS4
      · refine pm_bind (fun S5 hS5 => ?_)
        have fS5 := fr_pf f0 (by unfold w2; omega) hS5
        exact pm_some fS5
theorem fs_X4_advanceRun_J115 {S0 : HS} {v1 : Int32} {S : HS} (f0 : Fr w2 S0 S) : Pm (fun r => Fr w2 S0 r) (s_X4_advanceRun_J115 v1 S) := by
  unfold s_X4_advanceRun_J115
  refine pm_ite (fun _ => ?_) (fun _ => ?_)
  · exact fs_X4_advanceRun_J141 f0
  · refine pm_ite (fun _ => ?_) (fun _ => ?_)
    · exact fs_X4_advanceRun_J141 f0
    · refine pm_bind (fun S6 hS6 => ?_)
      have fS6 := fr_pf f0 (by unfold w2; omega) hS6
      exact pm_some fS6
theorem fs_X4_advanceRun_J48 {S0 : HS} {rc7 : Int32 → HS → Option HS} {v1 : Int32} {S : HS} (hrc7 : ∀ (v1 : Int32) (S : HS), Fr w2 S0 S → Pm (fun r => Fr w2 S0 r) (rc7 v1 S)) (f0 : Fr w2 S0 S) : Pm (fun r => Fr w2 S0 r) (s_X4_advanceRun_J48 rc7 v1 S) := by
  unfold s_X4_advanceRun_J48
  refine pm_bind (fun _ _ => ?_)
  refine pm_bind (fun a9 _ => ?_)
  refine pm_bind (fun q10 _ => ?_)
  refine pm_ite (fun _ => ?_) (fun _ => ?_)
  · refine pm_bind (fun S11 hS11 => ?_)
    have fS11 := fr_pf f0 (by unfold w2; omega) hS11
    exact hrc7 _ _ fS11
  · refine pm_ite (fun _ => ?_) (fun _ => ?_)
    · refine pm_bind (fun S12 hS12 => ?_)
      have fS12 := fr_pf f0 (by unfold w2; omega) hS12
      refine pm_bind (fun S13 hS13 => ?_)
      have fS13 := fr_pf fS12 (by unfold w2; omega) hS13
      exact hrc7 _ _ fS13
    · refine pm_bind (fun _ _ => ?_)
      refine pm_bind (fun a14 _ => ?_)
      refine pm_bind (fun S15 hS15 => ?_)
      have fS15 := fr_pf f0 (by unfold w2; omega) hS15
      refine pm_bind (fun S16 hS16 => ?_)
      have fS16 := fr_pf fS15 (by unfold w2; omega) hS16
      exact hrc7 _ _ fS16
theorem fs_X4_advanceRun_L7 {S0 : HS} : ∀ (K : Nat) (v1 : Int32) (S : HS), Fr w2 S0 S → Pm (fun r => Fr w2 S0 r) (s_X4_advanceRun_L7 K v1 S) := by
  intro K
  induction K with
  | zero =>
    intros
    exact pm_none
  | succ K ih =>
    intro v1 S f0
    rw [s_X4_advanceRun_L7]
    refine pm_ite (fun _ => ?_) (fun _ => ?_)
    · exact fs_X4_advanceRun_J115 f0
    · refine pm_bind (fun _ _ => ?_)
      refine pm_bind (fun a7 _ => ?_)
      refine pm_bind (fun q8 _ => ?_)
      refine pm_ite (fun _ => ?_) (fun _ => ?_)
      · exact fs_X4_advanceRun_J48 ih f0
      · refine pm_bind (fun _ _ => ?_)
        refine pm_bind (fun a17 _ => ?_)
        refine pm_bind (fun q18 _ => ?_)
        refine pm_ite (fun _ => ?_) (fun _ => ?_)
        · exact fs_X4_advanceRun_J115 f0
        · exact fs_X4_advanceRun_J48 ih f0
theorem fs_X4_advanceRun {S0 : HS} {S : HS} (f0 : Fr w2 S0 S) : Pm (fun r => Fr w2 S0 r) (s_X4_advanceRun S) := by
  unfold s_X4_advanceRun
  refine pm_bind (fun S1 hS1 => ?_)
  have fS1 := fr_pf f0 (by unfold w2; omega) hS1
  exact fs_X4_advanceRun_L7 _ _ _ fS1
/-! X4_advance -/
theorem fs_X4_advance_J95 {S0 : HS} {S : HS} (f0 : Fr w2 S0 S) : Pm (fun r => Fr w2 S0 r) (s_X4_advance_J95 S) := by
  unfold s_X4_advance_J95
  refine pm_ite (fun _ => ?_) (fun _ => ?_)
  · refine pm_bind (fun _ _ => ?_)
    refine pm_bind (fun a2 _ => ?_)
    refine pm_ite (fun _ => ?_) (fun _ => ?_)
    · refine pm_bind (fun q3 hq3 => ?_)
      have fq3 := fr_tr f0 (fs_X4_advanceRun fr_rf _ hq3) (fun _ _ z => z)
      exact pm_some fq3
    · refine pm_bind (fun S4 hS4 => ?_)
      have fS4 := fr_pf f0 (by unfold w2; omega) hS4
      refine pm_bind (fun S5 hS5 => ?_)
      have fS5 := fr_pf fS4 (by unfold w2; omega) hS5
      exact pm_some fS5
  · refine pm_bind (fun S6 hS6 => ?_)
    have fS6 := fr_pf f0 (by unfold w2; omega) hS6
    exact pm_some fS6
theorem fs_X4_advance_J52 {S0 : HS} {S : HS} (f0 : Fr w2 S0 S) : Pm (fun r => Fr w2 S0 r) (s_X4_advance_J52 S) := by
  unfold s_X4_advance_J52
  refine pm_bind (fun S1 hS1 => ?_)
  have fS1 := fr_pf f0 (by unfold w2; omega) hS1
  refine pm_ite (fun _ => ?_) (fun _ => ?_)
  · exact fs_X4_advance_J95 fS1
  · refine pm_ite (fun _ => ?_) (fun _ => ?_)
    · exact fs_X4_advance_J95 fS1
    · refine pm_bind (fun S7 hS7 => ?_)
      have fS7 := fr_pf fS1 (by unfold w2; omega) hS7
      refine pm_bind (fun S8 hS8 => ?_)
      have fS8 := fr_pf fS7 (by unfold w2; omega) hS8
      exact pm_some fS8
theorem fs_X4_advance_L0 {S0 : HS} : ∀ (K : Nat) (S : HS), Fr w2 S0 S → Pm (fun r => Fr w2 S0 r) (s_X4_advance_L0 K S) := by
  intro K
  induction K with
  | zero =>
    intros
    exact pm_none
  | succ K ih =>
    intro S f0
    rw [s_X4_advance_L0]
    refine pm_ite (fun _ => ?_) (fun _ => ?_)
    · exact fs_X4_advance_J52 f0
    · refine pm_bind (fun _ _ => ?_)
      refine pm_bind (fun a9 _ => ?_)
      refine pm_ite (fun _ => ?_) (fun _ => ?_)
      · refine pm_bind (fun S10 hS10 => ?_)
        have fS10 := fr_pf f0 (by unfold w2; omega) hS10
        exact ih _ fS10
      · refine pm_bind (fun _ _ => ?_)
        refine pm_bind (fun a11 _ => ?_)
        refine pm_ite (fun _ => ?_) (fun _ => ?_)
        · exact fs_X4_advance_J52 f0
        · refine pm_bind (fun S12 hS12 => ?_)
          have fS12 := fr_pf f0 (by unfold w2; omega) hS12
          exact ih _ fS12
theorem fs_X4_advance {S0 : HS} {S : HS} (f0 : Fr w2 S0 S) : Pm (fun r => Fr w2 S0 r) (s_X4_advance S) := by
  unfold s_X4_advance
  exact fs_X4_advance_L0 _ _ f0
/-! X4_refuse -/
theorem fs_X4_refuse {S0 : HS} {v1 : Int32} {S : HS} (f0 : Fr w2 S0 S) : Pm (fun r => Fr w2 S0 r.2) (s_X4_refuse v1 S) := by
  unfold s_X4_refuse
  refine pm_bind (fun S1 hS1 => ?_)
  have fS1 := fr_pf f0 (by unfold w2; omega) hS1
  refine pm_bind (fun S2 hS2 => ?_)
  have fS2 := fr_pf fS1 (by unfold w2; omega) hS2
  exact pm_some fS2
/-! X4_readNumber -/
theorem fs_X4_readNumber_J34 {S0 : HS} {S : HS} (f0 : Fr w2 S0 S) : Pm (fun r => Fr w2 S0 r.2) (s_X4_readNumber_J34 S) := by
  unfold s_X4_readNumber_J34
  refine pm_bind (fun q2 hq2 => ?_)
  have fq2 := fr_tr f0 (fs_X4_refuse fr_rf _ hq2) (fun _ _ z => z)
  refine pm_ite (fun _ => ?_) (fun _ => ?_)
  · exact pm_some fq2
  · exact pm_some fq2
theorem fs_X4_readNumber {S0 : HS} {v1 : Int32} {v2 : Int32} {S : HS} (f0 : Fr w2 S0 S) : Pm (fun r => Fr w2 S0 r.2) (s_X4_readNumber v1 v2 S) := by
  unfold s_X4_readNumber
  refine pm_bind (fun q1 hq1 => ?_)
  have fq1 := fr_tr f0 (fs_X4_advance fr_rf _ hq1) (fun _ _ z => z)
  refine pm_ite (fun _ => ?_) (fun _ => ?_)
  · refine pm_ite (fun _ => ?_) (fun _ => ?_)
    · exact fs_X4_readNumber_J34 fq1
    · refine pm_ite (fun _ => ?_) (fun _ => ?_)
      · exact pm_some fq1
      · exact fs_X4_readNumber_J34 fq1
  · refine pm_bind (fun q3 hq3 => ?_)
    have fq3 := fr_tr fq1 (fs_X4_refuse fr_rf _ hq3) (fun _ _ z => z)
    refine pm_bind (fun _ _ => ?_)
    exact pm_some fq3
/-! X4_readTanker -/
theorem fs_X4_readTanker_J47 {S0 : HS} {rc17 : Int32 → HS → Option (Int32 × HS)} {v1 : Int32} {x0 : Int32} {S : HS} (hrc17 : ∀ (v1 : Int32) (S : HS), Fr wR S0 S → Pm (fun r => Fr wR S0 r.2) (rc17 v1 S)) (f0 : Fr wR S0 S) : Pm (fun r => Fr wR S0 r.2) (s_X4_readTanker_J47 rc17 v1 x0 S) := by
  unfold s_X4_readTanker_J47
  refine pm_bind (fun a3 _ => ?_)
  refine pm_bind (fun q4 hq4 => ?_)
  have fq4 := fr_tr f0 (fs_X4_readNumber fr_rf _ hq4) (fun k j => by unfold w2 wR; omega)
  refine pm_ite (fun _ => ?_) (fun _ => ?_)
  · refine pm_bind (fun t5 ht5 => ?_)
    have it5 := tl_is ht5
    refine pm_bind (fun S6 hS6 => ?_)
    have fS6 := fr_wa fq4 (by unfold wR; omega) hS6
    exact hrc17 _ _ fS6
  · exact pm_some fq4
theorem fs_X4_readTanker_L17 {S0 : HS} : ∀ (K : Nat) (v1 : Int32) (S : HS), Fr wR S0 S → Pm (fun r => Fr wR S0 r.2) (s_X4_readTanker_L17 K v1 S) := by
  intro K
  induction K with
  | zero =>
    intros
    exact pm_none
  | succ K ih =>
    intro v1 S f0
    rw [s_X4_readTanker_L17]
    refine pm_ite (fun _ => ?_) (fun _ => ?_)
    · exact pm_some f0
    · refine pm_ite (fun _ => ?_) (fun _ => ?_)
      · refine pm_bind (fun a2 _ => ?_)
        exact fs_X4_readTanker_J47 ih f0
      · refine pm_bind (fun t7 ht7 => ?_)
        have it7 := tl_is ht7
        refine pm_bind (fun a8 _ => ?_)
        exact fs_X4_readTanker_J47 ih f0
theorem fs_X4_readTanker {S0 : HS} {S : HS} (f0 : Fr wR S0 S) : Pm (fun r => Fr wR S0 r.2) (s_X4_readTanker S) := by
  unfold s_X4_readTanker
  refine pm_bind (fun q1 _ => ?_)
  refine pm_ite (fun _ => ?_) (fun _ => ?_)
  · exact fs_X4_readTanker_L17 _ _ _ f0
  · refine pm_bind (fun q9 hq9 => ?_)
    have fq9 := fr_tr f0 (fs_X4_refuse fr_rf _ hq9) (fun k j => by unfold w2 wR; omega)
    refine pm_bind (fun _ _ => ?_)
    exact pm_some fq9
/-! X4_readCompartment -/
theorem fs_X4_readCompartment_J93 {S0 : HS} {v1 : Int32} {S : HS} (f0 : Fr wR S0 S) : Pm (fun r => Fr wR S0 r.2) (s_X4_readCompartment_J93 v1 S) := by
  unfold s_X4_readCompartment_J93
  refine pm_bind (fun t11 ht11 => ?_)
  have it11 := tl_is ht11
  refine pm_bind (fun t12 ht12 => ?_)
  have it12 := tl_is ht12
  refine pm_ite (fun _ => ?_) (fun _ => ?_)
  · refine pm_bind (fun S13 hS13 => ?_)
    have fS13 := fr_wa f0 (by unfold wR; omega) hS13
    refine pm_bind (fun t14 ht14 => ?_)
    have it14 := tl_is ht14
    refine pm_bind (fun S15 hS15 => ?_)
    have fS15 := fr_pf fS13 (by unfold wR; omega) hS15
    exact pm_some fS15
  · refine pm_bind (fun S16 hS16 => ?_)
    have fS16 := fr_wa f0 (by unfold wR; omega) hS16
    refine pm_bind (fun t17 ht17 => ?_)
    have it17 := tl_is ht17
    refine pm_bind (fun S18 hS18 => ?_)
    have fS18 := fr_pf fS16 (by unfold wR; omega) hS18
    exact pm_some fS18
theorem fs_X4_readCompartment {S0 : HS} {S : HS} (f0 : Fr wR S0 S) : Pm (fun r => Fr wR S0 r.2) (s_X4_readCompartment S) := by
  unfold s_X4_readCompartment
  refine pm_bind (fun q1 hq1 => ?_)
  have fq1 := fr_tr f0 (fs_X4_readNumber fr_rf _ hq1) (fun k j => by unfold w2 wR; omega)
  refine pm_ite (fun _ => ?_) (fun _ => ?_)
  · refine pm_bind (fun t2 ht2 => ?_)
    have it2 := tl_is ht2
    refine pm_bind (fun t3 ht3 => ?_)
    have it3 := tl_is ht3
    refine pm_bind (fun S4 hS4 => ?_)
    have fS4 := fr_wa fq1 (by unfold wR; omega) hS4
    refine pm_bind (fun q5 hq5 => ?_)
    have fq5 := fr_tr fS4 (fs_X4_readNumber fr_rf _ hq5) (fun k j => by unfold w2 wR; omega)
    refine pm_ite (fun _ => ?_) (fun _ => ?_)
    · refine pm_bind (fun t6 ht6 => ?_)
      have it6 := tl_is ht6
      refine pm_bind (fun t7 ht7 => ?_)
      have it7 := tl_is ht7
      refine pm_bind (fun S8 hS8 => ?_)
      have fS8 := fr_wa fq5 (by unfold wR; omega) hS8
      refine pm_bind (fun q9 hq9 => ?_)
      have fq9 := fr_tr fS8 (fs_X4_advance fr_rf _ hq9) (fun k j => by unfold w2 wR; omega)
      refine pm_bind (fun q10 _ => ?_)
      refine pm_ite (fun _ => ?_) (fun _ => ?_)
      · exact fs_X4_readCompartment_J93 fq9
      · refine pm_bind (fun q19 _ => ?_)
        refine pm_ite (fun _ => ?_) (fun _ => ?_)
        · exact fs_X4_readCompartment_J93 fq9
        · refine pm_bind (fun q20 hq20 => ?_)
          have fq20 := fr_tr fq9 (fs_X4_refuse fr_rf _ hq20) (fun k j => by unfold w2 wR; omega)
          refine pm_bind (fun _ _ => ?_)
          exact pm_some fq20
    · exact pm_some fq5
  · exact pm_some fq1
/-! X4_readLiquid -/
theorem fs_X4_readLiquid {S0 : HS} {S : HS} (f0 : Fr wR S0 S) : Pm (fun r => Fr wR S0 r.2) (s_X4_readLiquid S) := by
  unfold s_X4_readLiquid
  refine pm_bind (fun q1 hq1 => ?_)
  have fq1 := fr_tr f0 (fs_X4_readNumber fr_rf _ hq1) (fun k j => by unfold w2 wR; omega)
  refine pm_ite (fun _ => ?_) (fun _ => ?_)
  · refine pm_bind (fun t2 ht2 => ?_)
    have it2 := tl_is ht2
    refine pm_bind (fun t3 ht3 => ?_)
    have it3 := tl_is ht3
    refine pm_bind (fun S4 hS4 => ?_)
    have fS4 := fr_wa fq1 (by unfold wR; omega) hS4
    refine pm_bind (fun t5 ht5 => ?_)
    have it5 := tl_is ht5
    refine pm_bind (fun S6 hS6 => ?_)
    have fS6 := fr_pf fS4 (by unfold wR; omega) hS6
    exact pm_some fS6
  · exact pm_some fq1
/-! X6_bar -/
theorem fs_X6_bar {S0 : HS} {t : Nat} {v1 : Int32} {v2 : Int32} {S : HS} (f0 : Fr (wTt t) S0 S) : Pm (fun r => Fr (wTt t) S0 r) (s_X6_bar t v1 v2 S) := by
  unfold s_X6_bar
  refine pm_bind (fun S1 hS1 => ?_)
  have fS1 := fr_pl f0 (by unfold wTt; omega) hS1
  exact pm_some fS1
/-! X4_readBar -/
theorem fs_X4_readBar {S0 : HS} {S : HS} (f0 : Fr wR S0 S) : Pm (fun r => Fr wR S0 r.2) (s_X4_readBar S) := by
  unfold s_X4_readBar
  refine pm_bind (fun t1 ht1 => ?_)
  have it1 := tl_is ht1
  refine pm_bind (fun q2 hq2 => ?_)
  have fq2 := fr_tr f0 (fs_X4_readNumber fr_rf _ hq2) (fun k j => by unfold w2 wR; omega)
  refine pm_ite (fun _ => ?_) (fun _ => ?_)
  · refine pm_bind (fun t3 ht3 => ?_)
    have it3 := tl_is ht3
    refine pm_bind (fun q4 hq4 => ?_)
    have fq4 := fr_tr fq2 (fs_X4_readNumber fr_rf _ hq4) (fun k j => by unfold w2 wR; omega)
    refine pm_ite (fun _ => ?_) (fun _ => ?_)
    · refine pm_bind (fun t5 ht5 => ?_)
      have it5 := tl_is ht5
      refine pm_bind (fun q6 hq6 => ?_)
      have fq6 := fr_tr fq4 (fs_X6_bar fr_rf _ hq6) (fun k j => by unfold wTt wR; omega)
      exact pm_some fq6
    · exact pm_some fq4
  · exact pm_some fq2
/-! X4_readLast -/
theorem fs_X4_readLast {S0 : HS} {S : HS} (f0 : Fr wR S0 S) : Pm (fun r => Fr wR S0 r.2) (s_X4_readLast S) := by
  unfold s_X4_readLast
  refine pm_bind (fun t1 ht1 => ?_)
  have it1 := tl_is ht1
  refine pm_bind (fun q2 hq2 => ?_)
  have fq2 := fr_tr f0 (fs_X4_readNumber fr_rf _ hq2) (fun k j => by unfold w2 wR; omega)
  refine pm_ite (fun _ => ?_) (fun _ => ?_)
  · refine pm_bind (fun t3 ht3 => ?_)
    have it3 := tl_is ht3
    refine pm_bind (fun q4 hq4 => ?_)
    have fq4 := fr_tr fq2 (fs_X4_readNumber fr_rf _ hq4) (fun k j => by unfold w2 wR; omega)
    refine pm_ite (fun _ => ?_) (fun _ => ?_)
    · refine pm_bind (fun t5 ht5 => ?_)
      have it5 := tl_is ht5
      refine pm_bind (fun S6 hS6 => ?_)
      have fS6 := fr_wa fq4 (by unfold wR; omega) hS6
      exact pm_some fS6
    · exact pm_some fq4
  · exact pm_some fq2
/-! X4_readDrop -/
theorem fs_X4_readDrop {S0 : HS} {S : HS} (f0 : Fr wR S0 S) : Pm (fun r => Fr wR S0 r.2) (s_X4_readDrop S) := by
  unfold s_X4_readDrop
  refine pm_bind (fun t1 ht1 => ?_)
  have it1 := tl_is ht1
  refine pm_bind (fun q2 hq2 => ?_)
  have fq2 := fr_tr f0 (fs_X4_readNumber fr_rf _ hq2) (fun k j => by unfold w2 wR; omega)
  refine pm_ite (fun _ => ?_) (fun _ => ?_)
  · refine pm_bind (fun t3 ht3 => ?_)
    have it3 := tl_is ht3
    refine pm_bind (fun t4 ht4 => ?_)
    have it4 := tl_is ht4
    refine pm_bind (fun S5 hS5 => ?_)
    have fS5 := fr_wa fq2 (by unfold wR; omega) hS5
    refine pm_bind (fun q6 hq6 => ?_)
    have fq6 := fr_tr fS5 (fs_X4_readNumber fr_rf _ hq6) (fun k j => by unfold w2 wR; omega)
    refine pm_ite (fun _ => ?_) (fun _ => ?_)
    · refine pm_bind (fun t7 ht7 => ?_)
      have it7 := tl_is ht7
      refine pm_bind (fun t8 ht8 => ?_)
      have it8 := tl_is ht8
      refine pm_bind (fun S9 hS9 => ?_)
      have fS9 := fr_wa fq6 (by unfold wR; omega) hS9
      refine pm_bind (fun t10 ht10 => ?_)
      have it10 := tl_is ht10
      refine pm_bind (fun S11 hS11 => ?_)
      have fS11 := fr_pf fS9 (by unfold wR; omega) hS11
      exact pm_some fS11
    · exact pm_some fq6
  · exact pm_some fq2
/-! X4_readOther -/
theorem fs_X4_readOther {S0 : HS} {S : HS} (f0 : Fr wR S0 S) : Pm (fun r => Fr wR S0 r.2) (s_X4_readOther S) := by
  unfold s_X4_readOther
  refine pm_bind (fun q1 _ => ?_)
  refine pm_ite (fun _ => ?_) (fun _ => ?_)
  · refine pm_bind (fun a2 _ => ?_)
    refine pm_bind (fun a3 _ => ?_)
    refine pm_ite (fun _ => ?_) (fun _ => ?_)
    · refine pm_bind (fun a4 _ => ?_)
      refine pm_bind (fun S5 hS5 => ?_)
      have fS5 := fr_wa f0 (by unfold wR; omega) hS5
      refine pm_ite (fun _ => ?_) (fun _ => ?_)
      · refine pm_bind (fun q6 hq6 => ?_)
        have fq6 := fr_tr fS5 (fs_X4_readCompartment fr_rf _ hq6) (fun _ _ z => z)
        refine pm_bind (fun _ _ => ?_)
        exact pm_some fq6
      · refine pm_ite (fun _ => ?_) (fun _ => ?_)
        · refine pm_bind (fun q7 hq7 => ?_)
          have fq7 := fr_tr fS5 (fs_X4_readLiquid fr_rf _ hq7) (fun _ _ z => z)
          refine pm_bind (fun _ _ => ?_)
          exact pm_some fq7
        · refine pm_ite (fun _ => ?_) (fun _ => ?_)
          · refine pm_bind (fun q8 hq8 => ?_)
            have fq8 := fr_tr fS5 (fs_X4_readBar fr_rf _ hq8) (fun _ _ z => z)
            refine pm_bind (fun _ _ => ?_)
            exact pm_some fq8
          · refine pm_ite (fun _ => ?_) (fun _ => ?_)
            · refine pm_bind (fun q9 hq9 => ?_)
              have fq9 := fr_tr fS5 (fs_X4_readLast fr_rf _ hq9) (fun _ _ z => z)
              refine pm_bind (fun _ _ => ?_)
              exact pm_some fq9
            · refine pm_bind (fun q10 hq10 => ?_)
              have fq10 := fr_tr fS5 (fs_X4_readDrop fr_rf _ hq10) (fun _ _ z => z)
              refine pm_bind (fun _ _ => ?_)
              exact pm_some fq10
    · refine pm_bind (fun q11 hq11 => ?_)
      have fq11 := fr_tr f0 (fs_X4_refuse fr_rf _ hq11) (fun k j => by unfold w2 wR; omega)
      refine pm_bind (fun _ _ => ?_)
      exact pm_some fq11
  · refine pm_bind (fun q12 hq12 => ?_)
    have fq12 := fr_tr f0 (fs_X4_refuse fr_rf _ hq12) (fun k j => by unfold w2 wR; omega)
    refine pm_bind (fun _ _ => ?_)
    exact pm_some fq12
/-! X4_readSign -/
theorem fs_X4_readSign {S0 : HS} {S : HS} (f0 : Fr w2 S0 S) : Pm (fun r => Fr w2 S0 r.2) (s_X4_readSign S) := by
  unfold s_X4_readSign
  refine pm_bind (fun q1 hq1 => ?_)
  have fq1 := fr_tr f0 (fs_X4_advance fr_rf _ hq1) (fun _ _ z => z)
  refine pm_ite (fun _ => ?_) (fun _ => ?_)
  · exact pm_some fq1
  · refine pm_bind (fun q2 hq2 => ?_)
    have fq2 := fr_tr fq1 (fs_X4_refuse fr_rf _ hq2) (fun _ _ z => z)
    refine pm_ite (fun _ => ?_) (fun _ => ?_)
    · exact pm_some fq2
    · exact pm_some fq2
/-! X4_reads -/
theorem fs_X4_reads_J83 {S0 : HS} {t : Nat} {rc43 : Int32 → HS → Option (Int32 × HS)} {v4 : Int32} {x0 : Int32} {S : HS} (hrc43 : ∀ (v4 : Int32) (S : HS), Fr wR S0 S → Pm (fun r => Fr wR S0 r.2) (rc43 v4 S)) (f0 : Fr wR S0 S) : Pm (fun r => Fr wR S0 r.2) (s_X4_reads_J83 t rc43 v4 x0 S) := by
  unfold s_X4_reads_J83
  refine pm_ite (fun _ => ?_) (fun _ => ?_)
  · exact pm_some f0
  · refine pm_bind (fun q12 hq12 => ?_)
    have fq12 := fr_tr f0 (fs_X4_readSign fr_rf _ hq12) (fun k j => by unfold w2 wR; omega)
    refine pm_ite (fun _ => ?_) (fun _ => ?_)
    · refine pm_bind (fun S13 hS13 => ?_)
      have fS13 := fr_pf fq12 (by unfold wR; omega) hS13
      exact hrc43 _ _ fS13
    · exact pm_some fq12
theorem fs_X4_reads_L43 {S0 : HS} {t : Nat} : ∀ (K : Nat) (v4 : Int32) (S : HS), Fr wR S0 S → Pm (fun r => Fr wR S0 r.2) (s_X4_reads_L43 t K v4 S) := by
  intro K
  induction K with
  | zero =>
    intros
    exact pm_none
  | succ K ih =>
    intro v4 S f0
    rw [s_X4_reads_L43]
    refine pm_ite (fun _ => ?_) (fun _ => ?_)
    · refine pm_bind (fun q9 hq9 => ?_)
      have fq9 := fr_tr f0 (fs_X4_refuse fr_rf _ hq9) (fun k j => by unfold w2 wR; omega)
      refine pm_bind (fun _ _ => ?_)
      exact pm_some fq9
    · refine pm_bind (fun q10 hq10 => ?_)
      have fq10 := fr_tr f0 (fs_X4_advance fr_rf _ hq10) (fun k j => by unfold w2 wR; omega)
      refine pm_ite (fun _ => ?_) (fun _ => ?_)
      · refine pm_ite (fun _ => ?_) (fun _ => ?_)
        · refine pm_bind (fun q11 hq11 => ?_)
          have fq11 := fr_tr fq10 (fs_X4_readOther fr_rf _ hq11) (fun _ _ z => z)
          exact fs_X4_reads_J83 ih fq11
        · refine pm_bind (fun q14 hq14 => ?_)
          have fq14 := fr_tr fq10 (fs_X4_readTanker fr_rf _ hq14) (fun _ _ z => z)
          exact fs_X4_reads_J83 ih fq14
      · exact pm_some fq10
theorem fs_X4_reads {S0 : HS} {t : Nat} {v2 : Int32} {S : HS} (f0 : Fr wR S0 S) : Pm (fun r => Fr wR S0 r.2) (s_X4_reads t v2 S) := by
  unfold s_X4_reads
  refine pm_bind (fun S1 hS1 => ?_)
  have fS1 := fr_pr f0 (by unfold wR; omega) hS1
  refine pm_bind (fun S2 hS2 => ?_)
  have fS2 := fr_pf fS1 (by unfold wR; omega) hS2
  refine pm_bind (fun S3 hS3 => ?_)
  have fS3 := fr_pf fS2 (by unfold wR; omega) hS3
  refine pm_bind (fun S4 hS4 => ?_)
  have fS4 := fr_pf fS3 (by unfold wR; omega) hS4
  refine pm_bind (fun S5 hS5 => ?_)
  have fS5 := fr_pr fS4 (by unfold wR; omega) hS5
  refine pm_bind (fun t6 ht6 => ?_)
  have it6 := tl_is ht6
  refine pm_bind (fun q7 hq7 => ?_)
  have fq7 := fr_tr fS5 (fs_X6_clear fr_rf _ hq7) (fun k j => by unfold wTt wR; omega)
  refine pm_bind (fun S8 hS8 => ?_)
  have fS8 := fr_wf fq7 (by unfold wR; omega) hS8
  exact fs_X4_reads_L43 _ _ _ fS8
/-! X0_begin -/
theorem fs_X0_begin {S0 : HS} {b : Nat} {t : Nat} {S : HS} (f0 : Fr (wC b) S0 S) : Pm (fun r => Fr (wC b) S0 r) (s_X0_begin b t S) := by
  unfold s_X0_begin
  refine pm_bind (fun S1 hS1 => ?_)
  have fS1 := fr_wf f0 (by unfold wC; omega) hS1
  refine pm_bind (fun S2 hS2 => ?_)
  have fS2 := fr_wf fS1 (by unfold wC; omega) hS2
  refine pm_bind (fun S3 hS3 => ?_)
  have fS3 := fr_wf fS2 (by unfold wC; omega) hS3
  refine pm_bind (fun S4 hS4 => ?_)
  have fS4 := fr_wc fS3 (by unfold wC; omega) hS4
  exact pm_some fS4
/-! X5_addDrop -/
theorem fs_X5_addDrop {S0 : HS} {S : HS} (f0 : Fr (wS 22) S0 S) : Pm (fun r => Fr (wS 22) S0 r) (s_X5_addDrop S) := by
  unfold s_X5_addDrop
  refine pm_ite (fun _ => ?_) (fun _ => ?_)
  · exact pm_some f0
  · refine pm_bind (fun S1 hS1 => ?_)
    have fS1 := fr_wa f0 (by unfold wS; omega) hS1
    refine pm_bind (fun S2 hS2 => ?_)
    have fS2 := fr_wa fS1 (by unfold wS; omega) hS2
    refine pm_bind (fun S3 hS3 => ?_)
    have fS3 := fr_pf fS2 (by unfold wS; omega) hS3
    exact pm_some fS3
/-! X5_begin -/
theorem fs_X5_begin_L15 {S0 : HS} {t : Nat} : ∀ (K : Nat) (v2 : Int32) (S : HS), Fr (wS 22) S0 S → Pm (fun r => Fr (wS 22) S0 r) (s_X5_begin_L15 t K v2 S) := by
  intro K
  induction K with
  | zero =>
    intros
    exact pm_none
  | succ K ih =>
    intro v2 S f0
    rw [s_X5_begin_L15]
    refine pm_ite (fun _ => ?_) (fun _ => ?_)
    · refine pm_bind (fun S3 hS3 => ?_)
      have fS3 := fr_pf f0 (by unfold wS; omega) hS3
      exact pm_some fS3
    · refine pm_bind (fun q4 hq4 => ?_)
      have fq4 := fr_tr f0 (fs_X5_addDrop fr_rf _ hq4) (fun _ _ z => z)
      exact ih _ _ fq4
theorem fs_X5_begin {S0 : HS} {t : Nat} {S : HS} (f0 : Fr (wS 22) S0 S) : Pm (fun r => Fr (wS 22) S0 r) (s_X5_begin t S) := by
  unfold s_X5_begin
  refine pm_bind (fun q1 hq1 => ?_)
  have fq1 := fr_tr f0 (fs_X0_begin fr_rf _ hq1) (fun k j => by unfold wC wS; omega)
  refine pm_bind (fun S2 hS2 => ?_)
  have fS2 := fr_pf fq1 (by unfold wS; omega) hS2
  exact fs_X5_begin_L15 _ _ _ fS2
/-! X1_forget -/
theorem fs_X1_forget {S0 : HS} {S : HS} (f0 : Fr wH S0 S) : Pm (fun r => Fr wH S0 r) (s_X1_forget S) := by
  unfold s_X1_forget
  refine pm_bind (fun S1 hS1 => ?_)
  have fS1 := fr_pf f0 (by unfold wH; omega) hS1
  exact pm_some fS1
/-! X7_text -/
theorem fs_X7_text_J41 {S0 : HS} {v1 : Int32} {x1 : Int32} {S : HS} (f0 : Fr wD S0 S) : Pm (fun r => Fr wD S0 r.2) (s_X7_text_J41 v1 x1 S) := by
  unfold s_X7_text_J41
  refine pm_bind (fun S4 hS4 => ?_)
  have fS4 := fr_pf f0 trivial hS4
  refine pm_ite (fun _ => ?_) (fun _ => ?_)
  · refine pm_bind (fun t5 ht5 => ?_)
    have it5 := tl_is ht5
    refine pm_bind (fun t6 ht6 => ?_)
    have it6 := tl_is ht6
    refine pm_bind (fun S7 hS7 => ?_)
    have fS7 := fr_pr fS4 trivial hS7
    refine pm_bind (fun S8 hS8 => ?_)
    have fS8 := fr_pr fS7 trivial hS8
    refine pm_bind (fun t9 ht9 => ?_)
    have it9 := tl_is ht9
    refine pm_bind (fun q10 hq10 => ?_)
    have fq10 := fr_tr fS8 (fs_X5_begin fr_rf _ hq10) (fun _ _ _ => trivial)
    refine pm_bind (fun q11 hq11 => ?_)
    have fq11 := fr_tr fq10 (fs_X1_forget fr_rf _ hq11) (fun _ _ _ => trivial)
    exact pm_some fq11
  · exact pm_some fS4
theorem fs_X7_text {S0 : HS} {S : HS} (f0 : Fr wD S0 S) : Pm (fun r => Fr wD S0 r.2) (s_X7_text S) := by
  unfold s_X7_text
  refine pm_bind (fun t1 ht1 => ?_)
  have it1 := tl_is ht1
  refine pm_bind (fun q2 hq2 => ?_)
  have fq2 := fr_tr f0 (fs_X4_reads fr_rf _ hq2) (fun _ _ _ => trivial)
  refine pm_bind (fun S3 hS3 => ?_)
  have fS3 := fr_pf fq2 trivial hS3
  refine pm_ite (fun _ => ?_) (fun _ => ?_)
  · exact fs_X7_text_J41 fS3
  · exact fs_X7_text_J41 fS3
/-! X0_copyFrom -/
theorem fs_X0_copyFrom {S0 : HS} {b : Nat} {c : Nat} {S : HS} (f0 : Fr (wC b) S0 S) : Pm (fun r => Fr (wC b) S0 r) (s_X0_copyFrom b c S) := by
  unfold s_X0_copyFrom
  refine pm_bind (fun S1 hS1 => ?_)
  have fS1 := fr_wc f0 (by unfold wC; omega) hS1
  refine pm_bind (fun S2 hS2 => ?_)
  have fS2 := fr_wc fS1 (by unfold wC; omega) hS2
  refine pm_bind (fun S3 hS3 => ?_)
  have fS3 := fr_wc fS2 (by unfold wC; omega) hS3
  refine pm_bind (fun S4 hS4 => ?_)
  have fS4 := fr_wc fS3 (by unfold wC; omega) hS4
  exact pm_some fS4
/-! X0_lay -/
theorem fs_X0_lay {S0 : HS} {b : Nat} {t : Nat} {v2 : Int32} {v3 : Int32} {v4 : Int32} {v5 : Int32} {S : HS} (f0 : Fr (wC b) S0 S) : Pm (fun r => Fr (wC b) S0 r) (s_X0_lay b t v2 v3 v4 v5 S) := by
  unfold s_X0_lay
  refine pm_bind (fun S1 hS1 => ?_)
  have fS1 := fr_wa f0 (by unfold wC; omega) hS1
  refine pm_bind (fun a2 _ => ?_)
  refine pm_bind (fun S3 hS3 => ?_)
  have fS3 := fr_wa fS1 (by unfold wC; omega) hS3
  refine pm_bind (fun S4 hS4 => ?_)
  have fS4 := fr_wa fS3 (by unfold wC; omega) hS4
  refine pm_bind (fun S5 hS5 => ?_)
  have fS5 := fr_wa fS4 (by unfold wC; omega) hS5
  exact pm_some fS5
/-! X7_would -/
theorem fs_X7_would {S0 : HS} {v1 : Int32} {v2 : Int32} {v3 : Int32} {S : HS} (f0 : Fr wD S0 S) : Pm (fun r => Fr wD S0 r.2) (s_X7_would v1 v2 v3 S) := by
  unfold s_X7_would
  refine pm_bind (fun t1 ht1 => ?_)
  have it1 := tl_is ht1
  refine pm_bind (fun q2 _ => ?_)
  refine pm_ite (fun _ => ?_) (fun _ => ?_)
  · exact pm_some f0
  · refine pm_bind (fun t3 ht3 => ?_)
    have it3 := tl_is ht3
    refine pm_bind (fun q4 _ => ?_)
    refine pm_ite (fun _ => ?_) (fun _ => ?_)
    · exact pm_some f0
    · refine pm_ite (fun _ => ?_) (fun _ => ?_)
      · exact pm_some f0
      · refine pm_bind (fun t5 ht5 => ?_)
        have it5 := tl_is ht5
        refine pm_bind (fun a6 _ => ?_)
        refine pm_ite (fun _ => ?_) (fun _ => ?_)
        · refine pm_bind (fun q7 hq7 => ?_)
          have fq7 := fr_tr f0 (fs_X0_copyFrom fr_rf _ hq7) (fun _ _ _ => trivial)
          refine pm_bind (fun t8 ht8 => ?_)
          have it8 := tl_is ht8
          refine pm_bind (fun q9 hq9 => ?_)
          have fq9 := fr_tr fq7 (fs_X0_lay fr_rf _ hq9) (fun _ _ _ => trivial)
          refine pm_bind (fun t10 ht10 => ?_)
          have it10 := tl_is ht10
          refine pm_bind (fun q11 _ => ?_)
          exact pm_some fq9
        · exact pm_some f0
/-! X2_collect -/
theorem fs_X2_collect_L8 {S0 : HS} {o : Nat} {t : Nat} {c : Nat} {v3 : Int32} : ∀ (K : Nat) (v4 : Int32) (S : HS), Fr (wO o) S0 S → Pm (fun r => Fr (wO o) S0 r) (s_X2_collect_L8 o t c v3 K v4 S) := by
  intro K
  induction K with
  | zero =>
    intros
    exact pm_none
  | succ K ih =>
    intro v4 S f0
    rw [s_X2_collect_L8]
    refine pm_ite (fun _ => ?_) (fun _ => ?_)
    · exact pm_some f0
    · refine pm_ite (fun _ => ?_) (fun _ => ?_)
      · exact pm_some f0
      · refine pm_bind (fun q2 _ => ?_)
        refine pm_bind (fun a3 _ => ?_)
        refine pm_ite (fun _ => ?_) (fun _ => ?_)
        · exact ih _ _ f0
        · refine pm_bind (fun S4 hS4 => ?_)
          have fS4 := fr_wa f0 (by unfold wO; omega) hS4
          refine pm_bind (fun q5 _ => ?_)
          refine pm_bind (fun S6 hS6 => ?_)
          have fS6 := fr_wa fS4 (by unfold wO; omega) hS6
          refine pm_bind (fun S7 hS7 => ?_)
          have fS7 := fr_pf fS6 (by unfold wO; omega) hS7
          exact ih _ _ fS7
theorem fs_X2_collect {S0 : HS} {o : Nat} {t : Nat} {c : Nat} {v3 : Int32} {S : HS} (f0 : Fr (wO o) S0 S) : Pm (fun r => Fr (wO o) S0 r) (s_X2_collect o t c v3 S) := by
  unfold s_X2_collect
  refine pm_bind (fun S1 hS1 => ?_)
  have fS1 := fr_pf f0 (by unfold wO; omega) hS1
  exact fs_X2_collect_L8 _ _ _ fS1
/-! X2_count -/
theorem fs_X2_count_J50 {S0 : HS} {o : Nat} {t : Nat} {c : Nat} {rc21 : Int32 → HS → Option (Int32 × HS)} {v4 : Int32} {v5 : Int32} {x0 : Int32} {S : HS} (hrc21 : ∀ (v5 : Int32) (S : HS), Fr (wO o) S0 S → Pm (fun r => Fr (wO o) S0 r.2) (rc21 v5 S)) (f0 : Fr (wO o) S0 S) : Pm (fun r => Fr (wO o) S0 r.2) (s_X2_count_J50 o t c rc21 v4 v5 x0 S) := by
  unfold s_X2_count_J50
  refine pm_ite (fun _ => ?_) (fun _ => ?_)
  · refine pm_ite (fun _ => ?_) (fun _ => ?_)
    · refine pm_bind (fun q3 _ => ?_)
      refine pm_bind (fun S4 hS4 => ?_)
      have fS4 := fr_wa f0 (by unfold wO; omega) hS4
      exact hrc21 _ _ fS4
    · refine pm_bind (fun S5 hS5 => ?_)
      have fS5 := fr_wa f0 (by unfold wO; omega) hS5
      exact hrc21 _ _ fS5
  · refine pm_bind (fun S6 hS6 => ?_)
    have fS6 := fr_wa f0 (by unfold wO; omega) hS6
    exact hrc21 _ _ fS6
theorem fs_X2_count_J45 {S0 : HS} {o : Nat} {t : Nat} {c : Nat} {rc21 : Int32 → HS → Option (Int32 × HS)} {v4 : Int32} {v5 : Int32} {S : HS} (hrc21 : ∀ (v5 : Int32) (S : HS), Fr (wO o) S0 S → Pm (fun r => Fr (wO o) S0 r.2) (rc21 v5 S)) (f0 : Fr (wO o) S0 S) : Pm (fun r => Fr (wO o) S0 r.2) (s_X2_count_J45 o t c rc21 v4 v5 S) := by
  unfold s_X2_count_J45
  exact fs_X2_count_J50 hrc21 f0
theorem fs_X2_count_L21 {S0 : HS} {o : Nat} {t : Nat} {c : Nat} {v4 : Int32} : ∀ (K : Nat) (v5 : Int32) (S : HS), Fr (wO o) S0 S → Pm (fun r => Fr (wO o) S0 r.2) (s_X2_count_L21 o t c v4 K v5 S) := by
  intro K
  induction K with
  | zero =>
    intros
    exact pm_none
  | succ K ih =>
    intro v5 S f0
    rw [s_X2_count_L21]
    refine pm_ite (fun _ => ?_) (fun _ => ?_)
    · refine pm_bind (fun a2 _ => ?_)
      exact pm_some f0
    · refine pm_ite (fun _ => ?_) (fun _ => ?_)
      · exact fs_X2_count_J45 ih f0
      · refine pm_bind (fun q7 _ => ?_)
        refine pm_bind (fun q8 _ => ?_)
        refine pm_ite (fun _ => ?_) (fun _ => ?_)
        · exact fs_X2_count_J50 ih f0
        · exact fs_X2_count_J45 ih f0
theorem fs_X2_count {S0 : HS} {o : Nat} {t : Nat} {c : Nat} {v3 : Int32} {S : HS} (f0 : Fr (wO o) S0 S) : Pm (fun r => Fr (wO o) S0 r.2) (s_X2_count o t c v3 S) := by
  unfold s_X2_count
  refine pm_bind (fun q1 hq1 => ?_)
  have fq1 := fr_tr f0 (fs_X2_collect fr_rf _ hq1) (fun _ _ z => z)
  exact fs_X2_count_L21 _ _ _ fq1
/-! X7_orders -/
theorem fs_X7_orders {S0 : HS} {S : HS} (f0 : Fr wD S0 S) : Pm (fun r => Fr wD S0 r.2) (s_X7_orders S) := by
  unfold s_X7_orders
  refine pm_bind (fun t1 ht1 => ?_)
  have it1 := tl_is ht1
  refine pm_bind (fun q2 hq2 => ?_)
  have fq2 := fr_tr f0 (fs_X2_count fr_rf _ hq2) (fun _ _ _ => trivial)
  exact pm_some fq2
/-! X7_ordered -/
theorem fs_X7_ordered {S0 : HS} {v1 : Int32} {S : HS} (f0 : Fr wD S0 S) : Pm (fun r => Fr wD S0 r.2) (s_X7_ordered v1 S) := by
  unfold s_X7_ordered
  refine pm_bind (fun t1 ht1 => ?_)
  have it1 := tl_is ht1
  refine pm_bind (fun q2 hq2 => ?_)
  have fq2 := fr_tr f0 (fs_X2_count fr_rf _ hq2) (fun _ _ _ => trivial)
  refine pm_bind (fun q3 _ => ?_)
  exact pm_some fq2
/-! X3_prepare -/
theorem fs_X3_prepare_L189 {S0 : HS} {t : Nat} : ∀ (K : Nat) (v4 : Int32) (S : HS), Fr wP S0 S → Pm (fun r => Fr wP S0 r) (s_X3_prepare_L189 t K v4 S) := by
  intro K
  induction K with
  | zero =>
    intros
    exact pm_none
  | succ K ih =>
    intro v4 S f0
    rw [s_X3_prepare_L189]
    refine pm_ite (fun _ => ?_) (fun _ => ?_)
    · exact pm_some f0
    · refine pm_bind (fun a12 _ => ?_)
      refine pm_bind (fun a13 _ => ?_)
      refine pm_ite (fun _ => ?_) (fun _ => ?_)
      · refine pm_bind (fun S14 hS14 => ?_)
        have fS14 := fr_wa f0 (by unfold wP; omega) hS14
        exact ih _ _ fS14
      · refine pm_bind (fun t15 ht15 => ?_)
        have it15 := tl_is ht15
        refine pm_bind (fun q16 _ => ?_)
        refine pm_bind (fun S17 hS17 => ?_)
        have fS17 := fr_wa f0 (by unfold wP; omega) hS17
        exact ih _ _ fS17
theorem fs_X3_prepare_J165 {S0 : HS} {t : Nat} {S : HS} (f0 : Fr wP S0 S) : Pm (fun r => Fr wP S0 r) (s_X3_prepare_J165 t S) := by
  unfold s_X3_prepare_J165
  refine pm_bind (fun t9 ht9 => ?_)
  have it9 := tl_is ht9
  refine pm_bind (fun S10 hS10 => ?_)
  have fS10 := fr_wa f0 (by unfold wP; omega) hS10
  refine pm_bind (fun t11 ht11 => ?_)
  have it11 := tl_is ht11
  exact fs_X3_prepare_L189 _ _ _ fS10
theorem fs_X3_prepare_L52 {S0 : HS} {t : Nat} : ∀ (K : Nat) (v4 : Int32) (S : HS), Fr wP S0 S → Pm (fun r => Fr wP S0 r) (s_X3_prepare_L52 t K v4 S) := by
  intro K
  induction K with
  | zero =>
    intros
    exact pm_none
  | succ K ih =>
    intro v4 S f0
    rw [s_X3_prepare_L52]
    refine pm_bind (fun _ _ => ?_)
    refine pm_ite (fun _ => ?_) (fun _ => ?_)
    · exact fs_X3_prepare_J165 f0
    · refine pm_ite (fun _ => ?_) (fun _ => ?_)
      · exact fs_X3_prepare_J165 f0
      · refine pm_bind (fun _ _ => ?_)
        refine pm_bind (fun t18 ht18 => ?_)
        have it18 := tl_is ht18
        refine pm_bind (fun q19 _ => ?_)
        refine pm_ite (fun _ => ?_) (fun _ => ?_)
        · exact ih _ _ f0
        · refine pm_bind (fun S20 hS20 => ?_)
          have fS20 := fr_wa f0 (by unfold wP; omega) hS20
          refine pm_bind (fun t21 ht21 => ?_)
          have it21 := tl_is ht21
          refine pm_bind (fun a22 _ => ?_)
          refine pm_bind (fun _ _ => ?_)
          refine pm_bind (fun q23 _ => ?_)
          refine pm_bind (fun S24 hS24 => ?_)
          have fS24 := fr_wa fS20 (by unfold wP; omega) hS24
          refine pm_bind (fun a25 _ => ?_)
          refine pm_bind (fun S26 hS26 => ?_)
          have fS26 := fr_wa fS24 (by unfold wP; omega) hS26
          refine pm_bind (fun S27 hS27 => ?_)
          have fS27 := fr_pf fS26 (by unfold wP; omega) hS27
          exact ih _ _ fS27
theorem fs_X3_prepare {S0 : HS} {t : Nat} {v3 : Int32} {S : HS} (f0 : Fr wP S0 S) : Pm (fun r => Fr wP S0 r) (s_X3_prepare t v3 S) := by
  unfold s_X3_prepare
  refine pm_bind (fun S1 hS1 => ?_)
  have fS1 := fr_pr f0 (by unfold wP; omega) hS1
  refine pm_bind (fun S2 hS2 => ?_)
  have fS2 := fr_pr fS1 (by unfold wP; omega) hS2
  refine pm_bind (fun S3 hS3 => ?_)
  have fS3 := fr_pz fS2 (by unfold wP; omega) hS3
  refine pm_bind (fun _ _ => ?_)
  refine pm_bind (fun q4 hq4 => ?_)
  have fq4 := fr_tr fS3 (fs_X0_copyFrom fr_rf _ hq4) (fun k j => by unfold wC wP; omega)
  refine pm_bind (fun S5 hS5 => ?_)
  have fS5 := fr_pf fq4 (by unfold wP; omega) hS5
  refine pm_bind (fun S6 hS6 => ?_)
  have fS6 := fr_pf fS5 (by unfold wP; omega) hS6
  refine pm_bind (fun S7 hS7 => ?_)
  have fS7 := fr_pf fS6 (by unfold wP; omega) hS7
  refine pm_bind (fun S8 hS8 => ?_)
  have fS8 := fr_pf fS7 (by unfold wP; omega) hS8
  exact fs_X3_prepare_L52 _ _ _ fS8
/-! X3_keepDeal -/
theorem fs_X3_keepDeal_J68 {S0 : HS} {rc2 : Int32 → HS → Option HS} {v1 : Int32} {v2 : Int32} {x1 : Int32} {x2 : Int32} {S : HS} (hrc2 : ∀ (v1 : Int32) (S : HS), Fr wP S0 S → Pm (fun r => Fr wP S0 r) (rc2 v1 S)) (f0 : Fr wP S0 S) : Pm (fun r => Fr wP S0 r) (s_X3_keepDeal_J68 rc2 v1 v2 x1 x2 S) := by
  unfold s_X3_keepDeal_J68
  refine pm_bind (fun S3 hS3 => ?_)
  have fS3 := fr_wa f0 (by unfold wP; omega) hS3
  refine pm_ite (fun _ => ?_) (fun _ => ?_)
  · refine pm_bind (fun S4 hS4 => ?_)
    have fS4 := fr_wa fS3 (by unfold wP; omega) hS4
    exact hrc2 _ _ fS4
  · refine pm_bind (fun a5 _ => ?_)
    refine pm_bind (fun S6 hS6 => ?_)
    have fS6 := fr_wa fS3 (by unfold wP; omega) hS6
    exact hrc2 _ _ fS6
theorem fs_X3_keepDeal_J45 {S0 : HS} {rc2 : Int32 → HS → Option HS} {v1 : Int32} {x0 : Int32} {S : HS} (hrc2 : ∀ (v1 : Int32) (S : HS), Fr wP S0 S → Pm (fun r => Fr wP S0 r) (rc2 v1 S)) (f0 : Fr wP S0 S) : Pm (fun r => Fr wP S0 r) (s_X3_keepDeal_J45 rc2 v1 x0 S) := by
  unfold s_X3_keepDeal_J45
  refine pm_ite (fun _ => ?_) (fun _ => ?_)
  · exact fs_X3_keepDeal_J68 hrc2 f0
  · refine pm_bind (fun a7 _ => ?_)
    exact fs_X3_keepDeal_J68 hrc2 f0
theorem fs_X3_keepDeal_J44 {S0 : HS} {rc2 : Int32 → HS → Option HS} {v1 : Int32} {S : HS} (hrc2 : ∀ (v1 : Int32) (S : HS), Fr wP S0 S → Pm (fun r => Fr wP S0 r) (rc2 v1 S)) (f0 : Fr wP S0 S) : Pm (fun r => Fr wP S0 r) (s_X3_keepDeal_J44 rc2 v1 S) := by
  unfold s_X3_keepDeal_J44
  exact fs_X3_keepDeal_J45 hrc2 f0
theorem fs_X3_keepDeal_L2 {S0 : HS} : ∀ (K : Nat) (v1 : Int32) (S : HS), Fr wP S0 S → Pm (fun r => Fr wP S0 r) (s_X3_keepDeal_L2 K v1 S) := by
  intro K
  induction K with
  | zero =>
    intros
    exact pm_none
  | succ K ih =>
    intro v1 S f0
    rw [s_X3_keepDeal_L2]
    refine pm_bind (fun t1 ht1 => ?_)
    have it1 := tl_is ht1
    refine pm_ite (fun _ => ?_) (fun _ => ?_)
    · exact pm_some f0
    · refine pm_bind (fun _ _ => ?_)
      refine pm_bind (fun a2 _ => ?_)
      refine pm_ite (fun _ => ?_) (fun _ => ?_)
      · exact fs_X3_keepDeal_J44 ih f0
      · refine pm_bind (fun a8 _ => ?_)
        refine pm_ite (fun _ => ?_) (fun _ => ?_)
        · exact fs_X3_keepDeal_J44 ih f0
        · exact fs_X3_keepDeal_J45 ih f0
theorem fs_X3_keepDeal {S0 : HS} {S : HS} (f0 : Fr wP S0 S) : Pm (fun r => Fr wP S0 r) (s_X3_keepDeal S) := by
  unfold s_X3_keepDeal
  exact fs_X3_keepDeal_L2 _ _ _ f0
/-! X3_consider -/
theorem fs_X3_consider_L4 {S0 : HS} : ∀ (K : Nat) (v1 : Int32) (v2 : Int32) (S : HS), Fr wP S0 S → Pm (fun r => Fr wP S0 r) (s_X3_consider_L4 K v1 v2 S) := by
  intro K
  induction K with
  | zero =>
    intros
    exact pm_none
  | succ K ih =>
    intro v1 v2 S f0
    rw [s_X3_consider_L4]
    refine pm_ite (fun _ => ?_) (fun _ => ?_)
    · refine pm_bind (fun q1 _ => ?_)
      refine pm_ite (fun _ => ?_) (fun _ => ?_)
      · exact pm_some f0
      · refine pm_bind (fun t2 ht2 => ?_)
        have it2 := tl_is ht2
        refine pm_bind (fun q3 _ => ?_)
        refine pm_ite (fun _ => ?_) (fun _ => ?_)
        · exact pm_some f0
        · refine pm_bind (fun t4 ht4 => ?_)
          have it4 := tl_is ht4
          refine pm_bind (fun _ _ => ?_)
          refine pm_bind (fun q5 hq5 => ?_)
          have fq5 := fr_tr f0 (fs_X2_count fr_rf _ hq5) (fun k j => by unfold wO wP; omega)
          refine pm_ite (fun _ => ?_) (fun _ => ?_)
          · exact pm_some fq5
          · refine pm_bind (fun S6 hS6 => ?_)
            have fS6 := fr_pf fq5 (by unfold wP; omega) hS6
            refine pm_bind (fun S7 hS7 => ?_)
            have fS7 := fr_pf fS6 (by unfold wP; omega) hS7
            refine pm_bind (fun S8 hS8 => ?_)
            have fS8 := fr_pf fS7 (by unfold wP; omega) hS8
            refine pm_bind (fun S9 hS9 => ?_)
            have fS9 := fr_pf fS8 (by unfold wP; omega) hS9
            refine pm_bind (fun q10 hq10 => ?_)
            have fq10 := fr_tr fS9 (fs_X3_keepDeal fr_rf _ hq10) (fun _ _ z => z)
            exact pm_some fq10
    · refine pm_bind (fun a11 _ => ?_)
      refine pm_ite (fun _ => ?_) (fun _ => ?_)
      · exact ih _ _ _ f0
      · exact ih _ _ _ f0
theorem fs_X3_consider {S0 : HS} {S : HS} (f0 : Fr wP S0 S) : Pm (fun r => Fr wP S0 r) (s_X3_consider S) := by
  unfold s_X3_consider
  exact fs_X3_consider_L4 _ _ _ _ f0
/-! X3_gives -/
theorem fs_X3_gives_J74 {S0 : HS} {v1 : Int32} {v2 : Int32} {v3 : Int32} {v4 : Int32} {v5 : Int32} {S : HS} (f0 : Fr wP S0 S) : Pm (fun r => Fr wP S0 r.2) (s_X3_gives_J74 v1 v2 v3 v4 v5 S) := by
  unfold s_X3_gives_J74
  refine pm_bind (fun t10 ht10 => ?_)
  have it10 := tl_is ht10
  refine pm_bind (fun a11 _ => ?_)
  refine pm_bind (fun q12 hq12 => ?_)
  have fq12 := fr_tr f0 (fs_X0_lay fr_rf _ hq12) (fun k j => by unfold wC wP; omega)
  refine pm_bind (fun a13 _ => ?_)
  refine pm_bind (fun S14 hS14 => ?_)
  have fS14 := fr_wa fq12 (by unfold wP; omega) hS14
  refine pm_bind (fun S15 hS15 => ?_)
  have fS15 := fr_pf fS14 (by unfold wP; omega) hS15
  refine pm_ite (fun _ => ?_) (fun _ => ?_)
  · refine pm_bind (fun S16 hS16 => ?_)
    have fS16 := fr_pf fS15 (by unfold wP; omega) hS16
    exact pm_some fS16
  · refine pm_bind (fun S17 hS17 => ?_)
    have fS17 := fr_pf fS15 (by unfold wP; omega) hS17
    exact pm_some fS17
theorem fs_X3_gives {S0 : HS} {v1 : Int32} {v2 : Int32} {S : HS} (f0 : Fr wP S0 S) : Pm (fun r => Fr wP S0 r.2) (s_X3_gives v1 v2 S) := by
  unfold s_X3_gives
  refine pm_bind (fun t1 ht1 => ?_)
  have it1 := tl_is ht1
  refine pm_bind (fun q2 _ => ?_)
  refine pm_bind (fun a3 _ => ?_)
  refine pm_ite (fun _ => ?_) (fun _ => ?_)
  · refine pm_bind (fun t4 ht4 => ?_)
    have it4 := tl_is ht4
    refine pm_bind (fun a5 _ => ?_)
    refine pm_bind (fun a6 _ => ?_)
    refine pm_bind (fun t7 ht7 => ?_)
    have it7 := tl_is ht7
    refine pm_bind (fun a8 _ => ?_)
    refine pm_bind (fun q9 _ => ?_)
    refine pm_ite (fun _ => ?_) (fun _ => ?_)
    · exact fs_X3_gives_J74 f0
    · refine pm_ite (fun _ => ?_) (fun _ => ?_)
      · exact fs_X3_gives_J74 f0
      · exact pm_some f0
  · exact pm_some f0
/-! X0_takeOut -/
theorem fs_X0_takeOut {S0 : HS} {b : Nat} {v1 : Int32} {S : HS} (f0 : Fr (wC b) S0 S) : Pm (fun r => Fr (wC b) S0 r) (s_X0_takeOut b v1 S) := by
  unfold s_X0_takeOut
  refine pm_bind (fun S1 hS1 => ?_)
  have fS1 := fr_wa f0 (by unfold wC; omega) hS1
  refine pm_bind (fun S2 hS2 => ?_)
  have fS2 := fr_wa fS1 (by unfold wC; omega) hS2
  refine pm_bind (fun S3 hS3 => ?_)
  have fS3 := fr_wa fS2 (by unfold wC; omega) hS3
  exact pm_some fS3
/-! X3_takeBack -/
theorem fs_X3_takeBack {S0 : HS} {v1 : Int32} {v2 : Int32} {S : HS} (f0 : Fr wP S0 S) : Pm (fun r => Fr wP S0 r) (s_X3_takeBack v1 v2 S) := by
  unfold s_X3_takeBack
  refine pm_bind (fun _ _ => ?_)
  refine pm_bind (fun a1 _ => ?_)
  refine pm_bind (fun a2 _ => ?_)
  refine pm_bind (fun a3 _ => ?_)
  refine pm_bind (fun S4 hS4 => ?_)
  have fS4 := fr_wa f0 (by unfold wP; omega) hS4
  refine pm_bind (fun q5 hq5 => ?_)
  have fq5 := fr_tr fS4 (fs_X0_takeOut fr_rf _ hq5) (fun k j => by unfold wC wP; omega)
  refine pm_bind (fun S6 hS6 => ?_)
  have fS6 := fr_wa fq5 (by unfold wP; omega) hS6
  refine pm_bind (fun S7 hS7 => ?_)
  have fS7 := fr_pf fS6 (by unfold wP; omega) hS7
  refine pm_bind (fun t8 ht8 => ?_)
  have it8 := tl_is ht8
  refine pm_bind (fun t9 ht9 => ?_)
  have it9 := tl_is ht9
  refine pm_bind (fun a10 _ => ?_)
  refine pm_bind (fun a11 _ => ?_)
  refine pm_bind (fun q12 _ => ?_)
  refine pm_ite (fun _ => ?_) (fun _ => ?_)
  · refine pm_bind (fun S13 hS13 => ?_)
    have fS13 := fr_pf fS7 (by unfold wP; omega) hS13
    exact pm_some fS13
  · refine pm_bind (fun S14 hS14 => ?_)
    have fS14 := fr_pf fS7 (by unfold wP; omega) hS14
    exact pm_some fS14
/-! X3_deal -/
theorem fs_X3_deal_J75 {S0 : HS} {v1 : Int32} {S : HS} {self : Int32 → HS → Option HS} (hself : ∀ (v1 : Int32) (S : HS), Fr wP S0 S → Pm (fun r => Fr wP S0 r) (self v1 S)) (f0 : Fr wP S0 S) : Pm (fun r => Fr wP S0 r) (s_X3_deal_J75 self v1 S) := by
  unfold s_X3_deal_J75
  refine pm_bind (fun q4 hq4 => ?_)
  have fq4 := hself _ _ f0 _ hq4
  exact pm_some fq4
theorem fs_X3_deal_L39 {S0 : HS} {v1 : Int32} {self : Int32 → HS → Option HS} (hself : ∀ (v1 : Int32) (S : HS), Fr wP S0 S → Pm (fun r => Fr wP S0 r) (self v1 S)) : ∀ (K : Nat) (v2 : Int32) (S : HS), Fr wP S0 S → Pm (fun r => Fr wP S0 r) (s_X3_deal_L39 self v1 K v2 S) := by
  intro K
  induction K with
  | zero =>
    intros
    exact pm_none
  | succ K ih =>
    intro v2 S f0
    rw [s_X3_deal_L39]
    refine pm_ite (fun _ => ?_) (fun _ => ?_)
    · exact fs_X3_deal_J75 hself f0
    · refine pm_bind (fun q5 hq5 => ?_)
      have fq5 := fr_tr f0 (fs_X3_gives fr_rf _ hq5) (fun _ _ z => z)
      refine pm_ite (fun _ => ?_) (fun _ => ?_)
      · exact ih _ _ fq5
      · refine pm_bind (fun q6 hq6 => ?_)
        have fq6 := hself _ _ fq5 _ hq6
        refine pm_bind (fun q7 hq7 => ?_)
        have fq7 := fr_tr fq6 (fs_X3_takeBack fr_rf _ hq7) (fun _ _ z => z)
        exact ih _ _ fq7
theorem fb_X3_deal {S0 : HS} {v1 : Int32} {S : HS} {self : Int32 → HS → Option HS} (hself : ∀ (v1 : Int32) (S : HS), Fr wP S0 S → Pm (fun r => Fr wP S0 r) (self v1 S)) (f0 : Fr wP S0 S) : Pm (fun r => Fr wP S0 r) (s_X3_deal_B self v1 S) := by
  unfold s_X3_deal_B
  refine pm_bind (fun q1 _ => ?_)
  refine pm_ite (fun _ => ?_) (fun _ => ?_)
  · refine pm_bind (fun t2 ht2 => ?_)
    have it2 := tl_is ht2
    refine pm_ite (fun _ => ?_) (fun _ => ?_)
    · refine pm_bind (fun a3 _ => ?_)
      refine pm_ite (fun _ => ?_) (fun _ => ?_)
      · exact fs_X3_deal_J75 hself f0
      · exact fs_X3_deal_L39 hself _ _ _ f0
    · refine pm_bind (fun q8 hq8 => ?_)
      have fq8 := fr_tr f0 (fs_X3_consider fr_rf _ hq8) (fun _ _ z => z)
      exact pm_some fq8
  · exact pm_some f0
theorem fs_X3_deal {S0 : HS} : ∀ (r : Nat) (v1 : Int32) (S : HS), Fr wP S0 S → Pm (fun r => Fr wP S0 r) (s_X3_deal r v1 S) := by
  intro r
  induction r with
  | zero =>
    intros
    exact pm_none
  | succ r ih =>
    intro v1 S f0
    rw [s_X3_deal]
    exact fb_X3_deal ih f0
/-! X3_findsPlan -/
theorem fs_X3_findsPlan {S0 : HS} {t : Nat} {S : HS} (f0 : Fr wP S0 S) : Pm (fun r => Fr wP S0 r.2) (s_X3_findsPlan t S) := by
  unfold s_X3_findsPlan
  refine pm_bind (fun q1 hq1 => ?_)
  have fq1 := fr_tr f0 (fs_X3_prepare fr_rf _ hq1) (fun _ _ z => z)
  refine pm_bind (fun q2 hq2 => ?_)
  have fq2 := fr_tr fq1 (fs_X3_deal _ _ _ fr_rf _ hq2) (fun _ _ z => z)
  refine pm_bind (fun _ _ => ?_)
  exact pm_some fq2
/-! X7_plan -/
theorem fs_X7_plan_J79 {S0 : HS} {v1 : Int32} {S : HS} (f0 : Fr wD S0 S) : Pm (fun r => Fr wD S0 r.2) (s_X7_plan_J79 v1 S) := by
  unfold s_X7_plan_J79
  refine pm_ite (fun _ => ?_) (fun _ => ?_)
  · exact pm_some f0
  · refine pm_bind (fun t3 ht3 => ?_)
    have it3 := tl_is ht3
    refine pm_bind (fun q4 _ => ?_)
    refine pm_ite (fun _ => ?_) (fun _ => ?_)
    · exact pm_some f0
    · refine pm_bind (fun a5 _ => ?_)
      exact pm_some f0
theorem fs_X7_plan {S0 : HS} {v1 : Int32} {S : HS} (f0 : Fr wD S0 S) : Pm (fun r => Fr wD S0 r.2) (s_X7_plan v1 S) := by
  unfold s_X7_plan
  refine pm_bind (fun t1 ht1 => ?_)
  have it1 := tl_is ht1
  refine pm_bind (fun q2 hq2 => ?_)
  have fq2 := fr_tr f0 (fs_X3_findsPlan fr_rf _ hq2) (fun _ _ _ => trivial)
  refine pm_ite (fun _ => ?_) (fun _ => ?_)
  · refine pm_ite (fun _ => ?_) (fun _ => ?_)
    · refine pm_ite (fun _ => ?_) (fun _ => ?_)
      · refine pm_ite (fun _ => ?_) (fun _ => ?_)
        · exact fs_X7_plan_J79 fq2
        · refine pm_bind (fun t6 ht6 => ?_)
          have it6 := tl_is ht6
          refine pm_bind (fun q7 _ => ?_)
          refine pm_ite (fun _ => ?_) (fun _ => ?_)
          · exact fs_X7_plan_J79 fq2
          · refine pm_bind (fun a8 _ => ?_)
            exact pm_some fq2
      · exact pm_some fq2
    · exact pm_some fq2
  · exact pm_some fq2
/-! X3_fewestWashes -/
theorem fs_X3_fewestWashes {S0 : HS} {t : Nat} {S : HS} (f0 : Fr wP S0 S) : Pm (fun r => Fr wP S0 r.2) (s_X3_fewestWashes t S) := by
  unfold s_X3_fewestWashes
  refine pm_bind (fun q1 hq1 => ?_)
  have fq1 := fr_tr f0 (fs_X3_prepare fr_rf _ hq1) (fun _ _ z => z)
  refine pm_bind (fun q2 hq2 => ?_)
  have fq2 := fr_tr fq1 (fs_X3_deal _ _ _ fr_rf _ hq2) (fun _ _ z => z)
  refine pm_ite (fun _ => ?_) (fun _ => ?_)
  · exact pm_some fq2
  · exact pm_some fq2
/-! X7_washes -/
theorem fs_X7_washes {S0 : HS} {S : HS} (f0 : Fr wD S0 S) : Pm (fun r => Fr wD S0 r.2) (s_X7_washes S) := by
  unfold s_X7_washes
  refine pm_bind (fun t1 ht1 => ?_)
  have it1 := tl_is ht1
  refine pm_bind (fun q2 hq2 => ?_)
  have fq2 := fr_tr f0 (fs_X3_fewestWashes fr_rf _ hq2) (fun _ _ _ => trivial)
  refine pm_ite (fun _ => ?_) (fun _ => ?_)
  · exact pm_some fq2
  · exact pm_some fq2
/-! X5_copyFrom -/
theorem fs_X5_copyFrom {S0 : HS} {s : Nat} {sx : Nat} {S : HS} (f0 : Fr (wS s) S0 S) : Pm (fun r => Fr (wS s) S0 r) (s_X5_copyFrom s sx S) := by
  unfold s_X5_copyFrom
  refine pm_bind (fun q1 hq1 => ?_)
  have fq1 := fr_tr f0 (fs_X0_copyFrom fr_rf _ hq1) (fun k j => by unfold wC wS; omega)
  refine pm_bind (fun S2 hS2 => ?_)
  have fS2 := fr_pf fq1 (by unfold wS; omega) hS2
  refine pm_bind (fun S3 hS3 => ?_)
  have fS3 := fr_wc fS2 (by unfold wS; omega) hS3
  refine pm_bind (fun S4 hS4 => ?_)
  have fS4 := fr_wc fS3 (by unfold wS; omega) hS4
  refine pm_bind (fun S5 hS5 => ?_)
  have fS5 := fr_pf fS4 (by unfold wS; omega) hS5
  exact pm_some fS5
/-! X1_keep -/
theorem fs_X1_keep_J35 {S0 : HS} {x1 : Int32} {S : HS} (f0 : Fr wH S0 S) : Pm (fun r => Fr wH S0 r) (s_X1_keep_J35 x1 S) := by
  unfold s_X1_keep_J35
  refine pm_bind (fun S3 hS3 => ?_)
  have fS3 := fr_pf f0 (by unfold wH; omega) hS3
  refine pm_bind (fun S4 hS4 => ?_)
  have fS4 := fr_pf fS3 (by unfold wH; omega) hS4
  exact pm_some fS4
theorem fs_X1_keep {S0 : HS} {S : HS} (f0 : Fr wH S0 S) : Pm (fun r => Fr wH S0 r) (s_X1_keep S) := by
  unfold s_X1_keep
  refine pm_bind (fun s1 hs1 => ?_)
  have is1 := rw_is hs1
  refine pm_bind (fun q2 hq2 => ?_)
  have fq2 := fr_tr f0 (fs_X5_copyFrom fr_rf _ hq2) (fun k j => by unfold wS wH; omega)
  refine pm_ite (fun _ => ?_) (fun _ => ?_)
  · exact fs_X1_keep_J35 fq2
  · exact fs_X1_keep_J35 fq2
/-! X7_asks -/
theorem fs_X7_asks {S0 : HS} {v1 : Int32} {v2 : Int32} {S : HS} (f0 : Fr wD S0 S) : Pm (fun r => Fr wD S0 r.2) (s_X7_asks v1 v2 S) := by
  unfold s_X7_asks
  refine pm_bind (fun t1 ht1 => ?_)
  have it1 := tl_is ht1
  refine pm_bind (fun q2 _ => ?_)
  refine pm_ite (fun _ => ?_) (fun _ => ?_)
  · exact pm_some f0
  · refine pm_ite (fun _ => ?_) (fun _ => ?_)
    · exact pm_some f0
    · refine pm_ite (fun _ => ?_) (fun _ => ?_)
      · refine pm_bind (fun t3 ht3 => ?_)
        have it3 := tl_is ht3
        refine pm_bind (fun q4 _ => ?_)
        refine pm_ite (fun _ => ?_) (fun _ => ?_)
        · refine pm_ite (fun _ => ?_) (fun _ => ?_)
          · refine pm_bind (fun q5 hq5 => ?_)
            have fq5 := fr_tr f0 (fs_X1_keep fr_rf _ hq5) (fun _ _ _ => trivial)
            refine pm_bind (fun t6 ht6 => ?_)
            have it6 := tl_is ht6
            refine pm_bind (fun S7 hS7 => ?_)
            have fS7 := fr_wa fq5 trivial hS7
            refine pm_bind (fun t8 ht8 => ?_)
            have it8 := tl_is ht8
            refine pm_bind (fun S9 hS9 => ?_)
            have fS9 := fr_wa fS7 trivial hS9
            refine pm_bind (fun q10 hq10 => ?_)
            have fq10 := fr_tr fS9 (fs_X5_addDrop fr_rf _ hq10) (fun _ _ _ => trivial)
            exact pm_some fq10
          · exact pm_some f0
        · exact pm_some f0
      · exact pm_some f0
/-! X7_cancel -/
theorem fs_X7_cancel {S0 : HS} {v1 : Int32} {S : HS} (f0 : Fr wD S0 S) : Pm (fun r => Fr wD S0 r.2) (s_X7_cancel v1 S) := by
  unfold s_X7_cancel
  refine pm_bind (fun q1 _ => ?_)
  refine pm_ite (fun _ => ?_) (fun _ => ?_)
  · exact pm_some f0
  · refine pm_bind (fun q2 _ => ?_)
    refine pm_ite (fun _ => ?_) (fun _ => ?_)
    · refine pm_bind (fun q3 hq3 => ?_)
      have fq3 := fr_tr f0 (fs_X1_keep fr_rf _ hq3) (fun _ _ _ => trivial)
      refine pm_bind (fun S4 hS4 => ?_)
      have fS4 := fr_wa fq3 trivial hS4
      exact pm_some fS4
    · exact pm_some f0
/-! X7_put -/
theorem fs_X7_put {S0 : HS} {v1 : Int32} {v2 : Int32} {S : HS} (f0 : Fr wD S0 S) : Pm (fun r => Fr wD S0 r.2) (s_X7_put v1 v2 S) := by
  unfold s_X7_put
  refine pm_bind (fun t1 ht1 => ?_)
  have it1 := tl_is ht1
  refine pm_bind (fun q2 _ => ?_)
  refine pm_ite (fun _ => ?_) (fun _ => ?_)
  · exact pm_some f0
  · refine pm_bind (fun q3 _ => ?_)
    refine pm_ite (fun _ => ?_) (fun _ => ?_)
    · refine pm_bind (fun a4 _ => ?_)
      refine pm_ite (fun _ => ?_) (fun _ => ?_)
      · refine pm_bind (fun t5 ht5 => ?_)
        have it5 := tl_is ht5
        refine pm_bind (fun a6 _ => ?_)
        refine pm_bind (fun t7 ht7 => ?_)
        have it7 := tl_is ht7
        refine pm_bind (fun a8 _ => ?_)
        refine pm_bind (fun q9 _ => ?_)
        refine pm_ite (fun _ => ?_) (fun _ => ?_)
        · refine pm_bind (fun t10 ht10 => ?_)
          have it10 := tl_is ht10
          refine pm_bind (fun q11 _ => ?_)
          refine pm_ite (fun _ => ?_) (fun _ => ?_)
          · refine pm_bind (fun q12 hq12 => ?_)
            have fq12 := fr_tr f0 (fs_X1_keep fr_rf _ hq12) (fun _ _ _ => trivial)
            refine pm_bind (fun t13 ht13 => ?_)
            have it13 := tl_is ht13
            refine pm_bind (fun a14 _ => ?_)
            refine pm_bind (fun q15 _ => ?_)
            refine pm_bind (fun t16 ht16 => ?_)
            have it16 := tl_is ht16
            refine pm_bind (fun q17 hq17 => ?_)
            have fq17 := fr_tr fq12 (fs_X0_lay fr_rf _ hq17) (fun _ _ _ => trivial)
            exact pm_some fq17
          · exact pm_some f0
        · exact pm_some f0
      · exact pm_some f0
    · exact pm_some f0
/-! X7_load -/
theorem fs_X7_load_L46 {S0 : HS} : ∀ (K : Nat) (v1 : Int32) (S : HS), Fr wD S0 S → Pm (fun r => Fr wD S0 r.2) (s_X7_load_L46 K v1 S) := by
  intro K
  induction K with
  | zero =>
    intros
    exact pm_none
  | succ K ih =>
    intro v1 S f0
    rw [s_X7_load_L46]
    refine pm_bind (fun t4 ht4 => ?_)
    have it4 := tl_is ht4
    refine pm_ite (fun _ => ?_) (fun _ => ?_)
    · exact pm_some f0
    · refine pm_bind (fun a5 _ => ?_)
      refine pm_bind (fun q6 _ => ?_)
      refine pm_ite (fun _ => ?_) (fun _ => ?_)
      · exact ih _ _ f0
      · refine pm_bind (fun t7 ht7 => ?_)
        have it7 := tl_is ht7
        refine pm_bind (fun t8 ht8 => ?_)
        have it8 := tl_is ht8
        refine pm_bind (fun a9 _ => ?_)
        refine pm_bind (fun a10 _ => ?_)
        refine pm_bind (fun q11 hq11 => ?_)
        have fq11 := fr_tr f0 (fs_X0_lay fr_rf _ hq11) (fun _ _ _ => trivial)
        exact ih _ _ fq11
theorem fs_X7_load {S0 : HS} {S : HS} (f0 : Fr wD S0 S) : Pm (fun r => Fr wD S0 r.2) (s_X7_load S) := by
  unfold s_X7_load
  refine pm_bind (fun t1 ht1 => ?_)
  have it1 := tl_is ht1
  refine pm_bind (fun q2 hq2 => ?_)
  have fq2 := fr_tr f0 (fs_X3_findsPlan fr_rf _ hq2) (fun _ _ _ => trivial)
  refine pm_ite (fun _ => ?_) (fun _ => ?_)
  · refine pm_ite (fun _ => ?_) (fun _ => ?_)
    · refine pm_bind (fun q3 hq3 => ?_)
      have fq3 := fr_tr fq2 (fs_X1_keep fr_rf _ hq3) (fun _ _ _ => trivial)
      exact fs_X7_load_L46 _ _ _ fq3
    · exact pm_some fq2
  · exact pm_some fq2
/-! X0_takeOutAll -/
theorem fs_X0_takeOutAll_L2 {S0 : HS} {b : Nat} {v1 : Int32} : ∀ (K : Nat) (v2 : Int32) (S : HS), Fr (wC b) S0 S → Pm (fun r => Fr (wC b) S0 r) (s_X0_takeOutAll_L2 b v1 K v2 S) := by
  intro K
  induction K with
  | zero =>
    intros
    exact pm_none
  | succ K ih =>
    intro v2 S f0
    rw [s_X0_takeOutAll_L2]
    refine pm_ite (fun _ => ?_) (fun _ => ?_)
    · exact pm_some f0
    · refine pm_bind (fun q1 _ => ?_)
      refine pm_ite (fun _ => ?_) (fun _ => ?_)
      · exact ih _ _ f0
      · refine pm_bind (fun q2 hq2 => ?_)
        have fq2 := fr_tr f0 (fs_X0_takeOut fr_rf _ hq2) (fun _ _ z => z)
        exact ih _ _ fq2
theorem fs_X0_takeOutAll {S0 : HS} {b : Nat} {v1 : Int32} {S : HS} (f0 : Fr (wC b) S0 S) : Pm (fun r => Fr (wC b) S0 r) (s_X0_takeOutAll b v1 S) := by
  unfold s_X0_takeOutAll
  exact fs_X0_takeOutAll_L2 _ _ _ f0
/-! X7_unload -/
theorem fs_X7_unload {S0 : HS} {v1 : Int32} {v2 : Int32} {S : HS} (f0 : Fr wD S0 S) : Pm (fun r => Fr wD S0 r.2) (s_X7_unload v1 v2 S) := by
  unfold s_X7_unload
  refine pm_bind (fun q1 _ => ?_)
  refine pm_ite (fun _ => ?_) (fun _ => ?_)
  · exact pm_some f0
  · refine pm_ite (fun _ => ?_) (fun _ => ?_)
    · exact pm_some f0
    · refine pm_bind (fun q2 _ => ?_)
      refine pm_ite (fun _ => ?_) (fun _ => ?_)
      · refine pm_bind (fun q3 _ => ?_)
        refine pm_bind (fun t4 ht4 => ?_)
        have it4 := tl_is ht4
        refine pm_bind (fun q5 _ => ?_)
        refine pm_ite (fun _ => ?_) (fun _ => ?_)
        · refine pm_bind (fun q6 hq6 => ?_)
          have fq6 := fr_tr f0 (fs_X1_keep fr_rf _ hq6) (fun _ _ _ => trivial)
          refine pm_bind (fun q7 hq7 => ?_)
          have fq7 := fr_tr fq6 (fs_X0_takeOutAll fr_rf _ hq7) (fun _ _ _ => trivial)
          refine pm_bind (fun S8 hS8 => ?_)
          have fS8 := fr_wa fq7 trivial hS8
          refine pm_bind (fun S9 hS9 => ?_)
          have fS9 := fr_wa fS8 trivial hS9
          refine pm_bind (fun t10 ht10 => ?_)
          have it10 := tl_is ht10
          refine pm_bind (fun q11 _ => ?_)
          exact pm_some fS9
        · exact pm_some f0
      · exact pm_some f0
/-! X7_empty -/
theorem fs_X7_empty_J66 {S0 : HS} {v1 : Int32} {S : HS} (f0 : Fr wD S0 S) : Pm (fun r => Fr wD S0 r.2) (s_X7_empty_J66 v1 S) := by
  unfold s_X7_empty_J66
  refine pm_bind (fun q6 hq6 => ?_)
  have fq6 := fr_tr f0 (fs_X1_keep fr_rf _ hq6) (fun _ _ _ => trivial)
  refine pm_bind (fun a7 _ => ?_)
  refine pm_bind (fun q8 hq8 => ?_)
  have fq8 := fr_tr fq6 (fs_X0_takeOut fr_rf _ hq8) (fun _ _ _ => trivial)
  exact pm_some fq8
theorem fs_X7_empty {S0 : HS} {v1 : Int32} {S : HS} (f0 : Fr wD S0 S) : Pm (fun r => Fr wD S0 r.2) (s_X7_empty v1 S) := by
  unfold s_X7_empty
  refine pm_bind (fun t1 ht1 => ?_)
  have it1 := tl_is ht1
  refine pm_bind (fun q2 _ => ?_)
  refine pm_ite (fun _ => ?_) (fun _ => ?_)
  · exact pm_some f0
  · refine pm_bind (fun a3 _ => ?_)
    refine pm_ite (fun _ => ?_) (fun _ => ?_)
    · refine pm_bind (fun a4 _ => ?_)
      refine pm_bind (fun q5 _ => ?_)
      refine pm_ite (fun _ => ?_) (fun _ => ?_)
      · exact fs_X7_empty_J66 f0
      · refine pm_bind (fun t9 ht9 => ?_)
        have it9 := tl_is ht9
        refine pm_bind (fun q10 _ => ?_)
        refine pm_ite (fun _ => ?_) (fun _ => ?_)
        · exact fs_X7_empty_J66 f0
        · exact pm_some f0
    · exact pm_some f0
