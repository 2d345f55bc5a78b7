/-! what the public methods leave: the tape, the fault -/
def wX (k j : Nat) : Prop := 4 ≤ k
def wY (k j : Nat) : Prop := 139 ≤ k ∨ (k = 137 ∧ (j = 0 ∨ j = 14 ∨ j = 21 ∨ j = 26 ∨ j = 27))
theorem fx_X7_would {S0 : HS} {v1 : Int32} {v2 : Int32} {v3 : Int32} {S : HS} (f0 : Fr wX S0 S) : Pm (fun r => Fr wX S0 r.2) (s_X7_would v1 v2 v3 S) := by
  unfold s_X7_would
  refine pm_bind (fun t1 ht1 => ?_)
  have it1 := tl_is ht1
  refine pm_bind (fun q2 _ => ?_)
  refine pm_ite (fun _ => ?_) (fun _ => ?_)
  · exact pm_some f0
  · refine pm_bind (fun t3 ht3 => ?_)
    have it3 := tl_is ht3
    refine pm_bind (fun q4 _ => ?_)
    refine pm_ite (fun _ => ?_) (fun _ => ?_)
    · exact pm_some f0
    · refine pm_ite (fun _ => ?_) (fun _ => ?_)
      · exact pm_some f0
      · refine pm_bind (fun t5 ht5 => ?_)
        have it5 := tl_is ht5
        refine pm_bind (fun a6 _ => ?_)
        refine pm_ite (fun _ => ?_) (fun _ => ?_)
        · refine pm_bind (fun q7 hq7 => ?_)
          have fq7 := fr_tr f0 (fs_X0_copyFrom fr_rf _ hq7) (fun k j h => by simp only [wX, wY, wTt, wC, wS, wH, wB, wO, wP, wN, wQ, wU, wM, wZ, w9] at *; omega)
          refine pm_bind (fun t8 ht8 => ?_)
          have it8 := tl_is ht8
          refine pm_bind (fun q9 hq9 => ?_)
          have fq9 := fr_tr fq7 (fs_X0_lay fr_rf _ hq9) (fun k j h => by simp only [wX, wY, wTt, wC, wS, wH, wB, wO, wP, wN, wQ, wU, wM, wZ, w9] at *; omega)
          refine pm_bind (fun t10 ht10 => ?_)
          have it10 := tl_is ht10
          refine pm_bind (fun q11 _ => ?_)
          exact pm_some fq9
        · exact pm_some f0
theorem fx_X7_orders {S0 : HS} {S : HS} (f0 : Fr wX S0 S) : Pm (fun r => Fr wX S0 r.2) (s_X7_orders S) := by
  unfold s_X7_orders
  refine pm_bind (fun t1 ht1 => ?_)
  have it1 := tl_is ht1
  refine pm_bind (fun q2 hq2 => ?_)
  have fq2 := fr_tr f0 (fs_X2_count fr_rf _ hq2) (fun k j h => by simp only [wX, wY, wTt, wC, wS, wH, wB, wO, wP, wN, wQ, wU, wM, wZ, w9] at *; omega)
  exact pm_some fq2
theorem fx_X7_ordered {S0 : HS} {v1 : Int32} {S : HS} (f0 : Fr wX S0 S) : Pm (fun r => Fr wX S0 r.2) (s_X7_ordered v1 S) := by
  unfold s_X7_ordered
  refine pm_bind (fun t1 ht1 => ?_)
  have it1 := tl_is ht1
  refine pm_bind (fun q2 hq2 => ?_)
  have fq2 := fr_tr f0 (fs_X2_count fr_rf _ hq2) (fun k j h => by simp only [wX, wY, wTt, wC, wS, wH, wB, wO, wP, wN, wQ, wU, wM, wZ, w9] at *; omega)
  refine pm_bind (fun q3 _ => ?_)
  exact pm_some fq2
theorem fx_X7_plan_J79 {S0 : HS} {v1 : Int32} {S : HS} (f0 : Fr wX S0 S) : Pm (fun r => Fr wX S0 r.2) (s_X7_plan_J79 v1 S) := by
  unfold s_X7_plan_J79
  refine pm_ite (fun _ => ?_) (fun _ => ?_)
  · exact pm_some f0
  · refine pm_bind (fun t3 ht3 => ?_)
    have it3 := tl_is ht3
    refine pm_bind (fun q4 _ => ?_)
    refine pm_ite (fun _ => ?_) (fun _ => ?_)
    · exact pm_some f0
    · refine pm_bind (fun a5 _ => ?_)
      exact pm_some f0
theorem fx_X7_plan {S0 : HS} {v1 : Int32} {S : HS} (f0 : Fr wX S0 S) : Pm (fun r => Fr wX S0 r.2) (s_X7_plan v1 S) := by
  unfold s_X7_plan
  refine pm_bind (fun t1 ht1 => ?_)
  have it1 := tl_is ht1
  refine pm_bind (fun q2 hq2 => ?_)
  have fq2 := fr_tr f0 (fs_X3_findsPlan fr_rf _ hq2) (fun k j h => by simp only [wX, wY, wTt, wC, wS, wH, wB, wO, wP, wN, wQ, wU, wM, wZ, w9] at *; omega)
  refine pm_ite (fun _ => ?_) (fun _ => ?_)
  · refine pm_ite (fun _ => ?_) (fun _ => ?_)
    · refine pm_ite (fun _ => ?_) (fun _ => ?_)
      · refine pm_ite (fun _ => ?_) (fun _ => ?_)
        · exact fx_X7_plan_J79 fq2
        · refine pm_bind (fun t6 ht6 => ?_)
          have it6 := tl_is ht6
          refine pm_bind (fun q7 _ => ?_)
          refine pm_ite (fun _ => ?_) (fun _ => ?_)
          · exact fx_X7_plan_J79 fq2
          · refine pm_bind (fun a8 _ => ?_)
            exact pm_some fq2
      · exact pm_some fq2
    · exact pm_some fq2
  · exact pm_some fq2
theorem fx_X7_washes {S0 : HS} {S : HS} (f0 : Fr wX S0 S) : Pm (fun r => Fr wX S0 r.2) (s_X7_washes S) := by
  unfold s_X7_washes
  refine pm_bind (fun t1 ht1 => ?_)
  have it1 := tl_is ht1
  refine pm_bind (fun q2 hq2 => ?_)
  have fq2 := fr_tr f0 (fs_X3_fewestWashes fr_rf _ hq2) (fun k j h => by simp only [wX, wY, wTt, wC, wS, wH, wB, wO, wP, wN, wQ, wU, wM, wZ, w9] at *; omega)
  refine pm_ite (fun _ => ?_) (fun _ => ?_)
  · exact pm_some fq2
  · exact pm_some fq2
theorem fx_X7_asks {S0 : HS} {v1 : Int32} {v2 : Int32} {S : HS} (f0 : Fr wX S0 S) : Pm (fun r => Fr wX S0 r.2) (s_X7_asks v1 v2 S) := by
  unfold s_X7_asks
  refine pm_bind (fun t1 ht1 => ?_)
  have it1 := tl_is ht1
  refine pm_bind (fun q2 _ => ?_)
  refine pm_ite (fun _ => ?_) (fun _ => ?_)
  · exact pm_some f0
  · refine pm_ite (fun _ => ?_) (fun _ => ?_)
    · exact pm_some f0
    · refine pm_ite (fun _ => ?_) (fun _ => ?_)
      · refine pm_bind (fun t3 ht3 => ?_)
        have it3 := tl_is ht3
        refine pm_bind (fun q4 _ => ?_)
        refine pm_ite (fun _ => ?_) (fun _ => ?_)
        · refine pm_ite (fun _ => ?_) (fun _ => ?_)
          · refine pm_bind (fun q5 hq5 => ?_)
            have fq5 := fr_tr f0 (fs_X1_keep fr_rf _ hq5) (fun k j h => by simp only [wX, wY, wTt, wC, wS, wH, wB, wO, wP, wN, wQ, wU, wM, wZ, w9] at *; omega)
            refine pm_bind (fun t6 ht6 => ?_)
            have it6 := tl_is ht6
            refine pm_bind (fun S7 hS7 => ?_)
            have fS7 := fr_wa fq5 (by unfold wX; omega) hS7
            refine pm_bind (fun t8 ht8 => ?_)
            have it8 := tl_is ht8
            refine pm_bind (fun S9 hS9 => ?_)
            have fS9 := fr_wa fS7 (by unfold wX; omega) hS9
            refine pm_bind (fun q10 hq10 => ?_)
            have fq10 := fr_tr fS9 (fs_X5_addDrop fr_rf _ hq10) (fun k j h => by simp only [wX, wY, wTt, wC, wS, wH, wB, wO, wP, wN, wQ, wU, wM, wZ, w9] at *; omega)
            exact pm_some fq10
          · exact pm_some f0
        · exact pm_some f0
      · exact pm_some f0
theorem fx_X7_cancel {S0 : HS} {v1 : Int32} {S : HS} (f0 : Fr wX S0 S) : Pm (fun r => Fr wX S0 r.2) (s_X7_cancel v1 S) := by
  unfold s_X7_cancel
  refine pm_bind (fun q1 _ => ?_)
  refine pm_ite (fun _ => ?_) (fun _ => ?_)
  · exact pm_some f0
  · refine pm_bind (fun q2 _ => ?_)
    refine pm_ite (fun _ => ?_) (fun _ => ?_)
    · refine pm_bind (fun q3 hq3 => ?_)
      have fq3 := fr_tr f0 (fs_X1_keep fr_rf _ hq3) (fun k j h => by simp only [wX, wY, wTt, wC, wS, wH, wB, wO, wP, wN, wQ, wU, wM, wZ, w9] at *; omega)
      refine pm_bind (fun S4 hS4 => ?_)
      have fS4 := fr_wa fq3 (by unfold wX; omega) hS4
      exact pm_some fS4
    · exact pm_some f0
theorem fx_X7_put {S0 : HS} {v1 : Int32} {v2 : Int32} {S : HS} (f0 : Fr wX S0 S) : Pm (fun r => Fr wX S0 r.2) (s_X7_put v1 v2 S) := by
  unfold s_X7_put
  refine pm_bind (fun t1 ht1 => ?_)
  have it1 := tl_is ht1
  refine pm_bind (fun q2 _ => ?_)
  refine pm_ite (fun _ => ?_) (fun _ => ?_)
  · exact pm_some f0
  · refine pm_bind (fun q3 _ => ?_)
    refine pm_ite (fun _ => ?_) (fun _ => ?_)
    · refine pm_bind (fun a4 _ => ?_)
      refine pm_ite (fun _ => ?_) (fun _ => ?_)
      · refine pm_bind (fun t5 ht5 => ?_)
        have it5 := tl_is ht5
        refine pm_bind (fun a6 _ => ?_)
        refine pm_bind (fun t7 ht7 => ?_)
        have it7 := tl_is ht7
        refine pm_bind (fun a8 _ => ?_)
        refine pm_bind (fun q9 _ => ?_)
        refine pm_ite (fun _ => ?_) (fun _ => ?_)
        · refine pm_bind (fun t10 ht10 => ?_)
          have it10 := tl_is ht10
          refine pm_bind (fun q11 _ => ?_)
          refine pm_ite (fun _ => ?_) (fun _ => ?_)
          · refine pm_bind (fun q12 hq12 => ?_)
            have fq12 := fr_tr f0 (fs_X1_keep fr_rf _ hq12) (fun k j h => by simp only [wX, wY, wTt, wC, wS, wH, wB, wO, wP, wN, wQ, wU, wM, wZ, w9] at *; omega)
            refine pm_bind (fun t13 ht13 => ?_)
            have it13 := tl_is ht13
            refine pm_bind (fun a14 _ => ?_)
            refine pm_bind (fun q15 _ => ?_)
            refine pm_bind (fun t16 ht16 => ?_)
            have it16 := tl_is ht16
            refine pm_bind (fun q17 hq17 => ?_)
            have fq17 := fr_tr fq12 (fs_X0_lay fr_rf _ hq17) (fun k j h => by simp only [wX, wY, wTt, wC, wS, wH, wB, wO, wP, wN, wQ, wU, wM, wZ, w9] at *; omega)
            exact pm_some fq17
          · exact pm_some f0
        · exact pm_some f0
      · exact pm_some f0
    · exact pm_some f0
theorem fx_X7_load_L46 {S0 : HS} : ∀ (K : Nat) (v1 : Int32) (S : HS), Fr wX S0 S → Pm (fun r => Fr wX S0 r.2) (s_X7_load_L46 K v1 S) := by
  intro K
  induction K with
  | zero =>
    intros
    exact pm_none
  | succ K ih =>
    intro v1 S f0
    rw [s_X7_load_L46]
    refine pm_bind (fun t4 ht4 => ?_)
    have it4 := tl_is ht4
    refine pm_ite (fun _ => ?_) (fun _ => ?_)
    · exact pm_some f0
    · refine pm_bind (fun a5 _ => ?_)
      refine pm_bind (fun q6 _ => ?_)
      refine pm_ite (fun _ => ?_) (fun _ => ?_)
      · exact ih _ _ f0
      · refine pm_bind (fun t7 ht7 => ?_)
        have it7 := tl_is ht7
        refine pm_bind (fun t8 ht8 => ?_)
        have it8 := tl_is ht8
        refine pm_bind (fun a9 _ => ?_)
        refine pm_bind (fun a10 _ => ?_)
        refine pm_bind (fun q11 hq11 => ?_)
        have fq11 := fr_tr f0 (fs_X0_lay fr_rf _ hq11) (fun k j h => by simp only [wX, wY, wTt, wC, wS, wH, wB, wO, wP, wN, wQ, wU, wM, wZ, w9] at *; omega)
        exact ih _ _ fq11
theorem fx_X7_load {S0 : HS} {S : HS} (f0 : Fr wX S0 S) : Pm (fun r => Fr wX S0 r.2) (s_X7_load S) := by
  unfold s_X7_load
  refine pm_bind (fun t1 ht1 => ?_)
  have it1 := tl_is ht1
  refine pm_bind (fun q2 hq2 => ?_)
  have fq2 := fr_tr f0 (fs_X3_findsPlan fr_rf _ hq2) (fun k j h => by simp only [wX, wY, wTt, wC, wS, wH, wB, wO, wP, wN, wQ, wU, wM, wZ, w9] at *; omega)
  refine pm_ite (fun _ => ?_) (fun _ => ?_)
  · refine pm_ite (fun _ => ?_) (fun _ => ?_)
    · refine pm_bind (fun q3 hq3 => ?_)
      have fq3 := fr_tr fq2 (fs_X1_keep fr_rf _ hq3) (fun k j h => by simp only [wX, wY, wTt, wC, wS, wH, wB, wO, wP, wN, wQ, wU, wM, wZ, w9] at *; omega)
      exact fx_X7_load_L46 _ _ _ fq3
    · exact pm_some fq2
  · exact pm_some fq2
theorem fx_X7_unload {S0 : HS} {v1 : Int32} {v2 : Int32} {S : HS} (f0 : Fr wX S0 S) : Pm (fun r => Fr wX S0 r.2) (s_X7_unload v1 v2 S) := by
  unfold s_X7_unload
  refine pm_bind (fun q1 _ => ?_)
  refine pm_ite (fun _ => ?_) (fun _ => ?_)
  · exact pm_some f0
  · refine pm_ite (fun _ => ?_) (fun _ => ?_)
    · exact pm_some f0
    · refine pm_bind (fun q2 _ => ?_)
      refine pm_ite (fun _ => ?_) (fun _ => ?_)
      · refine pm_bind (fun q3 _ => ?_)
        refine pm_bind (fun t4 ht4 => ?_)
        have it4 := tl_is ht4
        refine pm_bind (fun q5 _ => ?_)
        refine pm_ite (fun _ => ?_) (fun _ => ?_)
        · refine pm_bind (fun q6 hq6 => ?_)
          have fq6 := fr_tr f0 (fs_X1_keep fr_rf _ hq6) (fun k j h => by simp only [wX, wY, wTt, wC, wS, wH, wB, wO, wP, wN, wQ, wU, wM, wZ, w9] at *; omega)
          refine pm_bind (fun q7 hq7 => ?_)
          have fq7 := fr_tr fq6 (fs_X0_takeOutAll fr_rf _ hq7) (fun k j h => by simp only [wX, wY, wTt, wC, wS, wH, wB, wO, wP, wN, wQ, wU, wM, wZ, w9] at *; omega)
          refine pm_bind (fun S8 hS8 => ?_)
          have fS8 := fr_wa fq7 (by unfold wX; omega) hS8
          refine pm_bind (fun S9 hS9 => ?_)
          have fS9 := fr_wa fS8 (by unfold wX; omega) hS9
          refine pm_bind (fun t10 ht10 => ?_)
          have it10 := tl_is ht10
          refine pm_bind (fun q11 _ => ?_)
          exact pm_some fS9
        · exact pm_some f0
      · exact pm_some f0
theorem fx_X7_empty_J66 {S0 : HS} {v1 : Int32} {S : HS} (f0 : Fr wX S0 S) : Pm (fun r => Fr wX S0 r.2) (s_X7_empty_J66 v1 S) := by
  unfold s_X7_empty_J66
  refine pm_bind (fun q6 hq6 => ?_)
  have fq6 := fr_tr f0 (fs_X1_keep fr_rf _ hq6) (fun k j h => by simp only [wX, wY, wTt, wC, wS, wH, wB, wO, wP, wN, wQ, wU, wM, wZ, w9] at *; omega)
  refine pm_bind (fun a7 _ => ?_)
  refine pm_bind (fun q8 hq8 => ?_)
  have fq8 := fr_tr fq6 (fs_X0_takeOut fr_rf _ hq8) (fun k j h => by simp only [wX, wY, wTt, wC, wS, wH, wB, wO, wP, wN, wQ, wU, wM, wZ, w9] at *; omega)
  exact pm_some fq8
theorem fx_X7_empty {S0 : HS} {v1 : Int32} {S : HS} (f0 : Fr wX S0 S) : Pm (fun r => Fr wX S0 r.2) (s_X7_empty v1 S) := by
  unfold s_X7_empty
  refine pm_bind (fun t1 ht1 => ?_)
  have it1 := tl_is ht1
  refine pm_bind (fun q2 _ => ?_)
  refine pm_ite (fun _ => ?_) (fun _ => ?_)
  · exact pm_some f0
  · refine pm_bind (fun a3 _ => ?_)
    refine pm_ite (fun _ => ?_) (fun _ => ?_)
    · refine pm_bind (fun a4 _ => ?_)
      refine pm_bind (fun q5 _ => ?_)
      refine pm_ite (fun _ => ?_) (fun _ => ?_)
      · exact fx_X7_empty_J66 f0
      · refine pm_bind (fun t9 ht9 => ?_)
        have it9 := tl_is ht9
        refine pm_bind (fun q10 _ => ?_)
        refine pm_ite (fun _ => ?_) (fun _ => ?_)
        · exact fx_X7_empty_J66 f0
        · exact pm_some f0
    · exact pm_some f0
theorem fx_X7_wash {S0 : HS} {v1 : Int32} {S : HS} (f0 : Fr wX S0 S) : Pm (fun r => Fr wX S0 r.2) (s_X7_wash v1 S) := by
  unfold s_X7_wash
  refine pm_bind (fun t1 ht1 => ?_)
  have it1 := tl_is ht1
  refine pm_bind (fun q2 _ => ?_)
  refine pm_ite (fun _ => ?_) (fun _ => ?_)
  · exact pm_some f0
  · refine pm_bind (fun a3 _ => ?_)
    refine pm_ite (fun _ => ?_) (fun _ => ?_)
    · exact pm_some f0
    · refine pm_bind (fun a4 _ => ?_)
      refine pm_ite (fun _ => ?_) (fun _ => ?_)
      · refine pm_bind (fun q5 hq5 => ?_)
        have fq5 := fr_tr f0 (fs_X1_keep fr_rf _ hq5) (fun k j h => by simp only [wX, wY, wTt, wC, wS, wH, wB, wO, wP, wN, wQ, wU, wM, wZ, w9] at *; omega)
        refine pm_bind (fun S6 hS6 => ?_)
        have fS6 := fr_wa fq5 (by unfold wX; omega) hS6
        refine pm_bind (fun S7 hS7 => ?_)
        have fS7 := fr_pf fS6 (by unfold wX; omega) hS7
        exact pm_some fS7
      · exact pm_some f0
theorem fx_X7_undo {S0 : HS} {S : HS} (f0 : Fr wX S0 S) : Pm (fun r => Fr wX S0 r.2) (s_X7_undo S) := by
  unfold s_X7_undo
  refine pm_bind (fun q1 hq1 => ?_)
  have fq1 := fr_tr f0 (fs_X1_goBack fr_rf _ hq1) (fun k j h => by simp only [wX, wY, wTt, wC, wS, wH, wB, wO, wP, wN, wQ, wU, wM, wZ, w9] at *; omega)
  refine pm_ite (fun _ => ?_) (fun _ => ?_)
  · exact pm_some fq1
  · exact pm_some fq1
theorem fx_X8_fault {S0 : HS} {S : HS} (f0 : Fr wY S0 S) : Pm (fun r => Fr wY S0 r.2) (s_X8_fault S) := by
  unfold s_X8_fault
  refine pm_bind (fun S1 hS1 => ?_)
  have fS1 := fr_pf f0 (by unfold wY; omega) hS1
  exact pm_some fS1
theorem fx_X8_now {S0 : HS} {v1 : Int32} {S : HS} (f0 : Fr wY S0 S) : Pm (fun r => Fr wY S0 r.2) (s_X8_now v1 S) := by
  unfold s_X8_now
  refine pm_bind (fun S1 hS1 => ?_)
  have fS1 := fr_pf f0 (by unfold wY; omega) hS1
  refine pm_bind (fun q2 hq2 => ?_)
  have fq2 := fr_tr fS1 (fs_X8_laysNow fr_rf _ hq2) (fun k j h => by simp only [wX, wY, wTt, wC, wS, wH, wB, wO, wP, wN, wQ, wU, wM, wZ, w9] at *; omega)
  refine pm_ite (fun _ => ?_) (fun _ => ?_)
  · refine pm_bind (fun a3 _ => ?_)
    exact pm_some fq2
  · refine pm_ite (fun _ => ?_) (fun _ => ?_)
    · refine pm_bind (fun a4 _ => ?_)
      exact pm_some fq2
    · refine pm_ite (fun _ => ?_) (fun _ => ?_)
      · refine pm_bind (fun a5 _ => ?_)
        exact pm_some fq2
      · refine pm_ite (fun _ => ?_) (fun _ => ?_)
        · refine pm_bind (fun q6 _ => ?_)
          exact pm_some fq2
        · refine pm_ite (fun _ => ?_) (fun _ => ?_)
          · refine pm_bind (fun q7 _ => ?_)
            exact pm_some fq2
          · refine pm_ite (fun _ => ?_) (fun _ => ?_)
            · refine pm_bind (fun q8 _ => ?_)
              exact pm_some fq2
            · refine pm_ite (fun _ => ?_) (fun _ => ?_)
              · refine pm_bind (fun q9 _ => ?_)
                exact pm_some fq2
              · refine pm_ite (fun _ => ?_) (fun _ => ?_)
                · refine pm_bind (fun a10 _ => ?_)
                  exact pm_some fq2
                · refine pm_ite (fun _ => ?_) (fun _ => ?_)
                  · exact pm_some fq2
                  · refine pm_ite (fun _ => ?_) (fun _ => ?_)
                    · exact pm_some fq2
                    · exact pm_some fq2
theorem fx_X8_compartment_J60 {S0 : HS} {v1 : Int32} {v2 : Int32} {S : HS} (f0 : Fr wY S0 S) : Pm (fun r => Fr wY S0 r.2) (s_X8_compartment_J60 v1 v2 S) := by
  unfold s_X8_compartment_J60
  refine pm_bind (fun q3 _ => ?_)
  exact pm_some f0
theorem fx_X8_compartment {S0 : HS} {v1 : Int32} {v2 : Int32} {S : HS} (f0 : Fr wY S0 S) : Pm (fun r => Fr wY S0 r.2) (s_X8_compartment v1 v2 S) := by
  unfold s_X8_compartment
  refine pm_bind (fun S1 hS1 => ?_)
  have fS1 := fr_pf f0 (by unfold wY; omega) hS1
  refine pm_bind (fun q2 _ => ?_)
  refine pm_ite (fun _ => ?_) (fun _ => ?_)
  · refine pm_ite (fun _ => ?_) (fun _ => ?_)
    · exact fx_X8_compartment_J60 fS1
    · refine pm_ite (fun _ => ?_) (fun _ => ?_)
      · exact fx_X8_compartment_J60 fS1
      · refine pm_ite (fun _ => ?_) (fun _ => ?_)
        · exact fx_X8_compartment_J60 fS1
        · refine pm_ite (fun _ => ?_) (fun _ => ?_)
          · refine pm_bind (fun q4 _ => ?_)
            exact pm_some fS1
          · refine pm_ite (fun _ => ?_) (fun _ => ?_)
            · refine pm_bind (fun q5 _ => ?_)
              exact pm_some fS1
            · refine pm_ite (fun _ => ?_) (fun _ => ?_)
              · refine pm_bind (fun q6 _ => ?_)
                exact pm_some fS1
              · refine pm_ite (fun _ => ?_) (fun _ => ?_)
                · refine pm_bind (fun q7 _ => ?_)
                  exact pm_some fS1
                · exact pm_some fS1
  · exact pm_some fS1
theorem fx_X8_refuse {S0 : HS} {S : HS} (f0 : Fr wY S0 S) : Pm (fun r => Fr wY S0 r.2) (s_X8_refuse S) := by
  unfold s_X8_refuse
  refine pm_bind (fun S1 hS1 => ?_)
  have fS1 := fr_pf f0 (by unfold wY; omega) hS1
  exact pm_some fS1
theorem fx_X8_drop {S0 : HS} {v1 : Int32} {v2 : Int32} {S : HS} (f0 : Fr wY S0 S) : Pm (fun r => Fr wY S0 r.2) (s_X8_drop v1 v2 S) := by
  unfold s_X8_drop
  refine pm_bind (fun S1 hS1 => ?_)
  have fS1 := fr_pf f0 (by unfold wY; omega) hS1
  refine pm_bind (fun q2 _ => ?_)
  refine pm_ite (fun _ => ?_) (fun _ => ?_)
  · refine pm_bind (fun q3 hq3 => ?_)
    have fq3 := fr_tr fS1 (fx_X8_refuse fr_rf _ hq3) (fun k j h => by simp only [wX, wY, wTt, wC, wS, wH, wB, wO, wP, wN, wQ, wU, wM, wZ, w9] at *; omega)
    exact pm_some fq3
  · refine pm_bind (fun q4 _ => ?_)
    refine pm_ite (fun _ => ?_) (fun _ => ?_)
    · refine pm_ite (fun _ => ?_) (fun _ => ?_)
      · refine pm_ite (fun _ => ?_) (fun _ => ?_)
        · refine pm_bind (fun q5 _ => ?_)
          exact pm_some fS1
        · refine pm_bind (fun q6 _ => ?_)
          exact pm_some fS1
      · refine pm_bind (fun q7 _ => ?_)
        exact pm_some fS1
    · refine pm_bind (fun q8 hq8 => ?_)
      have fq8 := fr_tr fS1 (fx_X8_refuse fr_rf _ hq8) (fun k j h => by simp only [wX, wY, wTt, wC, wS, wH, wB, wO, wP, wN, wQ, wU, wM, wZ, w9] at *; omega)
      exact pm_some fq8
theorem fx_X8_may {S0 : HS} {v1 : Int32} {v2 : Int32} {S : HS} (f0 : Fr wY S0 S) : Pm (fun r => Fr wY S0 r.2) (s_X8_may v1 v2 S) := by
  unfold s_X8_may
  refine pm_bind (fun S1 hS1 => ?_)
  have fS1 := fr_pf f0 (by unfold wY; omega) hS1
  refine pm_bind (fun q2 _ => ?_)
  refine pm_ite (fun _ => ?_) (fun _ => ?_)
  · exact pm_some fS1
  · refine pm_bind (fun q3 _ => ?_)
    refine pm_ite (fun _ => ?_) (fun _ => ?_)
    · exact pm_some fS1
    · refine pm_bind (fun q4 _ => ?_)
      refine pm_ite (fun _ => ?_) (fun _ => ?_)
      · exact pm_some fS1
      · exact pm_some fS1
theorem fx_X8_would {S0 : HS} {v1 : Int32} {v2 : Int32} {v3 : Int32} {S : HS} (f0 : Fr wY S0 S) : Pm (fun r => Fr wY S0 r.2) (s_X8_would v1 v2 v3 S) := by
  unfold s_X8_would
  refine pm_bind (fun S1 hS1 => ?_)
  have fS1 := fr_pf f0 (by unfold wY; omega) hS1
  refine pm_bind (fun q2 _ => ?_)
  refine pm_ite (fun _ => ?_) (fun _ => ?_)
  · exact pm_some fS1
  · refine pm_bind (fun q3 _ => ?_)
    refine pm_ite (fun _ => ?_) (fun _ => ?_)
    · exact pm_some fS1
    · refine pm_bind (fun q4 _ => ?_)
      refine pm_bind (fun q5 _ => ?_)
      refine pm_ite (fun _ => ?_) (fun _ => ?_)
      · refine pm_bind (fun q6 hq6 => ?_)
        have fq6 := fr_tr fS1 (fs_X8_laysNow fr_rf _ hq6) (fun k j h => by simp only [wX, wY, wTt, wC, wS, wH, wB, wO, wP, wN, wQ, wU, wM, wZ, w9] at *; omega)
        refine pm_bind (fun S7 hS7 => ?_)
        have fS7 := fr_wa fq6 (by unfold wY; omega) hS7
        refine pm_bind (fun S8 hS8 => ?_)
        have fS8 := fr_wa fS7 (by unfold wY; omega) hS8
        refine pm_bind (fun S9 hS9 => ?_)
        have fS9 := fr_wa fS8 (by unfold wY; omega) hS9
        refine pm_bind (fun q10 _ => ?_)
        exact pm_some fS9
      · exact pm_some fS1
theorem fx_X8_orders {S0 : HS} {S : HS} (f0 : Fr wY S0 S) : Pm (fun r => Fr wY S0 r.2) (s_X8_orders S) := by
  unfold s_X8_orders
  refine pm_bind (fun S1 hS1 => ?_)
  have fS1 := fr_pf f0 (by unfold wY; omega) hS1
  refine pm_bind (fun q2 hq2 => ?_)
  have fq2 := fr_tr fS1 (fs_X8_laysNow fr_rf _ hq2) (fun k j h => by simp only [wX, wY, wTt, wC, wS, wH, wB, wO, wP, wN, wQ, wU, wM, wZ, w9] at *; omega)
  refine pm_bind (fun q3 _ => ?_)
  refine pm_bind (fun q4 hq4 => ?_)
  have fq4 := fr_tr fq2 (fs_X8_ordersOf fr_rf _ hq4) (fun k j h => by simp only [wX, wY, wTt, wC, wS, wH, wB, wO, wP, wN, wQ, wU, wM, wZ, w9] at *; omega)
  exact pm_some fq4
theorem fx_X8_ordered {S0 : HS} {v1 : Int32} {S : HS} (f0 : Fr wY S0 S) : Pm (fun r => Fr wY S0 r.2) (s_X8_ordered v1 S) := by
  unfold s_X8_ordered
  refine pm_bind (fun S1 hS1 => ?_)
  have fS1 := fr_pf f0 (by unfold wY; omega) hS1
  refine pm_bind (fun q2 hq2 => ?_)
  have fq2 := fr_tr fS1 (fs_X8_laysNow fr_rf _ hq2) (fun k j h => by simp only [wX, wY, wTt, wC, wS, wH, wB, wO, wP, wN, wQ, wU, wM, wZ, w9] at *; omega)
  refine pm_bind (fun q3 _ => ?_)
  refine pm_bind (fun q4 hq4 => ?_)
  have fq4 := fr_tr fq2 (fs_X8_ordersOf fr_rf _ hq4) (fun k j h => by simp only [wX, wY, wTt, wC, wS, wH, wB, wO, wP, wN, wQ, wU, wM, wZ, w9] at *; omega)
  refine pm_bind (fun q5 _ => ?_)
  refine pm_ite (fun _ => ?_) (fun _ => ?_)
  · exact pm_some fq4
  · refine pm_bind (fun a6 _ => ?_)
    exact pm_some fq4
theorem fx_X8_without {S0 : HS} {v1 : Int32} {S : HS} (f0 : Fr wY S0 S) : Pm (fun r => Fr wY S0 r.2) (s_X8_without v1 S) := by
  unfold s_X8_without
  refine pm_bind (fun S1 hS1 => ?_)
  have fS1 := fr_pf f0 (by unfold wY; omega) hS1
  refine pm_bind (fun q2 _ => ?_)
  refine pm_ite (fun _ => ?_) (fun _ => ?_)
  · exact pm_some fS1
  · refine pm_bind (fun q3 _ => ?_)
    refine pm_ite (fun _ => ?_) (fun _ => ?_)
    · refine pm_bind (fun q4 hq4 => ?_)
      have fq4 := fr_tr fS1 (fs_X8_laysNow fr_rf _ hq4) (fun k j h => by simp only [wX, wY, wTt, wC, wS, wH, wB, wO, wP, wN, wQ, wU, wM, wZ, w9] at *; omega)
      refine pm_bind (fun q5 _ => ?_)
      exact pm_some fq4
    · exact pm_some fS1
theorem fx_X8_plan_J52 {S0 : HS} {v1 : Int32} {v2 : Int32} {S : HS} (f0 : Fr wY S0 S) : Pm (fun r => Fr wY S0 r.2) (s_X8_plan_J52 v1 v2 S) := by
  unfold s_X8_plan_J52
  refine pm_bind (fun q3 hq3 => ?_)
  have fq3 := fr_tr f0 (fs_X8_laysPlan fr_rf _ hq3) (fun k j h => by simp only [wX, wY, wTt, wC, wS, wH, wB, wO, wP, wN, wQ, wU, wM, wZ, w9] at *; omega)
  refine pm_ite (fun _ => ?_) (fun _ => ?_)
  · refine pm_ite (fun _ => ?_) (fun _ => ?_)
    · refine pm_ite (fun _ => ?_) (fun _ => ?_)
      · refine pm_ite (fun _ => ?_) (fun _ => ?_)
        · refine pm_bind (fun a4 _ => ?_)
          exact pm_some fq3
        · refine pm_bind (fun a5 _ => ?_)
          exact pm_some fq3
      · exact pm_some fq3
    · exact pm_some fq3
  · exact pm_some fq3
theorem fx_X8_plan_J22 {S0 : HS} {v1 : Int32} {x0 : Int32} {S : HS} (f0 : Fr wY S0 S) : Pm (fun r => Fr wY S0 r.2) (s_X8_plan_J22 v1 x0 S) := by
  unfold s_X8_plan_J22
  refine pm_bind (fun q2 _ => ?_)
  refine pm_ite (fun _ => ?_) (fun _ => ?_)
  · exact fx_X8_plan_J52 f0
  · refine pm_bind (fun q6 _ => ?_)
    refine pm_ite (fun _ => ?_) (fun _ => ?_)
    · exact pm_some f0
    · refine pm_bind (fun q7 _ => ?_)
      refine pm_ite (fun _ => ?_) (fun _ => ?_)
      · exact fx_X8_plan_J52 f0
      · exact pm_some f0
theorem fx_X8_plan {S0 : HS} {v1 : Int32} {S : HS} (f0 : Fr wY S0 S) : Pm (fun r => Fr wY S0 r.2) (s_X8_plan v1 S) := by
  unfold s_X8_plan
  refine pm_bind (fun S1 hS1 => ?_)
  have fS1 := fr_pf f0 (by unfold wY; omega) hS1
  refine pm_ite (fun _ => ?_) (fun _ => ?_)
  · exact fx_X8_plan_J22 fS1
  · exact fx_X8_plan_J22 fS1
theorem fx_X8_washes_J105 {S0 : HS} {rc46 : Int32 → Int32 → HS → Option (Int32 × HS)} {v1 : Int32} {v2 : Int32} {v3 : Int32} {v4 : Int32} {S : HS} (hrc46 : ∀ (v2 : Int32) (v3 : Int32) (S : HS), Fr wY S0 S → Pm (fun r => Fr wY S0 r.2) (rc46 v2 v3 S)) (f0 : Fr wY S0 S) : Pm (fun r => Fr wY S0 r.2) (s_X8_washes_J105 rc46 v1 v2 v3 v4 S) := by
  unfold s_X8_washes_J105
  refine pm_bind (fun q3 hq3 => ?_)
  have fq3 := fr_tr f0 (fs_X8_laysPlan fr_rf _ hq3) (fun k j h => by simp only [wX, wY, wTt, wC, wS, wH, wB, wO, wP, wN, wQ, wU, wM, wZ, w9] at *; omega)
  refine pm_bind (fun q4 _ => ?_)
  refine pm_ite (fun _ => ?_) (fun _ => ?_)
  · exact hrc46 _ _ _ fq3
  · exact hrc46 _ _ _ fq3
theorem fx_X8_washes_L58 {S0 : HS} {rc46 : Int32 → Int32 → HS → Option (Int32 × HS)} {v1 : Int32} {v2 : Int32} {v3 : Int32} (hrc46 : ∀ (v2 : Int32) (v3 : Int32) (S : HS), Fr wY S0 S → Pm (fun r => Fr wY S0 r.2) (rc46 v2 v3 S)) : ∀ (K : Nat) (v4 : Int32) (v5 : Int32) (S : HS), Fr wY S0 S → Pm (fun r => Fr wY S0 r.2) (s_X8_washes_L58 rc46 v1 v2 v3 K v4 v5 S) := by
  intro K
  induction K with
  | zero =>
    intros
    exact pm_none
  | succ K ih =>
    intro v4 v5 S f0
    rw [s_X8_washes_L58]
    refine pm_ite (fun _ => ?_) (fun _ => ?_)
    · refine pm_ite (fun _ => ?_) (fun _ => ?_)
      · exact hrc46 _ _ _ f0
      · refine pm_ite (fun _ => ?_) (fun _ => ?_)
        · exact fx_X8_washes_J105 hrc46 f0
        · refine pm_ite (fun _ => ?_) (fun _ => ?_)
          · exact fx_X8_washes_J105 hrc46 f0
          · exact hrc46 _ _ _ f0
    · refine pm_bind (fun q5 _ => ?_)
      refine pm_ite (fun _ => ?_) (fun _ => ?_)
      · exact ih _ _ _ f0
      · exact ih _ _ _ f0
theorem fx_X8_washes_L46 {S0 : HS} {v1 : Int32} : ∀ (K : Nat) (v2 : Int32) (v3 : Int32) (S : HS), Fr wY S0 S → Pm (fun r => Fr wY S0 r.2) (s_X8_washes_L46 v1 K v2 v3 S) := by
  intro K
  induction K with
  | zero =>
    intros
    exact pm_none
  | succ K ih =>
    intro v2 v3 S f0
    rw [s_X8_washes_L46]
    refine pm_ite (fun _ => ?_) (fun _ => ?_)
    · exact pm_some f0
    · exact fx_X8_washes_L58 ih _ _ _ _ f0
theorem fx_X8_washes_L9 {S0 : HS} : ∀ (K : Nat) (v1 : Int32) (v2 : Int32) (S : HS), Fr wY S0 S → Pm (fun r => Fr wY S0 r.2) (s_X8_washes_L9 K v1 v2 S) := by
  intro K
  induction K with
  | zero =>
    intros
    exact pm_none
  | succ K ih =>
    intro v1 v2 S f0
    rw [s_X8_washes_L9]
    refine pm_bind (fun a2 _ => ?_)
    refine pm_ite (fun _ => ?_) (fun _ => ?_)
    · exact fx_X8_washes_L46 _ _ _ _ f0
    · refine pm_bind (fun q6 _ => ?_)
      refine pm_ite (fun _ => ?_) (fun _ => ?_)
      · exact ih _ _ _ f0
      · exact ih _ _ _ f0
theorem fx_X8_washes {S0 : HS} {S : HS} (f0 : Fr wY S0 S) : Pm (fun r => Fr wY S0 r.2) (s_X8_washes S) := by
  unfold s_X8_washes
  refine pm_bind (fun S1 hS1 => ?_)
  have fS1 := fr_pf f0 (by unfold wY; omega) hS1
  exact fx_X8_washes_L9 _ _ _ _ fS1
theorem fx_X8_asks {S0 : HS} {v1 : Int32} {v2 : Int32} {S : HS} (f0 : Fr wY S0 S) : Pm (fun r => Fr wY S0 r.2) (s_X8_asks v1 v2 S) := by
  unfold s_X8_asks
  refine pm_bind (fun S1 hS1 => ?_)
  have fS1 := fr_pf f0 (by unfold wY; omega) hS1
  refine pm_bind (fun q2 _ => ?_)
  refine pm_ite (fun _ => ?_) (fun _ => ?_)
  · exact pm_some fS1
  · refine pm_bind (fun q3 _ => ?_)
    refine pm_ite (fun _ => ?_) (fun _ => ?_)
    · refine pm_bind (fun q4 _ => ?_)
      refine pm_ite (fun _ => ?_) (fun _ => ?_)
      · refine pm_bind (fun a5 _ => ?_)
        refine pm_ite (fun _ => ?_) (fun _ => ?_)
        · refine pm_bind (fun q6 hq6 => ?_)
          have fq6 := fr_tr fS1 (fs_X8_snap fr_rf _ hq6) (fun k j h => by simp only [wX, wY, wTt, wC, wS, wH, wB, wO, wP, wN, wQ, wU, wM, wZ, w9] at *; omega)
          refine pm_bind (fun a7 _ => ?_)
          refine pm_bind (fun S8 hS8 => ?_)
          have fS8 := fr_wa fq6 (by unfold wY; omega) hS8
          refine pm_bind (fun S9 hS9 => ?_)
          have fS9 := fr_wa fS8 (by unfold wY; omega) hS9
          refine pm_bind (fun S10 hS10 => ?_)
          have fS10 := fr_wa fS9 (by unfold wY; omega) hS10
          refine pm_bind (fun S11 hS11 => ?_)
          have fS11 := fr_wa fS10 (by unfold wY; omega) hS11
          refine pm_bind (fun S12 hS12 => ?_)
          have fS12 := fr_wa fS11 (by unfold wY; omega) hS12
          refine pm_bind (fun a13 _ => ?_)
          refine pm_bind (fun S14 hS14 => ?_)
          have fS14 := fr_wa fS12 (by unfold wY; omega) hS14
          exact pm_some fS14
        · exact pm_some fS1
      · exact pm_some fS1
    · exact pm_some fS1
theorem fx_X8_cancel {S0 : HS} {v1 : Int32} {S : HS} (f0 : Fr wY S0 S) : Pm (fun r => Fr wY S0 r.2) (s_X8_cancel v1 S) := by
  unfold s_X8_cancel
  refine pm_bind (fun S1 hS1 => ?_)
  have fS1 := fr_pf f0 (by unfold wY; omega) hS1
  refine pm_bind (fun q2 _ => ?_)
  refine pm_ite (fun _ => ?_) (fun _ => ?_)
  · exact pm_some fS1
  · refine pm_bind (fun q3 _ => ?_)
    refine pm_ite (fun _ => ?_) (fun _ => ?_)
    · exact pm_some fS1
    · refine pm_bind (fun q4 _ => ?_)
      refine pm_ite (fun _ => ?_) (fun _ => ?_)
      · refine pm_bind (fun q5 hq5 => ?_)
        have fq5 := fr_tr fS1 (fs_X8_snap fr_rf _ hq5) (fun k j h => by simp only [wX, wY, wTt, wC, wS, wH, wB, wO, wP, wN, wQ, wU, wM, wZ, w9] at *; omega)
        refine pm_bind (fun S6 hS6 => ?_)
        have fS6 := fr_wa fq5 (by unfold wY; omega) hS6
        exact pm_some fS6
      · exact pm_some fS1
theorem fx_X8_put_J108 {S0 : HS} {v1 : Int32} {v2 : Int32} {x0 : Int32} {S : HS} (f0 : Fr wY S0 S) : Pm (fun r => Fr wY S0 r.2) (s_X8_put_J108 v1 v2 x0 S) := by
  unfold s_X8_put_J108
  refine pm_bind (fun q14 hq14 => ?_)
  have fq14 := fr_tr f0 (fs_X8_puts fr_rf _ hq14) (fun k j h => by simp only [wX, wY, wTt, wC, wS, wH, wB, wO, wP, wN, wQ, wU, wM, wZ, w9] at *; omega)
  exact pm_some fq14
theorem fx_X8_put {S0 : HS} {v1 : Int32} {v2 : Int32} {S : HS} (f0 : Fr wY S0 S) : Pm (fun r => Fr wY S0 r.2) (s_X8_put v1 v2 S) := by
  unfold s_X8_put
  refine pm_bind (fun S1 hS1 => ?_)
  have fS1 := fr_pf f0 (by unfold wY; omega) hS1
  refine pm_bind (fun q2 _ => ?_)
  refine pm_ite (fun _ => ?_) (fun _ => ?_)
  · exact pm_some fS1
  · refine pm_bind (fun q3 _ => ?_)
    refine pm_ite (fun _ => ?_) (fun _ => ?_)
    · exact pm_some fS1
    · refine pm_bind (fun q4 _ => ?_)
      refine pm_ite (fun _ => ?_) (fun _ => ?_)
      · refine pm_bind (fun q5 _ => ?_)
        refine pm_ite (fun _ => ?_) (fun _ => ?_)
        · refine pm_bind (fun q6 _ => ?_)
          refine pm_bind (fun q7 _ => ?_)
          refine pm_ite (fun _ => ?_) (fun _ => ?_)
          · refine pm_bind (fun q8 _ => ?_)
            refine pm_ite (fun _ => ?_) (fun _ => ?_)
            · refine pm_bind (fun q9 hq9 => ?_)
              have fq9 := fr_tr fS1 (fs_X8_snap fr_rf _ hq9) (fun k j h => by simp only [wX, wY, wTt, wC, wS, wH, wB, wO, wP, wN, wQ, wU, wM, wZ, w9] at *; omega)
              refine pm_bind (fun q10 _ => ?_)
              refine pm_bind (fun q11 _ => ?_)
              refine pm_bind (fun q12 _ => ?_)
              refine pm_ite (fun _ => ?_) (fun _ => ?_)
              · refine pm_bind (fun q13 _ => ?_)
                exact fx_X8_put_J108 fq9
              · exact fx_X8_put_J108 fq9
            · exact pm_some fS1
          · exact pm_some fS1
        · exact pm_some fS1
      · exact pm_some fS1
theorem fx_X8_load_L36 {S0 : HS} : ∀ (K : Nat) (v1 : Int32) (S : HS), Fr wY S0 S → Pm (fun r => Fr wY S0 r.2) (s_X8_load_L36 K v1 S) := by
  intro K
  induction K with
  | zero =>
    intros
    exact pm_none
  | succ K ih =>
    intro v1 S f0
    rw [s_X8_load_L36]
    refine pm_bind (fun a4 _ => ?_)
    refine pm_ite (fun _ => ?_) (fun _ => ?_)
    · exact pm_some f0
    · refine pm_bind (fun a5 _ => ?_)
      refine pm_ite (fun _ => ?_) (fun _ => ?_)
      · exact ih _ _ f0
      · refine pm_bind (fun a6 _ => ?_)
        refine pm_bind (fun a7 _ => ?_)
        refine pm_bind (fun q8 hq8 => ?_)
        have fq8 := fr_tr f0 (fs_X8_puts fr_rf _ hq8) (fun k j h => by simp only [wX, wY, wTt, wC, wS, wH, wB, wO, wP, wN, wQ, wU, wM, wZ, w9] at *; omega)
        exact ih _ _ fq8
theorem fx_X8_load {S0 : HS} {S : HS} (f0 : Fr wY S0 S) : Pm (fun r => Fr wY S0 r.2) (s_X8_load S) := by
  unfold s_X8_load
  refine pm_bind (fun S1 hS1 => ?_)
  have fS1 := fr_pf f0 (by unfold wY; omega) hS1
  refine pm_bind (fun q2 hq2 => ?_)
  have fq2 := fr_tr fS1 (fs_X8_laysPlan fr_rf _ hq2) (fun k j h => by simp only [wX, wY, wTt, wC, wS, wH, wB, wO, wP, wN, wQ, wU, wM, wZ, w9] at *; omega)
  refine pm_ite (fun _ => ?_) (fun _ => ?_)
  · refine pm_ite (fun _ => ?_) (fun _ => ?_)
    · refine pm_bind (fun q3 hq3 => ?_)
      have fq3 := fr_tr fq2 (fs_X8_snap fr_rf _ hq3) (fun k j h => by simp only [wX, wY, wTt, wC, wS, wH, wB, wO, wP, wN, wQ, wU, wM, wZ, w9] at *; omega)
      exact fx_X8_load_L36 _ _ _ fq3
    · exact pm_some fq2
  · exact pm_some fq2
theorem fx_X8_unload_L70 {S0 : HS} {v1 : Int32} {v2 : Int32} {v3 : Int32} : ∀ (K : Nat) (v4 : Int32) (S : HS), Fr wY S0 S → Pm (fun r => Fr wY S0 r.2) (s_X8_unload_L70 v1 v2 v3 K v4 S) := by
  intro K
  induction K with
  | zero =>
    intros
    exact pm_none
  | succ K ih =>
    intro v4 S f0
    rw [s_X8_unload_L70]
    refine pm_bind (fun a10 _ => ?_)
    refine pm_ite (fun _ => ?_) (fun _ => ?_)
    · refine pm_bind (fun S11 hS11 => ?_)
      have fS11 := fr_wa f0 (by unfold wY; omega) hS11
      refine pm_bind (fun S12 hS12 => ?_)
      have fS12 := fr_wa fS11 (by unfold wY; omega) hS12
      refine pm_bind (fun S13 hS13 => ?_)
      have fS13 := fr_wa fS12 (by unfold wY; omega) hS13
      exact pm_some fS13
    · refine pm_bind (fun q14 _ => ?_)
      refine pm_ite (fun _ => ?_) (fun _ => ?_)
      · exact ih _ _ f0
      · refine pm_bind (fun q15 hq15 => ?_)
        have fq15 := fr_tr f0 (fs_X8_goes fr_rf _ hq15) (fun k j h => by simp only [wX, wY, wTt, wC, wS, wH, wB, wO, wP, wN, wQ, wU, wM, wZ, w9] at *; omega)
        exact ih _ _ fq15
theorem fx_X8_unload {S0 : HS} {v1 : Int32} {v2 : Int32} {S : HS} (f0 : Fr wY S0 S) : Pm (fun r => Fr wY S0 r.2) (s_X8_unload v1 v2 S) := by
  unfold s_X8_unload
  refine pm_bind (fun S1 hS1 => ?_)
  have fS1 := fr_pf f0 (by unfold wY; omega) hS1
  refine pm_bind (fun q2 _ => ?_)
  refine pm_ite (fun _ => ?_) (fun _ => ?_)
  · exact pm_some fS1
  · refine pm_bind (fun q3 _ => ?_)
    refine pm_ite (fun _ => ?_) (fun _ => ?_)
    · exact pm_some fS1
    · refine pm_bind (fun q4 _ => ?_)
      refine pm_bind (fun q5 _ => ?_)
      refine pm_ite (fun _ => ?_) (fun _ => ?_)
      · refine pm_bind (fun q6 hq6 => ?_)
        have fq6 := fr_tr fS1 (fs_X8_laysNow fr_rf _ hq6) (fun k j h => by simp only [wX, wY, wTt, wC, wS, wH, wB, wO, wP, wN, wQ, wU, wM, wZ, w9] at *; omega)
        refine pm_bind (fun q7 _ => ?_)
        refine pm_ite (fun _ => ?_) (fun _ => ?_)
        · refine pm_bind (fun q8 hq8 => ?_)
          have fq8 := fr_tr fq6 (fs_X8_snap fr_rf _ hq8) (fun k j h => by simp only [wX, wY, wTt, wC, wS, wH, wB, wO, wP, wN, wQ, wU, wM, wZ, w9] at *; omega)
          refine pm_bind (fun q9 _ => ?_)
          exact fx_X8_unload_L70 _ _ _ fq8
        · exact pm_some fq6
      · exact pm_some fS1
theorem fx_X8_empty_J55 {S0 : HS} {v1 : Int32} {v2 : Int32} {S : HS} (f0 : Fr wY S0 S) : Pm (fun r => Fr wY S0 r.2) (s_X8_empty_J55 v1 v2 S) := by
  unfold s_X8_empty_J55
  refine pm_bind (fun q6 hq6 => ?_)
  have fq6 := fr_tr f0 (fs_X8_snap fr_rf _ hq6) (fun k j h => by simp only [wX, wY, wTt, wC, wS, wH, wB, wO, wP, wN, wQ, wU, wM, wZ, w9] at *; omega)
  refine pm_bind (fun q7 _ => ?_)
  refine pm_bind (fun q8 hq8 => ?_)
  have fq8 := fr_tr fq6 (fs_X8_goes fr_rf _ hq8) (fun k j h => by simp only [wX, wY, wTt, wC, wS, wH, wB, wO, wP, wN, wQ, wU, wM, wZ, w9] at *; omega)
  refine pm_bind (fun S9 hS9 => ?_)
  have fS9 := fr_wa fq8 (by unfold wY; omega) hS9
  exact pm_some fS9
theorem fx_X8_empty {S0 : HS} {v1 : Int32} {S : HS} (f0 : Fr wY S0 S) : Pm (fun r => Fr wY S0 r.2) (s_X8_empty v1 S) := by
  unfold s_X8_empty
  refine pm_bind (fun S1 hS1 => ?_)
  have fS1 := fr_pf f0 (by unfold wY; omega) hS1
  refine pm_bind (fun q2 _ => ?_)
  refine pm_ite (fun _ => ?_) (fun _ => ?_)
  · exact pm_some fS1
  · refine pm_bind (fun q3 _ => ?_)
    refine pm_ite (fun _ => ?_) (fun _ => ?_)
    · refine pm_bind (fun q4 _ => ?_)
      refine pm_bind (fun q5 _ => ?_)
      refine pm_ite (fun _ => ?_) (fun _ => ?_)
      · exact fx_X8_empty_J55 fS1
      · refine pm_bind (fun q10 _ => ?_)
        refine pm_ite (fun _ => ?_) (fun _ => ?_)
        · exact fx_X8_empty_J55 fS1
        · exact pm_some fS1
    · exact pm_some fS1
theorem fx_X8_wash {S0 : HS} {v1 : Int32} {S : HS} (f0 : Fr wY S0 S) : Pm (fun r => Fr wY S0 r.2) (s_X8_wash v1 S) := by
  unfold s_X8_wash
  refine pm_bind (fun S1 hS1 => ?_)
  have fS1 := fr_pf f0 (by unfold wY; omega) hS1
  refine pm_bind (fun q2 _ => ?_)
  refine pm_ite (fun _ => ?_) (fun _ => ?_)
  · exact pm_some fS1
  · refine pm_bind (fun q3 _ => ?_)
    refine pm_ite (fun _ => ?_) (fun _ => ?_)
    · exact pm_some fS1
    · refine pm_bind (fun q4 _ => ?_)
      refine pm_ite (fun _ => ?_) (fun _ => ?_)
      · refine pm_bind (fun q5 hq5 => ?_)
        have fq5 := fr_tr fS1 (fs_X8_snap fr_rf _ hq5) (fun k j h => by simp only [wX, wY, wTt, wC, wS, wH, wB, wO, wP, wN, wQ, wU, wM, wZ, w9] at *; omega)
        refine pm_bind (fun S6 hS6 => ?_)
        have fS6 := fr_wa fq5 (by unfold wY; omega) hS6
        refine pm_bind (fun a7 _ => ?_)
        refine pm_bind (fun S8 hS8 => ?_)
        have fS8 := fr_wa fS6 (by unfold wY; omega) hS8
        exact pm_some fS8
      · exact pm_some fS1
theorem fx_X8_undo_L26 {S0 : HS} : ∀ (K : Nat) (v1 : Int32) (S : HS), Fr wY S0 S → Pm (fun r => Fr wY S0 r.2) (s_X8_undo_L26 K v1 S) := by
  intro K
  induction K with
  | zero =>
    intros
    exact pm_none
  | succ K ih =>
    intro v1 S f0
    rw [s_X8_undo_L26]
    refine pm_ite (fun _ => ?_) (fun _ => ?_)
    · exact pm_some f0
    · refine pm_bind (fun a3 _ => ?_)
      refine pm_bind (fun S4 hS4 => ?_)
      have fS4 := fr_wa f0 (by unfold wY; omega) hS4
      exact ih _ _ fS4
theorem fx_X8_undo {S0 : HS} {S : HS} (f0 : Fr wY S0 S) : Pm (fun r => Fr wY S0 r.2) (s_X8_undo S) := by
  unfold s_X8_undo
  refine pm_bind (fun S1 hS1 => ?_)
  have fS1 := fr_pf f0 (by unfold wY; omega) hS1
  refine pm_ite (fun _ => ?_) (fun _ => ?_)
  · refine pm_bind (fun S2 hS2 => ?_)
    have fS2 := fr_pf fS1 (by unfold wY; omega) hS2
    exact fx_X8_undo_L26 _ _ _ fS2
  · exact pm_some fS1
