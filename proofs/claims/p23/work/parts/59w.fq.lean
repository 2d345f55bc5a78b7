/-! what the queries leave: all but their paper -/
def wXq (k j : Nat) : Prop := 112 ≤ k
theorem fq_X7_would {S0 : HS} {v1 : Int32} {v2 : Int32} {v3 : Int32} {S : HS} (f0 : Fr wXq S0 S) : Pm (fun r => Fr wXq S0 r.2) (s_X7_would v1 v2 v3 S) := by
  unfold s_X7_would
  refine pm_bind (fun t1 ht1 => ?_)
  have it1 := tl_is ht1
  refine pm_bind (fun q2 _ => ?_)
  refine pm_ite (fun _ => ?_) (fun _ => ?_)
  · exact pm_some f0
  · refine pm_bind (fun t3 ht3 => ?_)
    have it3 := tl_is ht3
    refine pm_bind (fun q4 _ => ?_)
    refine pm_ite (fun _ => ?_) (fun _ => ?_)
    · exact pm_some f0
    · refine pm_ite (fun _ => ?_) (fun _ => ?_)
      · exact pm_some f0
      · refine pm_bind (fun t5 ht5 => ?_)
        have it5 := tl_is ht5
        refine pm_bind (fun a6 _ => ?_)
        refine pm_ite (fun _ => ?_) (fun _ => ?_)
        · refine pm_bind (fun q7 hq7 => ?_)
          have fq7 := fr_tr f0 (fs_X0_copyFrom fr_rf _ hq7) (fun k j h => by simp only [wXq, w0, wTt, wC, wS, wH, wB, wO, wP, wN, wQ, wU, wM, wZ, w9] at *; omega)
          refine pm_bind (fun t8 ht8 => ?_)
          have it8 := tl_is ht8
          refine pm_bind (fun q9 hq9 => ?_)
          have fq9 := fr_tr fq7 (fs_X0_lay fr_rf _ hq9) (fun k j h => by simp only [wXq, w0, wTt, wC, wS, wH, wB, wO, wP, wN, wQ, wU, wM, wZ, w9] at *; omega)
          refine pm_bind (fun t10 ht10 => ?_)
          have it10 := tl_is ht10
          refine pm_bind (fun q11 _ => ?_)
          exact pm_some fq9
        · exact pm_some f0
theorem fq_X7_orders {S0 : HS} {S : HS} (f0 : Fr wXq S0 S) : Pm (fun r => Fr wXq S0 r.2) (s_X7_orders S) := by
  unfold s_X7_orders
  refine pm_bind (fun t1 ht1 => ?_)
  have it1 := tl_is ht1
  refine pm_bind (fun q2 hq2 => ?_)
  have fq2 := fr_tr f0 (fs_X2_count fr_rf _ hq2) (fun k j h => by simp only [wXq, w0, wTt, wC, wS, wH, wB, wO, wP, wN, wQ, wU, wM, wZ, w9] at *; omega)
  exact pm_some fq2
theorem fq_X7_ordered {S0 : HS} {v1 : Int32} {S : HS} (f0 : Fr wXq S0 S) : Pm (fun r => Fr wXq S0 r.2) (s_X7_ordered v1 S) := by
  unfold s_X7_ordered
  refine pm_bind (fun t1 ht1 => ?_)
  have it1 := tl_is ht1
  refine pm_bind (fun q2 hq2 => ?_)
  have fq2 := fr_tr f0 (fs_X2_count fr_rf _ hq2) (fun k j h => by simp only [wXq, w0, wTt, wC, wS, wH, wB, wO, wP, wN, wQ, wU, wM, wZ, w9] at *; omega)
  refine pm_bind (fun q3 _ => ?_)
  exact pm_some fq2
theorem fq_X7_plan_J79 {S0 : HS} {v1 : Int32} {S : HS} (f0 : Fr wXq S0 S) : Pm (fun r => Fr wXq S0 r.2) (s_X7_plan_J79 v1 S) := by
  unfold s_X7_plan_J79
  refine pm_ite (fun _ => ?_) (fun _ => ?_)
  · exact pm_some f0
  · refine pm_bind (fun t3 ht3 => ?_)
    have it3 := tl_is ht3
    refine pm_bind (fun q4 _ => ?_)
    refine pm_ite (fun _ => ?_) (fun _ => ?_)
    · exact pm_some f0
    · refine pm_bind (fun a5 _ => ?_)
      exact pm_some f0
theorem fq_X7_plan {S0 : HS} {v1 : Int32} {S : HS} (f0 : Fr wXq S0 S) : Pm (fun r => Fr wXq S0 r.2) (s_X7_plan v1 S) := by
  unfold s_X7_plan
  refine pm_bind (fun t1 ht1 => ?_)
  have it1 := tl_is ht1
  refine pm_bind (fun q2 hq2 => ?_)
  have fq2 := fr_tr f0 (fs_X3_findsPlan fr_rf _ hq2) (fun k j h => by simp only [wXq, w0, wTt, wC, wS, wH, wB, wO, wP, wN, wQ, wU, wM, wZ, w9] at *; omega)
  refine pm_ite (fun _ => ?_) (fun _ => ?_)
  · refine pm_ite (fun _ => ?_) (fun _ => ?_)
    · refine pm_ite (fun _ => ?_) (fun _ => ?_)
      · refine pm_ite (fun _ => ?_) (fun _ => ?_)
        · exact fq_X7_plan_J79 fq2
        · refine pm_bind (fun t6 ht6 => ?_)
          have it6 := tl_is ht6
          refine pm_bind (fun q7 _ => ?_)
          refine pm_ite (fun _ => ?_) (fun _ => ?_)
          · exact fq_X7_plan_J79 fq2
          · refine pm_bind (fun a8 _ => ?_)
            exact pm_some fq2
      · exact pm_some fq2
    · exact pm_some fq2
  · exact pm_some fq2
theorem fq_X7_washes {S0 : HS} {S : HS} (f0 : Fr wXq S0 S) : Pm (fun r => Fr wXq S0 r.2) (s_X7_washes S) := by
  unfold s_X7_washes
  refine pm_bind (fun t1 ht1 => ?_)
  have it1 := tl_is ht1
  refine pm_bind (fun q2 hq2 => ?_)
  have fq2 := fr_tr f0 (fs_X3_fewestWashes fr_rf _ hq2) (fun k j h => by simp only [wXq, w0, wTt, wC, wS, wH, wB, wO, wP, wN, wQ, wU, wM, wZ, w9] at *; omega)
  refine pm_ite (fun _ => ?_) (fun _ => ?_)
  · exact pm_some fq2
  · exact pm_some fq2
theorem fq_X8_fault {S0 : HS} {S : HS} (f0 : Fr w0 S0 S) : Pm (fun r => Fr w0 S0 r.2) (s_X8_fault S) := by
  unfold s_X8_fault
  refine pm_bind (fun S1 hS1 => ?_)
  have fS1 := fr_pf f0 (by unfold w0; omega) hS1
  exact pm_some fS1
theorem fq_X8_now {S0 : HS} {v1 : Int32} {S : HS} (f0 : Fr w0 S0 S) : Pm (fun r => Fr w0 S0 r.2) (s_X8_now v1 S) := by
  unfold s_X8_now
  refine pm_bind (fun S1 hS1 => ?_)
  have fS1 := fr_pf f0 (by unfold w0; omega) hS1
  refine pm_bind (fun q2 hq2 => ?_)
  have fq2 := fr_tr fS1 (fs_X8_laysNow fr_rf _ hq2) (fun k j h => by simp only [wXq, w0, wTt, wC, wS, wH, wB, wO, wP, wN, wQ, wU, wM, wZ, w9] at *; omega)
  refine pm_ite (fun _ => ?_) (fun _ => ?_)
  · refine pm_bind (fun a3 _ => ?_)
    exact pm_some fq2
  · refine pm_ite (fun _ => ?_) (fun _ => ?_)
    · refine pm_bind (fun a4 _ => ?_)
      exact pm_some fq2
    · refine pm_ite (fun _ => ?_) (fun _ => ?_)
      · refine pm_bind (fun a5 _ => ?_)
        exact pm_some fq2
      · refine pm_ite (fun _ => ?_) (fun _ => ?_)
        · refine pm_bind (fun q6 _ => ?_)
          exact pm_some fq2
        · refine pm_ite (fun _ => ?_) (fun _ => ?_)
          · refine pm_bind (fun q7 _ => ?_)
            exact pm_some fq2
          · refine pm_ite (fun _ => ?_) (fun _ => ?_)
            · refine pm_bind (fun q8 _ => ?_)
              exact pm_some fq2
            · refine pm_ite (fun _ => ?_) (fun _ => ?_)
              · refine pm_bind (fun q9 _ => ?_)
                exact pm_some fq2
              · refine pm_ite (fun _ => ?_) (fun _ => ?_)
                · refine pm_bind (fun a10 _ => ?_)
                  exact pm_some fq2
                · refine pm_ite (fun _ => ?_) (fun _ => ?_)
                  · exact pm_some fq2
                  · refine pm_ite (fun _ => ?_) (fun _ => ?_)
                    · exact pm_some fq2
                    · exact pm_some fq2
theorem fq_X8_compartment_J60 {S0 : HS} {v1 : Int32} {v2 : Int32} {S : HS} (f0 : Fr w0 S0 S) : Pm (fun r => Fr w0 S0 r.2) (s_X8_compartment_J60 v1 v2 S) := by
  unfold s_X8_compartment_J60
  refine pm_bind (fun q3 _ => ?_)
  exact pm_some f0
theorem fq_X8_compartment {S0 : HS} {v1 : Int32} {v2 : Int32} {S : HS} (f0 : Fr w0 S0 S) : Pm (fun r => Fr w0 S0 r.2) (s_X8_compartment v1 v2 S) := by
  unfold s_X8_compartment
  refine pm_bind (fun S1 hS1 => ?_)
  have fS1 := fr_pf f0 (by unfold w0; omega) hS1
  refine pm_bind (fun q2 _ => ?_)
  refine pm_ite (fun _ => ?_) (fun _ => ?_)
  · refine pm_ite (fun _ => ?_) (fun _ => ?_)
    · exact fq_X8_compartment_J60 fS1
    · refine pm_ite (fun _ => ?_) (fun _ => ?_)
      · exact fq_X8_compartment_J60 fS1
      · refine pm_ite (fun _ => ?_) (fun _ => ?_)
        · exact fq_X8_compartment_J60 fS1
        · refine pm_ite (fun _ => ?_) (fun _ => ?_)
          · refine pm_bind (fun q4 _ => ?_)
            exact pm_some fS1
          · refine pm_ite (fun _ => ?_) (fun _ => ?_)
            · refine pm_bind (fun q5 _ => ?_)
              exact pm_some fS1
            · refine pm_ite (fun _ => ?_) (fun _ => ?_)
              · refine pm_bind (fun q6 _ => ?_)
                exact pm_some fS1
              · refine pm_ite (fun _ => ?_) (fun _ => ?_)
                · refine pm_bind (fun q7 _ => ?_)
                  exact pm_some fS1
                · exact pm_some fS1
  · exact pm_some fS1
theorem fq_X8_refuse {S0 : HS} {S : HS} (f0 : Fr w0 S0 S) : Pm (fun r => Fr w0 S0 r.2) (s_X8_refuse S) := by
  unfold s_X8_refuse
  refine pm_bind (fun S1 hS1 => ?_)
  have fS1 := fr_pf f0 (by unfold w0; omega) hS1
  exact pm_some fS1
theorem fq_X8_drop {S0 : HS} {v1 : Int32} {v2 : Int32} {S : HS} (f0 : Fr w0 S0 S) : Pm (fun r => Fr w0 S0 r.2) (s_X8_drop v1 v2 S) := by
  unfold s_X8_drop
  refine pm_bind (fun S1 hS1 => ?_)
  have fS1 := fr_pf f0 (by unfold w0; omega) hS1
  refine pm_bind (fun q2 _ => ?_)
  refine pm_ite (fun _ => ?_) (fun _ => ?_)
  · refine pm_bind (fun q3 hq3 => ?_)
    have fq3 := fr_tr fS1 (fq_X8_refuse fr_rf _ hq3) (fun k j h => by simp only [wXq, w0, wTt, wC, wS, wH, wB, wO, wP, wN, wQ, wU, wM, wZ, w9] at *; omega)
    exact pm_some fq3
  · refine pm_bind (fun q4 _ => ?_)
    refine pm_ite (fun _ => ?_) (fun _ => ?_)
    · refine pm_ite (fun _ => ?_) (fun _ => ?_)
      · refine pm_ite (fun _ => ?_) (fun _ => ?_)
        · refine pm_bind (fun q5 _ => ?_)
          exact pm_some fS1
        · refine pm_bind (fun q6 _ => ?_)
          exact pm_some fS1
      · refine pm_bind (fun q7 _ => ?_)
        exact pm_some fS1
    · refine pm_bind (fun q8 hq8 => ?_)
      have fq8 := fr_tr fS1 (fq_X8_refuse fr_rf _ hq8) (fun k j h => by simp only [wXq, w0, wTt, wC, wS, wH, wB, wO, wP, wN, wQ, wU, wM, wZ, w9] at *; omega)
      exact pm_some fq8
theorem fq_X8_may {S0 : HS} {v1 : Int32} {v2 : Int32} {S : HS} (f0 : Fr w0 S0 S) : Pm (fun r => Fr w0 S0 r.2) (s_X8_may v1 v2 S) := by
  unfold s_X8_may
  refine pm_bind (fun S1 hS1 => ?_)
  have fS1 := fr_pf f0 (by unfold w0; omega) hS1
  refine pm_bind (fun q2 _ => ?_)
  refine pm_ite (fun _ => ?_) (fun _ => ?_)
  · exact pm_some fS1
  · refine pm_bind (fun q3 _ => ?_)
    refine pm_ite (fun _ => ?_) (fun _ => ?_)
    · exact pm_some fS1
    · refine pm_bind (fun q4 _ => ?_)
      refine pm_ite (fun _ => ?_) (fun _ => ?_)
      · exact pm_some fS1
      · exact pm_some fS1
theorem fq_X8_would {S0 : HS} {v1 : Int32} {v2 : Int32} {v3 : Int32} {S : HS} (f0 : Fr w0 S0 S) : Pm (fun r => Fr w0 S0 r.2) (s_X8_would v1 v2 v3 S) := by
  unfold s_X8_would
  refine pm_bind (fun S1 hS1 => ?_)
  have fS1 := fr_pf f0 (by unfold w0; omega) hS1
  refine pm_bind (fun q2 _ => ?_)
  refine pm_ite (fun _ => ?_) (fun _ => ?_)
  · exact pm_some fS1
  · refine pm_bind (fun q3 _ => ?_)
    refine pm_ite (fun _ => ?_) (fun _ => ?_)
    · exact pm_some fS1
    · refine pm_bind (fun q4 _ => ?_)
      refine pm_bind (fun q5 _ => ?_)
      refine pm_ite (fun _ => ?_) (fun _ => ?_)
      · refine pm_bind (fun q6 hq6 => ?_)
        have fq6 := fr_tr fS1 (fs_X8_laysNow fr_rf _ hq6) (fun k j h => by simp only [wXq, w0, wTt, wC, wS, wH, wB, wO, wP, wN, wQ, wU, wM, wZ, w9] at *; omega)
        refine pm_bind (fun S7 hS7 => ?_)
        have fS7 := fr_wa fq6 (by unfold w0; omega) hS7
        refine pm_bind (fun S8 hS8 => ?_)
        have fS8 := fr_wa fS7 (by unfold w0; omega) hS8
        refine pm_bind (fun S9 hS9 => ?_)
        have fS9 := fr_wa fS8 (by unfold w0; omega) hS9
        refine pm_bind (fun q10 _ => ?_)
        exact pm_some fS9
      · exact pm_some fS1
theorem fq_X8_orders {S0 : HS} {S : HS} (f0 : Fr w0 S0 S) : Pm (fun r => Fr w0 S0 r.2) (s_X8_orders S) := by
  unfold s_X8_orders
  refine pm_bind (fun S1 hS1 => ?_)
  have fS1 := fr_pf f0 (by unfold w0; omega) hS1
  refine pm_bind (fun q2 hq2 => ?_)
  have fq2 := fr_tr fS1 (fs_X8_laysNow fr_rf _ hq2) (fun k j h => by simp only [wXq, w0, wTt, wC, wS, wH, wB, wO, wP, wN, wQ, wU, wM, wZ, w9] at *; omega)
  refine pm_bind (fun q3 _ => ?_)
  refine pm_bind (fun q4 hq4 => ?_)
  have fq4 := fr_tr fq2 (fs_X8_ordersOf fr_rf _ hq4) (fun k j h => by simp only [wXq, w0, wTt, wC, wS, wH, wB, wO, wP, wN, wQ, wU, wM, wZ, w9] at *; omega)
  exact pm_some fq4
theorem fq_X8_ordered {S0 : HS} {v1 : Int32} {S : HS} (f0 : Fr w0 S0 S) : Pm (fun r => Fr w0 S0 r.2) (s_X8_ordered v1 S) := by
  unfold s_X8_ordered
  refine pm_bind (fun S1 hS1 => ?_)
  have fS1 := fr_pf f0 (by unfold w0; omega) hS1
  refine pm_bind (fun q2 hq2 => ?_)
  have fq2 := fr_tr fS1 (fs_X8_laysNow fr_rf _ hq2) (fun k j h => by simp only [wXq, w0, wTt, wC, wS, wH, wB, wO, wP, wN, wQ, wU, wM, wZ, w9] at *; omega)
  refine pm_bind (fun q3 _ => ?_)
  refine pm_bind (fun q4 hq4 => ?_)
  have fq4 := fr_tr fq2 (fs_X8_ordersOf fr_rf _ hq4) (fun k j h => by simp only [wXq, w0, wTt, wC, wS, wH, wB, wO, wP, wN, wQ, wU, wM, wZ, w9] at *; omega)
  refine pm_bind (fun q5 _ => ?_)
  refine pm_ite (fun _ => ?_) (fun _ => ?_)
  · exact pm_some fq4
  · refine pm_bind (fun a6 _ => ?_)
    exact pm_some fq4
theorem fq_X8_without {S0 : HS} {v1 : Int32} {S : HS} (f0 : Fr w0 S0 S) : Pm (fun r => Fr w0 S0 r.2) (s_X8_without v1 S) := by
  unfold s_X8_without
  refine pm_bind (fun S1 hS1 => ?_)
  have fS1 := fr_pf f0 (by unfold w0; omega) hS1
  refine pm_bind (fun q2 _ => ?_)
  refine pm_ite (fun _ => ?_) (fun _ => ?_)
  · exact pm_some fS1
  · refine pm_bind (fun q3 _ => ?_)
    refine pm_ite (fun _ => ?_) (fun _ => ?_)
    · refine pm_bind (fun q4 hq4 => ?_)
      have fq4 := fr_tr fS1 (fs_X8_laysNow fr_rf _ hq4) (fun k j h => by simp only [wXq, w0, wTt, wC, wS, wH, wB, wO, wP, wN, wQ, wU, wM, wZ, w9] at *; omega)
      refine pm_bind (fun q5 _ => ?_)
      exact pm_some fq4
    · exact pm_some fS1
theorem fq_X8_plan_J52 {S0 : HS} {v1 : Int32} {v2 : Int32} {S : HS} (f0 : Fr w0 S0 S) : Pm (fun r => Fr w0 S0 r.2) (s_X8_plan_J52 v1 v2 S) := by
  unfold s_X8_plan_J52
  refine pm_bind (fun q3 hq3 => ?_)
  have fq3 := fr_tr f0 (fs_X8_laysPlan fr_rf _ hq3) (fun k j h => by simp only [wXq, w0, wTt, wC, wS, wH, wB, wO, wP, wN, wQ, wU, wM, wZ, w9] at *; omega)
  refine pm_ite (fun _ => ?_) (fun _ => ?_)
  · refine pm_ite (fun _ => ?_) (fun _ => ?_)
    · refine pm_ite (fun _ => ?_) (fun _ => ?_)
      · refine pm_ite (fun _ => ?_) (fun _ => ?_)
        · refine pm_bind (fun a4 _ => ?_)
          exact pm_some fq3
        · refine pm_bind (fun a5 _ => ?_)
          exact pm_some fq3
      · exact pm_some fq3
    · exact pm_some fq3
  · exact pm_some fq3
theorem fq_X8_plan_J22 {S0 : HS} {v1 : Int32} {x0 : Int32} {S : HS} (f0 : Fr w0 S0 S) : Pm (fun r => Fr w0 S0 r.2) (s_X8_plan_J22 v1 x0 S) := by
  unfold s_X8_plan_J22
  refine pm_bind (fun q2 _ => ?_)
  refine pm_ite (fun _ => ?_) (fun _ => ?_)
  · exact fq_X8_plan_J52 f0
  · refine pm_bind (fun q6 _ => ?_)
    refine pm_ite (fun _ => ?_) (fun _ => ?_)
    · exact pm_some f0
    · refine pm_bind (fun q7 _ => ?_)
      refine pm_ite (fun _ => ?_) (fun _ => ?_)
      · exact fq_X8_plan_J52 f0
      · exact pm_some f0
theorem fq_X8_plan {S0 : HS} {v1 : Int32} {S : HS} (f0 : Fr w0 S0 S) : Pm (fun r => Fr w0 S0 r.2) (s_X8_plan v1 S) := by
  unfold s_X8_plan
  refine pm_bind (fun S1 hS1 => ?_)
  have fS1 := fr_pf f0 (by unfold w0; omega) hS1
  refine pm_ite (fun _ => ?_) (fun _ => ?_)
  · exact fq_X8_plan_J22 fS1
  · exact fq_X8_plan_J22 fS1
theorem fq_X8_washes_J105 {S0 : HS} {rc46 : Int32 → Int32 → HS → Option (Int32 × HS)} {v1 : Int32} {v2 : Int32} {v3 : Int32} {v4 : Int32} {S : HS} (hrc46 : ∀ (v2 : Int32) (v3 : Int32) (S : HS), Fr w0 S0 S → Pm (fun r => Fr w0 S0 r.2) (rc46 v2 v3 S)) (f0 : Fr w0 S0 S) : Pm (fun r => Fr w0 S0 r.2) (s_X8_washes_J105 rc46 v1 v2 v3 v4 S) := by
  unfold s_X8_washes_J105
  refine pm_bind (fun q3 hq3 => ?_)
  have fq3 := fr_tr f0 (fs_X8_laysPlan fr_rf _ hq3) (fun k j h => by simp only [wXq, w0, wTt, wC, wS, wH, wB, wO, wP, wN, wQ, wU, wM, wZ, w9] at *; omega)
  refine pm_bind (fun q4 _ => ?_)
  refine pm_ite (fun _ => ?_) (fun _ => ?_)
  · exact hrc46 _ _ _ fq3
  · exact hrc46 _ _ _ fq3
theorem fq_X8_washes_L58 {S0 : HS} {rc46 : Int32 → Int32 → HS → Option (Int32 × HS)} {v1 : Int32} {v2 : Int32} {v3 : Int32} (hrc46 : ∀ (v2 : Int32) (v3 : Int32) (S : HS), Fr w0 S0 S → Pm (fun r => Fr w0 S0 r.2) (rc46 v2 v3 S)) : ∀ (K : Nat) (v4 : Int32) (v5 : Int32) (S : HS), Fr w0 S0 S → Pm (fun r => Fr w0 S0 r.2) (s_X8_washes_L58 rc46 v1 v2 v3 K v4 v5 S) := by
  intro K
  induction K with
  | zero =>
    intros
    exact pm_none
  | succ K ih =>
    intro v4 v5 S f0
    rw [s_X8_washes_L58]
    refine pm_ite (fun _ => ?_) (fun _ => ?_)
    · refine pm_ite (fun _ => ?_) (fun _ => ?_)
      · exact hrc46 _ _ _ f0
      · refine pm_ite (fun _ => ?_) (fun _ => ?_)
        · exact fq_X8_washes_J105 hrc46 f0
        · refine pm_ite (fun _ => ?_) (fun _ => ?_)
          · exact fq_X8_washes_J105 hrc46 f0
          · exact hrc46 _ _ _ f0
    · refine pm_bind (fun q5 _ => ?_)
      refine pm_ite (fun _ => ?_) (fun _ => ?_)
      · exact ih _ _ _ f0
      · exact ih _ _ _ f0
theorem fq_X8_washes_L46 {S0 : HS} {v1 : Int32} : ∀ (K : Nat) (v2 : Int32) (v3 : Int32) (S : HS), Fr w0 S0 S → Pm (fun r => Fr w0 S0 r.2) (s_X8_washes_L46 v1 K v2 v3 S) := by
  intro K
  induction K with
  | zero =>
    intros
    exact pm_none
  | succ K ih =>
    intro v2 v3 S f0
    rw [s_X8_washes_L46]
    refine pm_ite (fun _ => ?_) (fun _ => ?_)
    · exact pm_some f0
    · exact fq_X8_washes_L58 ih _ _ _ _ f0
theorem fq_X8_washes_L9 {S0 : HS} : ∀ (K : Nat) (v1 : Int32) (v2 : Int32) (S : HS), Fr w0 S0 S → Pm (fun r => Fr w0 S0 r.2) (s_X8_washes_L9 K v1 v2 S) := by
  intro K
  induction K with
  | zero =>
    intros
    exact pm_none
  | succ K ih =>
    intro v1 v2 S f0
    rw [s_X8_washes_L9]
    refine pm_bind (fun a2 _ => ?_)
    refine pm_ite (fun _ => ?_) (fun _ => ?_)
    · exact fq_X8_washes_L46 _ _ _ _ f0
    · refine pm_bind (fun q6 _ => ?_)
      refine pm_ite (fun _ => ?_) (fun _ => ?_)
      · exact ih _ _ _ f0
      · exact ih _ _ _ f0
theorem fq_X8_washes {S0 : HS} {S : HS} (f0 : Fr w0 S0 S) : Pm (fun r => Fr w0 S0 r.2) (s_X8_washes S) := by
  unfold s_X8_washes
  refine pm_bind (fun S1 hS1 => ?_)
  have fS1 := fr_pf f0 (by unfold w0; omega) hS1
  exact fq_X8_washes_L9 _ _ _ _ fS1
