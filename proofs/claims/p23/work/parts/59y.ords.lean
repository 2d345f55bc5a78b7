/-! the orders' number, alike -/
theorem e_orders {S M : HS} {t : Nat} {A : Nat → Nat} (h : FS S M t A) : ∃ v S1 M1, s_X7_orders S = some (v, S1) ∧ s_X8_orders M = some (v, M1) := by
  have h := h.thrown (x := 0)
  obtain ⟨M', e, f, hLM', hM', hPL, hRP, h144⟩ := fs_paper h
  have hW := h.2.2.2.2.2.2.2
  have h5 := hW.1.1
  have h20 := hW.1.2.2.2.2.1
  obtain ⟨a, ea, ha, hab⟩ := q_aboard hLM' hM' hW
  obtain ⟨M2, e2, f2, lc⟩ := x_laysNow (M := sf M 137 0 0) h.2.1 h.2.2.2.2.2.2.1 rfl h5 (fun c hc => hW.o20 (by omega))
  have eM : M2 = M' := by
    rw [e2] at e
    exact Option.some.inj e
  subst eM
  have hiff : ∀ d, a.testBit d = true ↔ d < A 13 ∧ ldA A d 5 = A (58 + 5 * d) := by
    intro d
    rw [hab d]
    constructor
    · rintro ⟨q1, q2⟩
      refine ⟨q1, ?_⟩
      rcases hW.2.2.2.1 d q1 with w | w | w
      · omega
      · exact w.2
      · omega
    · rintro ⟨q1, q2⟩
      refine ⟨q1, ?_⟩
      have hq1 := (hW.1.2.2.2.2.2.2.2.2.2.2.2 d q1).2.1
      rcases hW.2.2.2.1 d q1 with w | w | w
      · omega
      · exact w.1
      · omega
  have hO : OrdH S M2 t 23 A A a := by
    refine ⟨h.1, hLM', h.2.2.2.1, mC23, h.2.2.2.2.1, hM', hW.1, h.2.2.2.2.2.1.2.2.1, fun c hc => ⟨lc c hc, lq_6 hW hc⟩, fun c hc => ⟨hW.o20 hc, ?_⟩, fun _ _ _ => rfl, ha, hiff, pc_ld (B := A) (fun d hd q => ?_)⟩
    · by_cases y : c < A 9
      · have := (hW.2.2.1 c y).1
        omega
      · rw [(hW.2.1 c (by omega) hc).1]
        omega
    · obtain ⟨q1, q2⟩ := (hiff d).mp q
      have hq1 := (hW.1.2.2.2.2.2.2.2.2.2.2.2 d q1).2.1
      omega
  obtain ⟨S1, e3⟩ := e_count hO mO117
  obtain ⟨M4, eOf⟩ := e_ordersOf (M0 := M2) (M := M2) (D := A 13) (a := a) (ok := okM M2 (lqA A) (A 9)) (show fM M2 13 = nI (A 13) from hM' 13 (by omega)) h20 ha hO.2.2.2.2.2.2.2.2.2.2.2.2.2 (fun M' hM'' g hgl => ⟨stM M2 (nI g) (lqA A) (A 9), by
    have hPL' : PL M' (A 9) (lqA A) := fun c hc => by
      rw [hM''.2.2.2.1]
      exact hPL c hc
    rw [q_stands hM''.1 (by rw [hM''.fm]; exact hM' 9 (by omega)) h5 hPL', stM_sm hM''], by
    unfold okM
    exact decide_eq_true_iff.symm⟩) ⟨hLM', rfl, rfl, rfl, rfl⟩
  unfold s_X7_orders s_X8_orders
  rw [pf_ok, sb, tl_ok h.2.2.1 h.2.2.2.1, sb, (show gf S 22 1 = nI (A 13) from h.2.2.2.2.2.1.1), e3, sb, e2, sb, ea, sb, eOf, sb]
  exact ⟨_, _, _, rfl, rfl⟩
