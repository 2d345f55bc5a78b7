/-! a whole deal: considered and looked at, alike -/
theorem lay_ord {S M : HS} {t s a : Nat} {A G : Nat → Nat} (hW : Wf A) (hS : PSd S t A G (A 9)) (hM : PMd M A G (A 9)) (hV : GVa A G (A 9)) (hlc : ∀ c, c < A 9 → LC M (layA A G) c) (hk : ∀ d, d < A 13 → (∃ c, c < A 9 ∧ G c = d + 1) → lfA A G d (A 9) = 0 ∧ wtA A d = true) (hs : s < 2 ^ 20) (hsb : ∀ d, s.testBit d = true ↔ d < A 13 ∧ ∃ c, c < A 9 ∧ G c = d + 1) (ha : a < 2 ^ 20) (hab : ∀ d, a.testBit d = true ↔ d < A 13 ∧ A (59 + 5 * d) = 1) : OrdH S M t 126 A (layA A G) (a ||| s) := by
  have h5 := hW.1.1
  have h20 := hW.1.2.2.2.2.1
  have h6 := hW.1.2.1
  have hiff : ∀ d, (a ||| s).testBit d = true ↔ d < A 13 ∧ ldA (layA A G) d 5 = A (58 + 5 * d) := by
    intro d
    have e5 : lfA A G d 5 = lfA A G d (A 9) := by
      have e := lf_stay (A := A) (G := G) (d := d) (n := A 9) (fun c hc => by
        have : G c = 0 := by
          by_cases z : G c = 0
          · exact z
          · have := (hV c z).1
            omega
        omega) (5 - A 9)
      rw [show A 9 + (5 - A 9) = 5 by omega] at e
      exact e
    rw [Nat.testBit_or, Bool.or_eq_true, hab d, hsb d, ld_lay hV 5 (by omega), e5]
    have hle := lf_le (A := A) (G := G) (d := d) 0 (A 9)
    rw [Nat.zero_add] at hle
    have e0 : lfA A G d 0 = lkA A d := rfl
    constructor
    · intro q
      rcases q with ⟨q1, q2⟩ | ⟨q1, q2⟩
      · refine ⟨q1, ?_⟩
        have hld : ldA A d 5 = A (58 + 5 * d) := by
          rcases hW.2.2.2.1 d q1 with w | w | w
          · omega
          · exact w.2
          · omega
        unfold lkA at *
        omega
      · obtain ⟨z1, z2⟩ := hk d q1 q2
        refine ⟨q1, ?_⟩
        have hs0 := of_decide_eq_true z2
        have hld : ldA A d 5 < A (58 + 5 * d) := by
          rcases hW.2.2.2.1 d q1 with w | w | w
          · exact w.2
          · omega
          · omega
        unfold lkA at *
        omega
    · rintro ⟨q1, q2⟩
      have hq1 := (hW.1.2.2.2.2.2.2.2.2.2.2.2 d q1).2.1
      rcases hW.2.2.2.1 d q1 with w | w | w
      · right
        refine ⟨q1, lf_some (A := A) (A 9) ?_⟩
        unfold lkA at *
        omega
      · exact Or.inl ⟨q1, w.1⟩
      · right
        refine ⟨q1, lf_some (A := A) (A 9) ?_⟩
        unfold lkA at *
        omega
  refine ⟨hS.1, hM.1, hS.2.1, mC126, hS.2.2.2.2.1, hM.2.1, hW.1, hS.2.2.2.2.2.2.2.2.2.2.1, fun c hc => ⟨hlc c hc, ?_⟩, fun c hc => ?_, fun i h1 h2 => lay_out (Or.inl (by omega)), Nat.or_lt_two_pow ha hs, hiff, pc_ld (B := layA A G) (fun d hd q => ?_)⟩
  · rw [lq_lay (by omega)]
    by_cases z : G c = 0
    · rw [if_pos z]
      exact lq_6 hW hc
    · rw [if_neg z]
      have h3 := (hV c z).2.2.1
      have := (hW.1.2.2.2.2.2.2.2.2.2.2.2 (G c - 1) (by omega)).1
      omega
  · obtain ⟨l0, l1, _⟩ := lay_c (A := A) (G := G) hc
    rw [l0, l1]
    by_cases z : G c = 0
    · rw [if_pos z, if_pos z]
      refine ⟨hW.o20 hc, ?_⟩
      by_cases y : c < A 9
      · have := (hW.2.2.1 c y).1
        omega
      · rw [(hW.2.1 c (by omega) hc).1]
        omega
    · obtain ⟨v1, _, v3, _⟩ := hV c z
      rw [if_neg z, if_neg z]
      have ht := tp_999 hW v1
      refine ⟨by omega, ?_⟩
      unfold amA
      omega
  · obtain ⟨q1, q2⟩ := (hiff d).mp q
    have hq1 := (hW.1.2.2.2.2.2.2.2.2.2.2.2 d q1).2.1
    omega
theorem e_leaf {S M : HS} {t : Nat} {A G : Nat → Nat} (hW : Wf A) (hS : PSd S t A G (A 9)) (hM : PMd M A G (A 9)) (hV : GVa A G (A 9)) (hg : ∀ c, c < A 9 → G c ≠ 0 → GdA A G c) (ho : owA A G (A 9) ≤ rmA A (A 9)) (hB : BRl S M A) : ∃ S1 M1, s_X3_consider S = some S1 ∧ s_X8_looks 0 M = some M1 ∧ PSd S1 t A G (A 9) ∧ PMd M1 A G (A 9) ∧ BRl S1 M1 A := by
  have h5 := hW.1.1
  have h20 := hW.1.2.2.2.2.1
  obtain ⟨hK, hkey⟩ := pk_of hV hg ho
  obtain ⟨s, M3, hs, hsb, hM3, hlc, hbs, ham, eL⟩ := e_looks hW hM hV hK
  have hW4 : rnk (wtA A) (A 13) ≤ 4 := by
    rw [rnk_cnt]
    exact hW.2.2.2.2.2
  have hcn : rnk (fun d => s.testBit d) 20 ≤ 20 := rnk_le_n 20
  have hmn : rnk (fun c => decide (G c ≠ 0)) (A 9) ≤ 5 := Nat.le_trans (rnk_le_n (A 9)) h5
  have ecn : rnk (fun d => s.testBit d) 20 = rnk (fun d => s.testBit d) (A 13) := by
    have e := rnk_stay (p := fun d => s.testBit d) (n := A 13) (fun i hi => Bool.eq_false_iff.mpr (fun q => by have := ((hsb i).mp q).1; omega)) (20 - A 13)
    rw [show A 13 + (20 - A 13) = 20 by omega] at e
    exact e
  have hL := hS.1
  -- the count of the served
  have lpC : ∀ (m d : Nat) (K : Nat), d + m = A 13 → rnk (wtA A) (A 13) - rnk (wtA A) d < K → s_X3_consider_L4 K (nI (rnk (fun d => s.testBit d) d)) (nI (rnk (wtA A) d)) S = s_X3_consider_L4 1 (nI (rnk (fun d => s.testBit d) 20)) (nI (rnk (wtA A) (A 13))) S := by
    intro m
    induction m with
    | zero =>
      intro d K h1 h2
      obtain ⟨K, rfl⟩ : ∃ k, K = k + 1 := ⟨K - 1, by omega⟩
      have ed : d = A 13 := by omega
      subst ed
      rw [s_X3_consider_L4, s_X3_consider_L4, hS.2.2.2.2.2.2.2.1, if_pos (nI_le (Nat.le_refl _) (by omega)), if_pos (nI_le (Nat.le_refl _) (by omega)), ecn]
    | succ m ih =>
      intro d K h1 h2
      have hd : d < A 13 := by omega
      have e1 : rnk (wtA A) (d + 1) = rnk (wtA A) d + if wtA A d = true then 1 else 0 := rfl
      have e2 : rnk (fun d => s.testBit d) (d + 1) = rnk (fun d => s.testBit d) d + if s.testBit d = true then 1 else 0 := rfl
      by_cases hw : wtA A d = true
      · obtain ⟨K, rfl⟩ : ∃ k, K = k + 1 := ⟨K - 1, by omega⟩
        have hlt := rnk_lt hd hw
        have nx := ih (d + 1) K (by omega) (by rw [e1, if_pos hw]; omega)
        rw [e1, e2, if_pos hw] at nx
        have hlf := (hS.2.2.2.2.2.2.2.2.1 d hd hw).2.2
        have hl := lf_4995 (G := G) hW hd (A 9)
        rw [s_X3_consider_L4, hS.2.2.2.2.2.2.2.1, if_neg (nI_ge hlt (by omega)), ag_ok (nD133 hL) (by omega) (by omega), sb, hlf, ← nI_succ]
        by_cases z : lfA A G d (A 9) = 0
        · have hlk : 0 < lkA A d := by
            have hs0 := of_decide_eq_true hw
            unfold lkA
            rcases hW.2.2.2.1 d hd with w | w | w
            · omega
            · omega
            · omega
          have hb : s.testBit d = true := (hsb d).mpr ⟨hd, lf_some (A := A) (A 9) (by omega)⟩
          rw [hb, if_pos rfl] at nx
          rw [z, if_neg (show ¬ nI 0 ≠ 0 by decide), ← nI_succ]
          exact nx
        · have hb : s.testBit d = false := Bool.eq_false_iff.mpr (fun q => z (hkey d hd ((hsb d).mp q).2).1)
          rw [hb] at nx
          rw [if_pos (nI_ne0 (n := lfA A G d (A 9)) (by omega) (by omega)), Int32.add_zero]
          exact nx
      · have hb : s.testBit d = false := Bool.eq_false_iff.mpr (fun q => hw (hkey d hd ((hsb d).mp q).2).2)
        have nx := ih (d + 1) K (by omega) (by rw [e1, if_neg hw]; omega)
        rw [e1, e2, if_neg hw, hb] at nx
        exact nx
  have eC : s_X3_consider S = s_X3_consider_L4 1 (nI (rnk (fun d => s.testBit d) 20)) (nI (rnk (wtA A) (A 13))) S := lpC (A 13) 0 40 (by omega) (by omega)
  rw [eC, s_X3_consider_L4, hS.2.2.2.2.2.2.2.1, if_pos (nI_le (Nat.le_refl _) (by omega)), eL]
  generalize hcnd : rnk (fun d => s.testBit d) 20 = cn at *
  have hused := hS.2.2.2.2.2.2.2.2.2.2.2
  generalize hmnd : rnk (fun c => decide (G c ≠ 0)) (A 9) = mn at *
  -- both go on
  obtain ⟨a, ea, ha, hab⟩ := q_aboard hM3.1 hM3.2.1 hW
  have hO := lay_ord hW hS hM3 hV hlc hkey hs hsb ha hab
  obtain ⟨hRP, hPL⟩ := hO.rp
  have hG0 : RG M3 (A 9) 0 0 := by
    refine rg_of (p := 0) (g := 0) (O := fun c => layA A G (31 + 6 * c)) h5 (by omega) (by omega) (fun c hc => ⟨(hlc c hc).2.2, (hO.2.2.2.2.2.2.2.2.2.1 c (by omega)).1⟩) (fun c hc => ?_)
    rw [Nat.zero_testBit, Nat.zero_testBit]
    exact ⟨fun q => absurd q (by decide), fun q => absurd q.2 (by decide)⟩
  obtain ⟨_, _, eSt⟩ := st_eq rfl h5 hS.2.2.2.2.1 hM3.2.1 hRP hG0
  have eD := q_standing (v := 0) hL mC126 hS.2.1 hS.2.2.2.2.1.1 h5
  have eMs := q_stands (g := 0) hM3.1 (show fM M3 9 = nI (A 9) from hM3.2.1 9 (by omega)) h5 hPL
  obtain ⟨S4, eCt⟩ := e_count hO mO122
  have fC : Fr (wO 122) S S4 := fs_X2_count (o := 122) fr_rf _ eCt
  obtain ⟨M4, eOf⟩ := e_ordersOf (M0 := M3) (M := M3) (D := A 13) (a := a ||| s) (ok := okM M3 (lqA (layA A G)) (A 9)) (show fM M3 13 = nI (A 13) from hM3.2.1 13 (by omega)) h20 hO.2.2.2.2.2.2.2.2.2.2.2.1 hO.2.2.2.2.2.2.2.2.2.2.2.2.2 (fun M' hM' g hgl => ⟨stM M3 (nI g) (lqA (layA A G)) (A 9), by
    have hPL' : PL M' (A 9) (lqA (layA A G)) := fun c hc => by
      rw [hM'.2.2.2.1]
      exact hPL c hc
    rw [q_stands hM'.1 (by rw [hM'.fm]; exact hM3.2.1 9 (by omega)) h5 hPL', stM_sm hM'], by
    unfold okM
    exact decide_eq_true_iff.symm⟩) ⟨hM3.1, rfl, rfl, rfl, rfl⟩
  have fO : Fr wQ M3 M4 := fs_X8_ordersOf fr_rf _ eOf
  have hwle := owN_le (ok := okM M3 (lqA (layA A G)) (A 9)) (a := a ||| s) (D := A 13) (rnk5 h20 hO.2.2.2.2.2.2.2.2.2.2.2.2.2) 8 0
  generalize owN (okM M3 (lqA (layA A G)) (A 9)) (a ||| s) (A 13) 8 0 = w at *
  have hw31 : w < 2 ^ 31 := Nat.lt_of_le_of_lt hwle (by decide)
  have hPS4 : PSd S4 t A G (A 9) := hS.of (hL.fr fC) (fun k j hk => (fC.1 k j (by unfold wO; omega)).1) (fun j _ => (fC.1 121 j (by unfold wO; omega)).1) (fun j => (fC.1 121 j (by unfold wO; omega)).2) (fun k hk => fC.2.1 k (by unfold wO; omega)) (fun k hk => fC.2.2.1 k (by unfold wO; omega))
  have hBs4 : BsD S S4 := ⟨fun j _ => (fC.1 121 j (by unfold wO; omega)).1, fC.2.2.1 135 (by unfold wO; omega), fC.2.2.1 136 (by unfold wO; omega)⟩
  have hPM4 : PMd M4 A G (A 9) := ⟨hM3.1.fr fO, hM3.2.1.fr fO (by unfold wQ; omega), fun c hc => by
    rw [fO.2.2.1 147 (by unfold wQ; omega)]
    exact hM3.2.2 c hc⟩
  have hBm4 : BsM M M4 := hbs.tr (BsM.fr fO (by unfold wQ; omega))
  have core : ∃ S1 M1, (Option.bind (tl (gr S 121 2)) fun t2 =>
        Option.bind (s_X0_standing 126 t2 (0 : Int32) S) fun q3 =>
        if q3 ≠ (0 : Int32) then
          some S
        else
          Option.bind (tl (gr S 121 2)) fun t4 =>
          Option.bind (rc (gr S 121 3) 22) fun _ =>
          Option.bind (s_X2_count 122 t4 126 (gf S 22 1) S) fun q5 =>
          if q5.1 ≤ (0 : Int32) then
            some q5.2
          else
            Option.bind (pf q5.2 121 12 (1 : Int32)) fun S6 =>
            Option.bind (pf S6 121 13 (gf S6 121 11)) fun S7 =>
            Option.bind (pf S7 121 14 (nI cn)) fun S8 =>
            Option.bind (pf S8 121 15 (gf S8 121 10)) fun S9 =>
            Option.bind (s_X3_keepDeal S9) fun q10 =>
            some q10) = some S1 ∧ s_X8_looks_J160 (nI s) (nI cn) (nI mn) M3 = some M1 ∧ PSd S1 t A G (A 9) ∧ PMd M1 A G (A 9) ∧ BRl S1 M1 A := by
    unfold s_X8_looks_J160
    rw [tl_ok hS.2.2.1 hS.2.1, sb, eD, sb, eMs, sb, sb, eSt]
    by_cases z : stM M3 0 (lqA (layA A G)) (A 9) = 0
    · rw [z, i0n, i0n, rc_ok hS.2.2.2.1, sb, (show gf S 22 1 = nI (A 13) from hS.2.2.2.2.2.1.1), eCt, sb, ea, sb, or_nI (by omega) (by omega), eOf, sb]
      by_cases y : w = 0
      · refine ⟨S4, M4, ?_, ?_, hPS4, hPM4, hB.of hBs4 hBm4⟩
        · rw [y, if_pos (show nI 0 ≤ 0 by decide)]
        · rw [y, if_neg (show ¬ nI 0 ≠ 0 by decide)]
      · obtain ⟨S9, e9⟩ : ∃ S9, S9 = sf (sf (sf (sf S4 121 12 1) 121 13 (gf S4 121 11)) 121 14 (nI cn)) 121 15 (gf S4 121 10) := ⟨_, rfl⟩
        have hPS9 : PSd S9 t A G (A 9) := by
          rw [e9]
          refine hPS4.of hPS4.1 (fun k j hk => ?_) (fun j hj => ?_) (fun _ => rfl) (fun _ _ => rfl) (fun _ _ => rfl)
          · rw [gf_sf, if_neg (by omega), gf_sf, if_neg (by omega), gf_sf, if_neg (by omega), gf_sf, if_neg (by omega)]
          · rw [gf_sf, if_neg (by omega), gf_sf, if_neg (by omega), gf_sf, if_neg (by omega), gf_sf, if_neg (by omega)]
        obtain ⟨S10, eK, fK, hK10⟩ := q_keepDeal hW hPS9 hV hg
        have hP10 : PSd S10 t A G (A 9) := hPS9.of (hPS9.1.fr fK) (fun k j hk => (fK.1 k j (by unfold wKD; omega)).1) (fun j _ => (fK.1 121 j (by unfold wKD; omega)).1) (fun j => (fK.1 121 j (by unfold wKD; omega)).2) (fun k hk => fK.2.1 k (by unfold wKD; omega)) (fun k hk => fK.2.2.1 k (by unfold wKD; omega))
        obtain ⟨M5, eM5, l5, c5, r5, r57, g5⟩ := q_L196 (A := A) 5 0 (sf (sf M4 137 26 (nI cn)) 137 27 (nI mn)) 40 (by omega) (by omega) hPM4.1 (fun i hi => absurd hi (Nat.not_lt_zero _))
        have e10 : gf S4 121 10 = nI mn := (fC.1 121 10 (by unfold wO; omega)).1.trans hused
        refine ⟨S10, M5, ?_, ?_, hP10, ⟨l5, fun i hi => ?_, fun c hc => ?_⟩, Or.inr ⟨?_, G, cn, mn, hV, hK, by omega, by omega, ?_, ?_, ?_, ?_, fun c hc => ?_⟩⟩
        · rw [if_neg (show ¬ nI w ≤ 0 from nI_ge (a := 0) (b := w) (by omega) hw31), pf_ok, sb, pf_ok, sb, pf_ok, sb, pf_ok, sb]
          have e9' : sf (sf (sf (sf S4 121 12 1) 121 13 (gf (sf S4 121 12 1) 121 11)) 121 14 (nI cn)) 121 15 (gf (sf (sf (sf S4 121 12 1) 121 13 (gf (sf S4 121 12 1) 121 11)) 121 14 (nI cn)) 121 10) = S9 := by
            rw [e9]
            rfl
          rw [e9', eK, sb]
        · rw [if_pos (nI_ne0 (n := w) (by omega) (by omega)), pf_ok, sb, pf_ok, sb]
          exact eM5
        · rw [r5]
          exact hPM4.2.1 i hi
        · rw [r57]
          exact hPM4.2.2 c hc
        · rw [(fK.1 121 12 (by unfold wKD; omega)).1, e9, gf_sf, if_neg (by omega), gf_sf, if_neg (by omega), gf_sf, if_neg (by omega), gf_sf, if_pos ⟨rfl, rfl⟩]
        · rw [(fK.1 121 14 (by unfold wKD; omega)).1, e9, gf_sf, if_neg (by omega), gf_sf, if_pos ⟨rfl, rfl⟩]
        · rw [g5, gf_sf, if_neg (by omega), gf_sf, if_pos ⟨rfl, rfl⟩]
        · rw [(fK.1 121 15 (by unfold wKD; omega)).1, e9, gf_sf, if_pos ⟨rfl, rfl⟩, e10]
        · rw [g5, gf_sf, if_pos ⟨rfl, rfl⟩]
        · obtain ⟨k1, k2⟩ := hK10 c hc
          obtain ⟨k3, k4⟩ := c5 c (by omega)
          refine ⟨k1, ?_, k2, ?_⟩
          · rw [k3]
            exact hPM4.2.2 c hc
          · rw [k4]
            show (ga M4 148).getD c 0 = _
            rw [fO.2.2.1 148 (by unfold wQ; omega)]
            exact ham c hc
    · refine ⟨S, M3, ?_, ?_, hS, hM3, hB.of BsD.rf hbs⟩
      · rw [if_pos z]
      · rw [if_pos z]
  have skip : ∃ S1 M1, (some S : Option HS) = some S1 ∧ (some M3 : Option HS) = some M1 ∧ PSd S1 t A G (A 9) ∧ PMd M1 A G (A 9) ∧ BRl S1 M1 A := ⟨S, M3, rfl, rfl, hS, hM3, hB.of BsD.rf hbs⟩
  unfold s_X3_isBetter
  rcases hB with ⟨f0, m26⟩ | ⟨f1, G2, sv, us, _, _, hsv, hus, d14, m26, d15, m27, _⟩
  · have n1 : ¬ nI cn < (-1 : Int32) := fun q => nI_pos (n := cn) (by omega) (Int32.lt_trans q (by decide))
    rw [f0, i0e, sb, i1e, m26, if_neg n1, if_pos (show nI cn ≠ (-1 : Int32) from nI_nm (by omega))]
    exact core
  · rw [f1, i1e, hS.2.2.2.2.2.2.1, i0n, d14, d15, hused, m26, m27]
    by_cases z : cn < sv
    · rw [if_neg (show ¬ nI sv < nI cn from nI_nlt (by omega) (by omega)), if_pos (show nI cn ≠ nI sv from fun q => by
        have := (nI_eq (by omega) (by omega)).mp q
        omega), sb, i0e, if_pos (show nI cn < nI sv from nI_lt z (by omega))]
      exact skip
    · rw [if_neg (show ¬ nI cn < nI sv from nI_nlt (by omega) (by omega))]
      by_cases y : cn = sv
      · rw [y, if_neg (show ¬ nI sv < nI sv from nI_nlt (Nat.le_refl _) (by omega)), if_neg (show ¬ nI sv ≠ nI sv from fun q => q rfl), if_neg (show ¬ nI sv ≠ nI sv from fun q => q rfl)]
        rw [y] at core
        by_cases u : mn < us
        · rw [if_neg (show ¬ nI us ≤ nI mn from nI_ge u (by omega)), sb, i1e, if_pos (show nI mn < nI us from nI_lt u (by omega))]
          exact core
        · rw [if_pos (show nI us ≤ nI mn from nI_le (by omega) (by omega)), sb, i0e, if_neg (show ¬ nI mn < nI us from nI_nlt (by omega) (by omega))]
          exact skip
      · rw [if_pos (show nI sv < nI cn from nI_lt (by omega) (by omega)), sb, i1e, if_pos (show nI cn ≠ nI sv from fun q => y ((nI_eq (by omega) (by omega)).mp q))]
        exact core
