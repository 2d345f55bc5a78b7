/-! the model's best of all deals, with washed compartments -/
theorem ex_iff {p : Nat → Bool} : ∀ m j, ex p m j = true ↔ ∃ i, j ≤ i ∧ i < j + m ∧ p i = true := by
  intro m
  induction m with
  | zero =>
    intro j
    constructor
    · intro h
      cases h
    · rintro ⟨i, h1, h2, _⟩
      omega
  | succ m ih =>
    intro j
    rw [ex, Bool.or_eq_true, ih (j + 1)]
    constructor
    · intro h
      rcases h with h | ⟨i, h1, h2, h3⟩
      · exact ⟨j, by omega, by omega, h⟩
      · exact ⟨i, by omega, by omega, h3⟩
    · rintro ⟨i, h1, h2, h3⟩
      by_cases z : i = j
      · rw [← z]
        exact Or.inl h3
      · exact Or.inr ⟨i, by omega, by omega, h3⟩
/-- how many drops a deal serves -/
def scN (A G : Nat → Nat) : Nat := rnk (fun d => ex (fun c => decide (G c = d + 1)) (A 9) 0) (A 13)
theorem sc_bit {A G : Nat → Nat} {d : Nat} : ex (fun c => decide (G c = d + 1)) (A 9) 0 = true ↔ ∃ c, c < A 9 ∧ G c = d + 1 := by
  rw [ex_iff]
  constructor
  · rintro ⟨i, _, h2, h3⟩
    exact ⟨i, by omega, of_decide_eq_true h3⟩
  · rintro ⟨i, h2, h3⟩
    exact ⟨i, by omega, by omega, decide_eq_true h3⟩
theorem scq_eq {A G : Nat → Nat} {s : Nat} (h20 : A 13 ≤ 20) (hsb : ∀ d, s.testBit d = true ↔ d < A 13 ∧ ∃ c, c < A 9 ∧ G c = d + 1) : rnk (fun d => s.testBit d) 20 = scN A G := by
  have e := rnk_stay (p := fun d => s.testBit d) (n := A 13) (fun i hi => Bool.eq_false_iff.mpr (fun q => by have := ((hsb i).mp q).1; omega)) (20 - A 13)
  rw [show A 13 + (20 - A 13) = 20 by omega] at e
  rw [e]
  unfold scN
  refine rnk_congr _ (fun d hd => Bool.eq_iff_iff.mpr ?_)
  rw [hsb d, sc_bit]
  exact ⟨fun q => q.2, fun q => ⟨hd, q⟩⟩
def VGw (A G : Nat → Nat) (w : Nat) : Prop := GVa A G (A 9) ∧ PkW A G w ∧ lawG A G
theorem gv_ext {A G H : Nat → Nat} (hG : GVa A G (A 9)) (hH : GVa A H (A 9)) (h : ∀ c, c < A 9 → H c = G c) : H = G := by
  funext c
  by_cases z : c < A 9
  · exact h c z
  · have h1 : G c = 0 := by
      by_cases y : G c = 0
      · exact y
      · exact absurd (hG c y).1 z
    have h2 : H c = 0 := by
      by_cases y : H c = 0
      · exact y
      · exact absurd (hH c y).1 z
    rw [h1, h2]
theorem e_J160 {M : HS} {A G : Nat → Nat} {s : Nat} {x y : Int32} (hW : Wf A) (hP : PMd M A G (A 9)) (hV : GVa A G (A 9)) (hlc : ∀ c, c < A 9 → LC M (layA A G) c) (hk : ∀ d, d < A 13 → (∃ c, c < A 9 ∧ G c = d + 1) → lfA A G d (A 9) = 0) (hs : s < 2 ^ 20) (hsb : ∀ d, s.testBit d = true ↔ d < A 13 ∧ ∃ c, c < A 9 ∧ G c = d + 1) : ∃ M1, s_X8_looks_J160 (nI s) x y M = some M1 ∧ PMd M1 A G (A 9) ∧ ((lawG A G ∧ gf M1 137 26 = x) ∨ (¬ lawG A G ∧ gf M1 137 26 = gf M 137 26)) := by
  have h5 := hW.1.1
  have h20 := hW.1.2.2.2.2.1
  obtain ⟨hr1, hr2, hr3⟩ := lay_rows hW hV
  obtain ⟨a, ea, ha, hab⟩ := q_aboard hP.1 hP.2.1 hW
  have eab := ab_eq hW hV hk hsb hab
  have hPL : PL M (A 9) (lqA (layA A G)) := fun c hc => ⟨hr1 c hc, (hlc c hc).2.1⟩
  have eSt := q_stands (g := 0) hP.1 (show fM M 9 = nI (A 9) from hP.2.1 9 (by omega)) h5 hPL
  have exS : stM M 0 (lqA (layA A G)) (A 9) = stM (Mc A (layA A G)) 0 (lqA (layA A G)) (A 9) := stM_ext h5 hP.2.1 mc_rm (fun c hc => ⟨hlc c hc, mc_lc (by omega), hr1 c hc⟩)
  have eok := ok_ext hW hV hP.2.1 hlc
  obtain ⟨M4, eOf⟩ := e_ordersOf (M0 := M) (M := M) (D := A 13) (a := abG A G) (ok := okM M (lqA (layA A G)) (A 9)) (show fM M 13 = nI (A 13) from hP.2.1 13 (by omega)) h20 (ab_lt h20) hr3 (fun M' hM' g hgl => ⟨stM M (nI g) (lqA (layA A G)) (A 9), by
    have hPL' : PL M' (A 9) (lqA (layA A G)) := fun c hc => by
      rw [hM'.2.2.2.1]
      exact hPL c hc
    rw [q_stands hM'.1 (by rw [hM'.fm]; exact hP.2.1 9 (by omega)) h5 hPL', stM_sm hM'], by
    unfold okM
    exact decide_eq_true_iff.symm⟩) ⟨hP.1, rfl, rfl, rfl, rfl⟩
  have fO : Fr wQ M M4 := fs_X8_ordersOf fr_rf _ eOf
  have hwle := owN_le (ok := okM M (lqA (layA A G)) (A 9)) (a := abG A G) (D := A 13) (rnk5 h20 hr3) 8 0
  have hw31 : owN (okM M (lqA (layA A G)) (A 9)) (abG A G) (A 13) 8 0 < 2 ^ 31 := Nat.lt_of_le_of_lt hwle (by decide)
  have hPM4 : PMd M4 A G (A 9) := ⟨hP.1.fr fO, hP.2.1.fr fO (by unfold wQ; omega), fun c hc => by
    rw [fO.2.2.1 147 (by unfold wQ; omega)]
    exact hP.2.2 c hc⟩
  unfold s_X8_looks_J160
  rw [eSt, sb]
  by_cases z : stM M 0 (lqA (layA A G)) (A 9) = 0
  · rw [z, i0n, ea, sb, or_nI (by omega) (by omega), eab, eOf, sb]
    rw [exS] at z
    rw [eok] at hw31 ⊢
    by_cases u : owN (okM (Mc A (layA A G)) (lqA (layA A G)) (A 9)) (abG A G) (A 13) 8 0 = 0
    · rw [u, if_neg (show ¬ nI 0 ≠ 0 by decide)]
      refine ⟨M4, rfl, hPM4, Or.inr ⟨fun q => ?_, (fO.1 137 26 (by unfold wQ; omega)).1⟩⟩
      have := q.2
      omega
    · obtain ⟨M5, eM5, l5, c5, r5, r57, g5⟩ := q_L196 (A := A) 5 0 (sf (sf M4 137 26 x) 137 27 y) 40 (by omega) (by omega) hPM4.1 (fun i hi => absurd hi (Nat.not_lt_zero _))
      refine ⟨M5, ?_, ⟨l5, fun i hi => ?_, fun c hc => ?_⟩, Or.inl ⟨⟨z, by omega⟩, ?_⟩⟩
      · rw [if_pos (nI_ne0 (n := owN (okM (Mc A (layA A G)) (lqA (layA A G)) (A 9)) (abG A G) (A 13) 8 0) (by omega) hw31), pf_ok, sb, pf_ok, sb]
        exact eM5
      · rw [r5]
        exact hPM4.2.1 i hi
      · rw [r57]
        exact hPM4.2.2 c hc
      · rw [g5, gf_sf, if_neg (by omega), gf_sf, if_pos ⟨rfl, rfl⟩]
  · rw [if_pos z]
    refine ⟨M, rfl, hP, Or.inr ⟨fun q => ?_, rfl⟩⟩
    rw [exS] at z
    exact z q.1
theorem m_tries {A : Nat → Nat} {w : Nat} (hw : w < 32) (hW : Wf A) : ∀ (r n : Nat) (G : Nat → Nat) (M : HS) (b : Nat), PMd M A G n → GVa A G n → gf M 137 26 = dn b → b ≤ 21 → n ≤ A 9 → A 9 < r + n → ∃ M' b', s_X8_tries r (nI n) (nI w) M = some M' ∧ PMd M' A G n ∧ gf M' 137 26 = dn b' ∧ b ≤ b' ∧ b' ≤ 21 ∧ (∀ H, (∀ c, c < n → H c = G c) → VGw A H w → scN A H + 1 ≤ b') ∧ (b' = b ∨ ∃ H, VGw A H w ∧ b' = scN A H + 1) := by
  have h5 := hW.1.1
  have h20 := hW.1.2.2.2.2.1
  intro r
  induction r with
  | zero =>
    intro n G M b hP hV hb hb21 hn hr
    omega
  | succ r ih =>
    intro n G M b hP hV hb hb21 hn hr
    have hf0 : ∀ i, i < 157 → fM M i = nI (A i) := hP.2.1
    rw [s_X8_tries, s_X8_tries_B, m_at hP.1 (x := 9) (i := 9) rfl (by omega), sb, hf0 9 (by omega)]
    by_cases z : n = A 9
    · subst z
      rw [if_neg (fun y => y rfl)]
      by_cases hK : PkW A G w
      · obtain ⟨s, M3, hs, hsb, hM3, hlc, hbs, ham, eL⟩ := e_looksW hw hW hP hV hK
        have hcn := scq_eq h20 hsb
        have hcn20 : rnk (fun d => s.testBit d) 20 ≤ 20 := rnk_le_n 20
        obtain ⟨M4, e4, p4, q4⟩ := e_J160 (x := nI (rnk (fun d => s.testBit d) 20)) (y := nI (rnk (fun c => decide (G c ≠ 0)) (A 9))) hW hM3 hV hlc (fun d hd q => (hK d hd).2 q) hs hsb
        rw [hcn] at eL hcn20 q4 e4
        rw [hbs.1, hb] at q4
        have skip : scN A G + 1 ≤ b → ∃ M' b', Option.bind (some M3) (fun q => some q) = some M' ∧ PMd M' A G (A 9) ∧ gf M' 137 26 = dn b' ∧ b ≤ b' ∧ b' ≤ 21 ∧ (∀ H, (∀ c, c < A 9 → H c = G c) → VGw A H w → scN A H + 1 ≤ b') ∧ (b' = b ∨ ∃ H, VGw A H w ∧ b' = scN A H + 1) := by
          intro hle
          refine ⟨M3, b, rfl, hM3, hbs.1.trans hb, Nat.le_refl _, hb21, fun H hH hv => ?_, Or.inl rfl⟩
          rw [gv_ext hV hv.1 hH]
          exact hle
        have core : b ≤ scN A G + 1 → ∃ M' b', Option.bind (s_X8_looks_J160 (nI s) (nI (scN A G)) (nI (rnk (fun c => decide (G c ≠ 0)) (A 9))) M3) (fun q => some q) = some M' ∧ PMd M' A G (A 9) ∧ gf M' 137 26 = dn b' ∧ b ≤ b' ∧ b' ≤ 21 ∧ (∀ H, (∀ c, c < A 9 → H c = G c) → VGw A H w → scN A H + 1 ≤ b') ∧ (b' = b ∨ ∃ H, VGw A H w ∧ b' = scN A H + 1) := by
          intro hle
          rw [e4, sb]
          rcases q4 with ⟨hl, g4⟩ | ⟨hl, g4⟩
          · refine ⟨M4, scN A G + 1, rfl, p4, by rw [g4, dn_s], hle, by omega, fun H hH hv => ?_, Or.inr ⟨G, ⟨hV, hK, hl⟩, rfl⟩⟩
            rw [gv_ext hV hv.1 hH]
            exact Nat.le_refl _
          · refine ⟨M4, b, rfl, p4, g4, Nat.le_refl _, hb21, fun H hH hv => ?_, Or.inl rfl⟩
            rw [gv_ext hV hv.1 hH] at hv
            exact absurd hv.2.2 hl
        rw [eL, hb]
        cases b with
        | zero =>
          rw [dn_0, if_neg (show ¬ nI (scN A G) < (-1 : Int32) from fun q => nI_pos (n := scN A G) (by omega) (Int32.lt_trans q (by decide))), if_pos (show nI (scN A G) ≠ (-1 : Int32) from nI_nm (by omega))]
          exact core (by omega)
        | succ b =>
          rw [dn_s]
          by_cases u : scN A G < b
          · rw [if_pos (nI_lt u (by omega))]
            exact skip (by omega)
          · rw [if_neg (nI_nlt (by omega) (by omega))]
            by_cases v : scN A G = b
            · rw [if_neg (show ¬ nI (scN A G) ≠ nI b from fun q => q (by rw [v]))]
              by_cases u2 : nI (rnk (fun c => decide (G c ≠ 0)) (A 9)) < gf M 137 27
              · rw [if_pos u2]
                exact core (by omega)
              · rw [if_neg u2]
                exact skip (by omega)
            · rw [if_pos (show nI (scN A G) ≠ nI b from fun q => v ((nI_eq (by omega) (by omega)).mp q))]
              exact core (by omega)
      · obtain ⟨v, M1, e1, hv⟩ := q_poursW hw hP.1 hP.2.1 hW hP.2.2 hV
        have f1 := fs_X8_pours fr_rf _ e1
        have hv1 : v = -1 := by
          rcases hv with q | ⟨s, _, _, q, _⟩
          · exact q.1
          · exact absurd q hK
        unfold s_X8_looks
        rw [e1, sb, hv1, if_neg (show ¬ ((-1 : Int32) ≠ -1) by decide), sb]
        refine ⟨M1, b, rfl, ⟨hP.1.fr f1, hP.2.1.fr f1 (by unfold wU; omega), ?_⟩, ?_, Nat.le_refl _, hb21, fun H hH hq => ?_, Or.inl rfl⟩
        · rw [f1.2.2.1 147 (by unfold wU; omega)]
          exact hP.2.2
        · rw [(f1.1 137 26 (by unfold wU; omega)).1]
          exact hb
        · rw [gv_ext hV hq.1 hH] at hq
          exact absurd hq.2.1 hK
    · have hn9 : n < A 9 := by omega
      rw [if_pos (show nI n ≠ nI (A 9) from fun y => z ((nI_eq (by omega) (by omega)).mp y))]
      have hGn := gv_n hV
      have J : ∀ M' b0, PMd M' A G n → gf M' 137 26 = dn b0 → b0 ≤ 21 → ∃ M'' b', s_X8_tries_J72 (s_X8_tries r) (nI n) (nI w) M' = some M'' ∧ PMd M'' A G n ∧ gf M'' 137 26 = dn b' ∧ b0 ≤ b' ∧ b' ≤ 21 ∧ (∀ H, (∀ c, c < n → H c = G c) → H n = 0 → VGw A H w → scN A H + 1 ≤ b') ∧ (b' = b0 ∨ ∃ H, VGw A H w ∧ b' = scN A H + 1) := by
        intro M' b0 hP' hb0 h21
        have hP2 := hP'.st7 (x := 0) (show n < 5 by omega)
        rw [up_0 hGn, dn_0] at hP2
        obtain ⟨M2, b2, e2, p2, g2, l2, u2, m2, a2⟩ := ih (n + 1) G (st M' 147 n (-1)) b0 hP2 (fun c hc => ⟨by have := (hV c hc).1; omega, (hV c hc).2⟩) hb0 h21 (by omega) (by omega)
        unfold s_X8_tries_J72
        rw [wa_st (nM147 hP'.1) (by omega) (by omega), sb, ← nI_succ, e2, sb]
        refine ⟨M2, b2, rfl, p2.lower (by omega) (fun _ _ => rfl), g2, l2, u2, fun H hH h0 hv => m2 H (fun c hc => ?_) hv, a2⟩
        by_cases y : c = n
        · rw [y, h0, hGn]
        · exact hH c (by omega)
      have lp : ∀ (m d : Nat) (M' : HS) (b0 : Nat) (K : Nat), d + m = A 13 → m < K → PMd M' A G n → gf M' 137 26 = dn b0 → b ≤ b0 → b0 ≤ 21 → (∀ H, (∀ c, c < n → H c = G c) → (∃ e, e < d ∧ H n = e + 1) → VGw A H w → scN A H + 1 ≤ b0) → (b0 = b ∨ ∃ H, VGw A H w ∧ b0 = scN A H + 1) → ∃ M'' b', s_X8_tries_L19 (s_X8_tries r) (nI n) (nI w) K (nI d) M' = some M'' ∧ PMd M'' A G n ∧ gf M'' 137 26 = dn b' ∧ b ≤ b' ∧ b' ≤ 21 ∧ (∀ H, (∀ c, c < n → H c = G c) → VGw A H w → scN A H + 1 ≤ b') ∧ (b' = b ∨ ∃ H, VGw A H w ∧ b' = scN A H + 1) := by
        intro m
        induction m with
        | zero =>
          intro d M' b0 K h1 h2 hP' hb0 hle h21 hm ha
          obtain ⟨K, rfl⟩ : ∃ k, K = k + 1 := ⟨K - 1, by omega⟩
          obtain ⟨M2, b2, e2, p2, g2, l2, u2, m2, a2⟩ := J M' b0 hP' hb0 h21
          rw [s_X8_tries_L19, m_at hP'.1 (x := 13) (i := 13) rfl (by omega), sb, (show fM M' 13 = nI (A 13) from hP'.2.1 13 (by omega)), if_pos (nI_le (by omega) (by omega))]
          refine ⟨M2, b2, e2, p2, g2, by omega, u2, fun H hH hv => ?_, ?_⟩
          · by_cases y : H n = 0
            · exact m2 H hH y hv
            · have q := hm H hH ⟨H n - 1, by have := (hv.1 n y).2.2.1; omega, by omega⟩ hv
              omega
          · rcases a2 with q | q
            · rw [q]
              exact ha
            · exact Or.inr q
        | succ m ihm =>
          intro d M' b0 K h1 h2 hP' hb0 hle h21 hm ha
          obtain ⟨K, rfl⟩ : ∃ k, K = k + 1 := ⟨K - 1, by omega⟩
          have hs3 := hW.s3 (d := d) (by omega)
          have ho := hW.o20 (c := n) (by omega)
          rw [s_X8_tries_L19, m_at hP'.1 (x := 13) (i := 13) rfl (by omega), sb, (show fM M' 13 = nI (A 13) from hP'.2.1 13 (by omega)), if_neg (nI_ge (by omega) (by omega)), q_holds hP'.1 (by omega) (x := 4) (k := 4) (by omega) rfl, sb, (show fM M' (27 + 4 + 6 * n) = nI (A (31 + 6 * n)) from hP'.2.1 (31 + 6 * n) (by omega)), q_its hP'.1 (by omega) (x := 2) (k := 2) (by omega) rfl, sb, (show fM M' (57 + 2 + 5 * d) = nI (A (59 + 5 * d)) from hP'.2.1 (59 + 5 * d) (by omega)), ← nI_succ, ← nI_succ]
          by_cases z2 : A (31 + 6 * n) = 0
          · rw [z2, if_neg (show ¬ nI 0 ≠ 0 by decide)]
            by_cases z3 : A (59 + 5 * d) = 0
            · have hP2 := hP'.st7 (x := d + 1) (show n < 5 by omega)
              rw [dn_s] at hP2
              obtain ⟨M2, b2, e2, p2, g2, l2, u2, m2, a2⟩ := ih (n + 1) (upG G n (d + 1)) (st M' 147 n (nI d)) b0 hP2 (gv_up hV (fun _ => ⟨z2, by omega, by rw [show d + 1 - 1 = d by omega]; exact z3⟩)) hb0 h21 (by omega) (by omega)
              rw [z3, if_pos (show nI 0 = 0 from rfl), wa_st (nM147 hP'.1) (by omega) (by omega), sb, e2, sb]
              refine ihm (d + 1) M2 b2 K (by omega) (by omega) (p2.lower (by omega) (fun c hc => if_neg (by omega))) g2 (by omega) u2 (fun H hH he hv => ?_) ?_
              · obtain ⟨e, he1, he2⟩ := he
                by_cases y : e = d
                · refine m2 H (fun c hc => ?_) hv
                  unfold upG
                  by_cases x : c = n
                  · rw [if_pos x, x, he2, y]
                  · rw [if_neg x]
                    exact hH c (by omega)
                · have q := hm H hH ⟨e, by omega, he2⟩ hv
                  omega
              · rcases a2 with q | q
                · rw [q]
                  exact ha
                · exact Or.inr q
            · rw [if_neg (nI_ne0 (n := A (59 + 5 * d)) (by omega) (by omega))]
              refine ihm (d + 1) M' b0 K (by omega) (by omega) hP' hb0 hle h21 (fun H hH he hv => ?_) ha
              obtain ⟨e, he1, he2⟩ := he
              by_cases y : e = d
              · exfalso
                have q := (hv.1 n (by omega)).2.2.2
                rw [he2, y, show d + 1 - 1 = d by omega] at q
                exact z3 q
              · exact hm H hH ⟨e, by omega, he2⟩ hv
          · obtain ⟨M2, b2, e2, p2, g2, l2, u2, m2, a2⟩ := J M' b0 hP' hb0 h21
            rw [if_pos (nI_ne0 (n := A (31 + 6 * n)) (by omega) (by omega))]
            refine ⟨M2, b2, e2, p2, g2, by omega, u2, fun H hH hv => ?_, ?_⟩
            · by_cases y : H n = 0
              · exact m2 H hH y hv
              · exact absurd (hv.1 n y).2.1 z2
            · rcases a2 with q | q
              · rw [q]
                exact ha
              · exact Or.inr q
      exact lp (A 13) 0 M b 40 (by omega) (by omega) hP hb (Nat.le_refl _) hb21 (fun H _ he => by obtain ⟨e, q, _⟩ := he; omega) (Or.inl rfl)
