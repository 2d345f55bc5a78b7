/-! the model pours a deal: just when it fits, and what goes where -/
theorem lk_4995 {A : Nat → Nat} (hW : Wf A) {d : Nat} (hd : d < A 13) : lkA A d ≤ 4995 := by
  have := (hW.1.2.2.2.2.2.2.2.2.2.2.2 d hd).2.2
  unfold lkA
  omega
theorem lf_4995 {A G : Nat → Nat} (hW : Wf A) {d : Nat} (hd : d < A 13) (n : Nat) : lfA A G d n ≤ 4995 := by
  have h1 := lf_le (A := A) (G := G) (d := d) 0 n
  rw [Nat.zero_add] at h1
  have h2 := lk_4995 hW hd
  have e0 : lfA A G d 0 = lkA A d := rfl
  omega
theorem tp_999 {A : Nat → Nat} (hW : Wf A) {c : Nat} (hc : c < A 9) : tpA A c ≤ 999 := by
  have h1 := (hW.1.2.2.2.2.2.2.2.2.1 c hc).2.1
  have h2 := hW.1.2.2.2.2.2.2.2.1
  have h3 : A (27 + 6 * c) * A 6 ≤ 999 * 100 := Nat.mul_le_mul h1 h2
  unfold tpA
  omega
theorem e_mtop {M : HS} {A : Nat → Nat} {c : Nat} (hL : LnM M) (hM : RMt M 139 A) (hW : Wf A) (hc : c < A 9) : s_X8_top (nI c) M = some (nI (tpA A c)) := by
  have h5 := hW.1.1
  have h1 := (hW.1.2.2.2.2.2.2.2.2.1 c hc).2.1
  have h2 := hW.1.2.2.2.2.2.2.2.1
  have h3 : A (27 + 6 * c) * A 6 ≤ 999 * 100 := Nat.mul_le_mul h1 h2
  rw [q_mtop hL (by omega), (show fM M (27 + 0 + 6 * c) = nI (A (27 + 6 * c)) from hM (27 + 6 * c) (by omega)), (show fM M 6 = nI (A 6) from hM 6 (by omega)), pk_mul, show (100 : Int32) = nI 100 from rfl, pk_div (by omega) (by omega) (by omega)]
  rfl
theorem e_dtop {S : HS} {t : Nat} {A : Nat → Nat} {c : Nat} (hL : LnD S) (ht : isT t) (hT : RDt S t A) (hW : Wf A) (hc : c < A 9) : s_X6_top t (nI c) S = some (nI (tpA A c)) := by
  have h5 := hW.1.1
  have h1 := (hW.1.2.2.2.2.2.2.2.2.1 c hc).2.1
  have h2 := hW.1.2.2.2.2.2.2.2.1
  have h3 : A (27 + 6 * c) * A 6 ≤ 999 * 100 := Nat.mul_le_mul h1 h2
  rw [q_top hL ht (by omega)]
  unfold topD
  rw [(hT.2.2.2.1 c hc).1, hT.2.2.1 6 (by omega), pk_mul, show (100 : Int32) = nI 100 from rfl, pk_div (by omega) (by omega) (by omega)]
  rfl
def PrR (A G : Nat → Nat) (r : Option (Int32 × HS)) : Prop := ∃ v M1, r = some (v, M1) ∧ ((v = -1 ∧ ¬ PkA A G) ∨ ∃ s, v = nI s ∧ s < 2 ^ 20 ∧ PkA A G ∧ (∀ d, s.testBit d = true ↔ d < A 13 ∧ ∃ c, c < A 9 ∧ G c = d + 1) ∧ ∀ c, c < A 9 → (ga M1 148).getD c 0 = nI (if G c = 0 then 0 else amA A G c))
theorem q_pours {M : HS} {A G : Nat → Nat} (hL : LnM M) (hM : RMt M 139 A) (hW : Wf A) (hG : ∀ c, c < A 9 → (ga M 147).getD c 0 = dn (G c)) (hV : GVa A G (A 9)) : PrR A G (s_X8_pours 0 M) := by
  have h5 := hW.1.1
  have h20 := hW.1.2.2.2.2.1
  have h6 := hW.1.2.1
  have hf0 : ∀ i, i < 157 → fM M i = nI (A i) := hM
  have hG20 : ∀ c, G c ≤ 20 := fun c => by
    by_cases z : G c = 0
    · omega
    · have := (hV c z).2.2.1
      omega
  have toM : ∀ M', fM M' = fM M → RMt M' 139 A := fun M' e i hi => by
    have := congrFun e i
    unfold fM at this
    rw [this]
    exact hM i hi
  have L30 : ∀ (m d s : Nat) (M' : HS) (K : Nat), d + m = A 13 → m < K → LnM M' → fM M' = fM M → ga M' 147 = ga M 147 → s < 2 ^ 20 → (∀ e, s.testBit e = true ↔ e < d ∧ ∃ c, c < A 9 ∧ G c = e + 1) → (∀ e, e < d → (∀ c, c < A 9 → G c = e + 1 → GdA A G c) ∧ ((∃ c, c < A 9 ∧ G c = e + 1) → lfA A G e (A 9) = 0)) → (∀ c, c < A 9 → (ga M' 148).getD c 0 = nI (if G c ≠ 0 ∧ G c ≤ d then amA A G c else 0)) → PrR A G (s_X8_pours_L30 0 K (nI s) (nI d) M') := by
    intro m
    induction m with
    | zero =>
      intro d s M' K h1 h2 hL' hf hg hs hsb hok ham
      obtain ⟨K, rfl⟩ : ∃ k, K = k + 1 := ⟨K - 1, by omega⟩
      have ed : d = A 13 := by omega
      subst ed
      rw [s_X8_pours_L30, m_at hL' (x := 13) (i := 13) rfl (by omega), sb, hf, hf0 13 (by omega), if_pos (nI_le (Nat.le_refl _) (by omega))]
      refine ⟨_, _, rfl, Or.inr ⟨s, rfl, hs, hok, hsb, fun c hc => ?_⟩⟩
      rw [ham c hc]
      by_cases z : G c = 0
      · rw [if_pos z, if_neg (fun q => q.1 z)]
      · rw [if_neg z, if_pos ⟨z, (hV c z).2.2.1⟩]
    | succ m ih =>
      intro d s M' K h1 h2 hL' hf hg hs hsb hok ham
      obtain ⟨K, rfl⟩ : ∃ k, K = k + 1 := ⟨K - 1, by omega⟩
      have hd : d < A 13 := by omega
      have hM' := toM M' hf
      have hs3 := hW.s3 hd
      have L74 : ∀ (q c : Nat) (x : Int32) (y : Bool) (M'' : HS) (K2 : Nat), c + q = A 9 → q < K2 → LnM M'' → fM M'' = fM M → ga M'' 147 = ga M 147 → (y = true ↔ ∃ i, i < c ∧ G i = d + 1) → (wtA A d = true → x = nI (lfA A G d c)) → (∀ i, i < c → G i = d + 1 → GdA A G i) → (∀ i, i < A 9 → (ga M'' 148).getD i 0 = nI (if G i ≠ 0 ∧ (G i ≤ d ∨ (G i = d + 1 ∧ i < c)) then amA A G i else 0)) → PrR A G (s_X8_pours_L74 (s_X8_pours_L30 0 K) 0 (nI s) (nI d) K2 x (z1 y) (nI c) M'') := by
        intro q
        induction q with
        | zero =>
          intro c x y M'' K2 g1 g2 hL2 hf2 hg2 hy hx hgd ham2
          obtain ⟨K2, rfl⟩ : ∃ k, K2 = k + 1 := ⟨K2 - 1, by omega⟩
          have ec : c = A 9 := by omega
          subst ec
          have ho := or_bit hs (show d < 20 by omega)
          have ham3 : ∀ i, i < A 9 → (ga M'' 148).getD i 0 = nI (if G i ≠ 0 ∧ G i ≤ d + 1 then amA A G i else 0) := fun i hi => by
            rw [ham2 i hi]
            by_cases u : G i ≠ 0 ∧ (G i ≤ d ∨ (G i = d + 1 ∧ i < A 9))
            · rw [if_pos u, if_pos ⟨u.1, by omega⟩]
            · rw [if_neg u, if_neg (fun w => u ⟨w.1, by omega⟩)]
          rw [s_X8_pours_L74, m_at hL2 (x := 9) (i := 9) rfl (by omega), sb, hf2, hf0 9 (by omega), if_pos (nI_le (Nat.le_refl _) (by omega)), ho.1, ← nI_succ]
          cases hyb : y with
          | false =>
            rw [if_pos (show z1 false = 0 from rfl), if_pos (show z1 false = 0 from rfl)]
            have hno : ¬ ∃ i, i < A 9 ∧ G i = d + 1 := fun w => by
              rw [hyb] at hy
              exact absurd (hy.mpr w) (by decide)
            refine ih (d + 1) s M'' K (by omega) (by omega) hL2 hf2 hg2 hs (fun e => ?_) (fun e he => ?_) ham3
            · rw [hsb e]
              constructor
              · rintro ⟨w1, w2⟩
                exact ⟨by omega, w2⟩
              · rintro ⟨w1, w2⟩
                refine ⟨?_, w2⟩
                by_cases u : e = d
                · subst u
                  exact absurd w2 hno
                · omega
            · by_cases u : e = d
              · subst u
                exact ⟨fun c hc w => absurd ⟨c, hc, w⟩ hno, fun w => absurd w hno⟩
              · exact hok e (by omega)
          | true =>
            have hyes : ∃ i, i < A 9 ∧ G i = d + 1 := hy.mp hyb
            have hwt : wtA A d = true := by
              obtain ⟨i, _, ei⟩ := hyes
              have := (hV i (by omega)).2.2.2
              rw [ei, show d + 1 - 1 = d by omega] at this
              exact decide_eq_true this
            have hl := lf_4995 (G := G) hW hd (A 9)
            rw [if_neg (show ¬ z1 true = 0 by decide), hx hwt]
            by_cases u0 : lfA A G d (A 9) = 0
            · rw [u0, if_pos (show nI 0 ≤ 0 by decide), if_neg (show ¬ z1 true = 0 by decide)]
              refine ih (d + 1) (s ||| 2 ^ d) M'' K (by omega) (by omega) hL2 hf2 hg2 ho.2 (fun e => ?_) (fun e he => ?_) ham3
              · rw [Nat.testBit_or, Nat.testBit_two_pow, Bool.or_eq_true, hsb e, decide_eq_true_iff]
                constructor
                · intro w
                  rcases w with w | w
                  · exact ⟨by omega, w.2⟩
                  · subst w
                    exact ⟨by omega, hyes⟩
                · rintro ⟨w1, w2⟩
                  by_cases u : d = e
                  · exact Or.inr u
                  · exact Or.inl ⟨by omega, w2⟩
              · by_cases u : e = d
                · subst u
                  exact ⟨fun c hc w => hgd c hc w, fun _ => u0⟩
                · exact hok e (by omega)
            · rw [if_neg (show ¬ nI (lfA A G d (A 9)) ≤ 0 from nI_ge (a := 0) (b := lfA A G d (A 9)) (by omega) (by omega))]
              exact ⟨_, _, rfl, Or.inl ⟨rfl, fun w => u0 ((w d hd).2 hyes)⟩⟩
        | succ q ihq =>
          intro c x y M'' K2 g1 g2 hL2 hf2 hg2 hy hx hgd ham2
          obtain ⟨K2, rfl⟩ : ∃ k, K2 = k + 1 := ⟨K2 - 1, by omega⟩
          have hc : c < A 9 := by omega
          have hM2 := toM M'' hf2
          have hgc := hG20 c
          rw [s_X8_pours_L74, m_at hL2 (x := 9) (i := 9) rfl (by omega), sb, hf2, hf0 9 (by omega), if_neg (nI_ge (by omega) (by omega)), ag_ok (nM147 hL2) (by omega) (by omega), sb, hg2, hG c hc, e_mtop hL2 hM2 hW hc, sb, sb, ← nI_succ]
          by_cases z : G c = d + 1
          · have hwt : wtA A d = true := by
              have := (hV c (by omega)).2.2.2
              rw [z, show d + 1 - 1 = d by omega] at this
              exact decide_eq_true this
            have hl := lf_4995 (G := G) hW hd c
            have ht := tp_999 hW hc
            have eam : amA A G c = min (lfA A G d c) (tpA A c) := by
              unfold amA
              rw [z, show d + 1 - 1 = d by omega]
            have hq6 := (hW.1.2.2.2.2.2.2.2.2.2.2.2 d hd).1
            have J : PrR A G (s_X8_pours_J122 (s_X8_pours_L30 0 K) (s_X8_pours_L74 (s_X8_pours_L30 0 K) 0 (nI s) (nI d) K2) 0 (nI s) (nI d) x (nI c) (nI (amA A G c)) M'') := by
              unfold s_X8_pours_J122
              by_cases z0 : amA A G c = 0
              · rw [z0, if_pos (show nI 0 = 0 from rfl)]
                refine ⟨_, _, rfl, Or.inl ⟨rfl, fun w => ?_⟩⟩
                have := ((w d hd).1 c hc z).1
                omega
              · rw [if_neg (nI_ne0 (n := amA A G c) (by omega) (by omega)), q_its hL2 (by omega) (x := 0) (k := 0) (by omega) rfl, sb, (show fM M'' (57 + 0 + 5 * d) = nI (A (57 + 5 * d)) from hM2 (57 + 5 * d) (by omega)), q_mayCome hL2 hM2 hW hc (by omega), sb]
                cases hb : bA A c (A (57 + 5 * d)) with
                | true =>
                  rw [if_neg (show ¬ z1 (!true) ≠ 0 by decide)]
                  refine ⟨_, _, rfl, Or.inl ⟨rfl, fun w => ?_⟩⟩
                  have := ((w d hd).1 c hc z).2
                  rw [z, show d + 1 - 1 = d by omega, hb] at this
                  cases this
                | false =>
                  rw [if_pos (show z1 (!false) ≠ 0 by decide), wa_st (nM148 hL2) (by omega) (by omega), sb, hx hwt, pk_sub (by omega), ← nI_succ]
                  refine ihq (c + 1) _ true _ K2 (by omega) (by omega) hL2.st ?_ ?_ ⟨fun _ => ⟨c, by omega, z⟩, fun _ => rfl⟩ (fun _ => ?_) (fun i hi ei => ?_) (fun i hi => ?_)
                  · rw [← hf2]
                    unfold fM
                    rw [ga_st_ne (by omega)]
                  · rw [ga_st_ne (by omega)]
                    exact hg2
                  · rw [lfA, if_pos z]
                    congr 1
                    omega
                  · by_cases u : i = c
                    · subst u
                      refine ⟨by omega, ?_⟩
                      rw [z, show d + 1 - 1 = d by omega]
                      exact hb
                    · exact hgd i (by omega) ei
                  · by_cases u : i = c
                    · subst u
                      rw [gd_st_eq (nM148 hL2) (by omega), if_pos ⟨by omega, Or.inr ⟨z, by omega⟩⟩]
                    · rw [gd_st (by omega), ham2 i hi]
                      by_cases w : G i ≠ 0 ∧ (G i ≤ d ∨ (G i = d + 1 ∧ i < c))
                      · rw [if_pos w, if_pos ⟨w.1, by omega⟩]
                      · rw [if_neg w, if_neg (fun v => w ⟨v.1, by omega⟩)]
            rw [if_pos ((dn_eq (by omega) (by omega)).mpr z), hx hwt]
            rw [hx hwt] at J
            by_cases u : tpA A c ≤ lfA A G d c
            · rw [if_pos (nI_le u (by omega))]
              rw [eam, Nat.min_eq_right u] at J
              exact J
            · rw [if_neg (nI_ge (by omega) (by omega))]
              rw [eam, Nat.min_eq_left (by omega)] at J
              exact J
          · rw [if_neg (fun w => z ((dn_eq (by omega) (by omega)).mp w))]
            refine ihq (c + 1) x y M'' K2 (by omega) (by omega) hL2 hf2 hg2 ?_ (fun w => ?_) (fun i hi ei => ?_) (fun i hi => ?_)
            · rw [hy]
              constructor
              · rintro ⟨i, hi, ei⟩
                exact ⟨i, by omega, ei⟩
              · rintro ⟨i, hi, ei⟩
                refine ⟨i, ?_, ei⟩
                by_cases u : i = c
                · subst u
                  exact absurd ei z
                · omega
            · rw [lfA, if_neg z]
              exact hx w
            · refine hgd i ?_ ei
              by_cases u : i = c
              · subst u
                exact absurd ei z
              · omega
            · rw [ham2 i hi]
              by_cases w : G i ≠ 0 ∧ (G i ≤ d ∨ (G i = d + 1 ∧ i < c))
              · rw [if_pos w, if_pos ⟨w.1, by omega⟩]
              · rw [if_neg w, if_neg (fun v => w ⟨v.1, by
                  rcases v.2 with r | r
                  · exact Or.inl r
                  · refine Or.inr ⟨r.1, ?_⟩
                    by_cases u : i = c
                    · subst u
                      exact absurd r.1 z
                    · omega⟩)]
      have ham0 : ∀ i, i < A 9 → (ga M' 148).getD i 0 = nI (if G i ≠ 0 ∧ (G i ≤ d ∨ (G i = d + 1 ∧ i < 0)) then amA A G i else 0) := fun i hi => by
        rw [ham i hi]
        by_cases u : G i ≠ 0 ∧ G i ≤ d
        · rw [if_pos u, if_pos ⟨u.1, Or.inl u.2⟩]
        · rw [if_neg u, if_neg (fun w => u ⟨w.1, by omega⟩)]
      have hl : s_X8_loadedOf (nI d) M' = some (nI (ldA A d 5)) := by
        rw [q_mloaded hL' hM' rfl h5 (fun c hc => hW.o20 (by omega)) (by omega), ← ld_5 h5 (fun c h1 h2 => (hW.2.1 c h1 h2).2)]
      rw [s_X8_pours_L30, m_at hL' (x := 13) (i := 13) rfl (by omega), sb, hf, hf0 13 (by omega), if_neg (nI_ge (by omega) (by omega)), q_its hL' (by omega) (x := 2) (k := 2) (by omega) rfl, sb, q_its hL' (by omega) (x := 1) (k := 1) (by omega) rfl, sb, hl, sb, (show fM M' (57 + 2 + 5 * d) = nI (A (59 + 5 * d)) from hM' (59 + 5 * d) (by omega)), (show fM M' (57 + 1 + 5 * d) = nI (A (58 + 5 * d)) from hM' (58 + 5 * d) (by omega))]
      have hy0 : (false = true ↔ ∃ i, i < 0 ∧ G i = d + 1) := ⟨fun w => absurd w (by decide), fun ⟨i, w, _⟩ => absurd w (Nat.not_lt_zero _)⟩
      by_cases z : A (59 + 5 * d) = 0
      · have hle : ldA A d 5 ≤ A (58 + 5 * d) := by
          rcases hW.2.2.2.1 d hd with w | w | w
          · omega
          · omega
          · omega
        rw [z, if_neg (show ¬ nI 0 ≠ 0 by decide), pk_sub hle]
        exact L74 (A 9) 0 _ false M' 40 (by omega) (by omega) hL' hf hg hy0 (fun _ => rfl) (fun i hi => absurd hi (Nat.not_lt_zero _)) ham0
      · rw [if_pos (nI_ne0 (n := A (59 + 5 * d)) (by omega) (by omega))]
        refine L74 (A 9) 0 _ false M' 40 (by omega) (by omega) hL' hf hg hy0 (fun w => ?_) (fun i hi => absurd hi (Nat.not_lt_zero _)) ham0
        exact absurd (of_decide_eq_true w) z
  have L4 : ∀ (m c : Nat) (M' : HS) (K : Nat), c + m = A 9 → m < K → LnM M' → fM M' = fM M → ga M' 147 = ga M 147 → (∀ i, i < c → (ga M' 148).getD i 0 = 0) → PrR A G (s_X8_pours_L4 0 0 K (nI c) M') := by
    intro m
    induction m with
    | zero =>
      intro c M' K h1 h2 hL' hf hg hz
      obtain ⟨K, rfl⟩ : ∃ k, K = k + 1 := ⟨K - 1, by omega⟩
      rw [s_X8_pours_L4, m_at hL' (x := 9) (i := 9) rfl (by omega), sb, hf, hf0 9 (by omega), if_pos (nI_le (by omega) (by omega))]
      refine L30 (A 13) 0 0 M' 40 (by omega) (by omega) hL' hf hg (by omega) (fun e => ?_) (fun e he => absurd he (Nat.not_lt_zero _)) (fun i hi => ?_)
      · rw [Nat.zero_testBit]
        exact ⟨fun w => absurd w (by decide), fun w => absurd w.1 (Nat.not_lt_zero _)⟩
      · rw [hz i (by omega), if_neg (fun w => w.1 (by omega))]
        rfl
    | succ m ih =>
      intro c M' K h1 h2 hL' hf hg hz
      obtain ⟨K, rfl⟩ : ∃ k, K = k + 1 := ⟨K - 1, by omega⟩
      rw [s_X8_pours_L4, m_at hL' (x := 9) (i := 9) rfl (by omega), sb, hf, hf0 9 (by omega), if_neg (nI_ge (by omega) (by omega)), wa_st (nM148 hL') (by omega) (by omega), sb, ← nI_succ]
      refine ih (c + 1) _ K (by omega) (by omega) hL'.st ?_ ?_ (fun i hi => ?_)
      · rw [← hf]
        unfold fM
        rw [ga_st_ne (by omega)]
      · rw [ga_st_ne (by omega)]
        exact hg
      · by_cases u : i = c
        · subst u
          rw [gd_st_eq (nM148 hL') (by omega)]
        · rw [gd_st (by omega)]
          exact hz i (by omega)
  exact L4 (A 9) 0 M 40 (by omega) (by omega) hL rfl rfl (fun i hi => absurd hi (Nat.not_lt_zero _))
