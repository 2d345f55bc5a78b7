/-! pours and looks, with washed compartments -/
def bW (A : Nat → Nat) (w c b : Nat) : Bool := !w.testBit c && bA A c b
def GdW (A G : Nat → Nat) (w c : Nat) : Prop := 0 < amA A G c ∧ bW A w c (A (57 + 5 * (G c - 1))) = false
def PkW (A G : Nat → Nat) (w : Nat) : Prop := ∀ d, d < A 13 → (∀ c, c < A 9 → G c = d + 1 → GdW A G w c) ∧ ((∃ c, c < A 9 ∧ G c = d + 1) → lfA A G d (A 9) = 0)
theorem q_mayComeW {M : HS} {A : Nat → Nat} {w c b : Nat} (hw : w < 32) (hL : LnM M) (hM : RMt M 139 A) (hW : Wf A) (hc : c < A 9) (hb : b < 6) : s_X8_mayCome (nI c) (nI b) (nI w) M = some (z1 (!bW A w c b)) := by
  have h5 := hW.1.1
  have e0 := q_mayCome hL hM hW hc hb
  unfold s_X8_mayCome at e0 ⊢
  rw [q_has, sb, hasB_nI (by omega) (by omega)]
  rw [q_has, sb, show hasB 0 (nI c) = false from (by decide : ∀ j : Fin 5, hasB 0 (nI j.val) = false) ⟨c, by omega⟩, if_neg (show ¬ z1 false ≠ 0 by decide)] at e0
  unfold bW
  cases hwc : w.testBit c with
  | true =>
    rw [if_pos (show z1 true ≠ 0 by decide)]
    rfl
  | false =>
    rw [if_neg (show ¬ z1 false ≠ 0 by decide), e0]
    rfl
def PrW (A G : Nat → Nat) (wz : Nat) (r : Option (Int32 × HS)) : Prop := ∃ v M1, r = some (v, M1) ∧ ((v = -1 ∧ ¬ PkW A G wz) ∨ ∃ s, v = nI s ∧ s < 2 ^ 20 ∧ PkW A G wz ∧ (∀ d, s.testBit d = true ↔ d < A 13 ∧ ∃ c, c < A 9 ∧ G c = d + 1) ∧ ∀ c, c < A 9 → (ga M1 148).getD c 0 = nI (if G c = 0 then 0 else amA A G c))
theorem q_poursW {M : HS} {A G : Nat → Nat} {wz : Nat} (hw : wz < 32) (hL : LnM M) (hM : RMt M 139 A) (hW : Wf A) (hG : ∀ c, c < A 9 → (ga M 147).getD c 0 = dn (G c)) (hV : GVa A G (A 9)) : PrW A G wz (s_X8_pours (nI wz) M) := by
  have h5 := hW.1.1
  have h20 := hW.1.2.2.2.2.1
  have h6 := hW.1.2.1
  have hf0 : ∀ i, i < 157 → fM M i = nI (A i) := hM
  have hG20 : ∀ c, G c ≤ 20 := fun c => by
    by_cases z : G c = 0
    · omega
    · have := (hV c z).2.2.1
      omega
  have toM : ∀ M', fM M' = fM M → RMt M' 139 A := fun M' e i hi => by
    have := congrFun e i
    unfold fM at this
    rw [this]
    exact hM i hi
  have L30 : ∀ (m d s : Nat) (M' : HS) (K : Nat), d + m = A 13 → m < K → LnM M' → fM M' = fM M → ga M' 147 = ga M 147 → s < 2 ^ 20 → (∀ e, s.testBit e = true ↔ e < d ∧ ∃ c, c < A 9 ∧ G c = e + 1) → (∀ e, e < d → (∀ c, c < A 9 → G c = e + 1 → GdW A G wz c) ∧ ((∃ c, c < A 9 ∧ G c = e + 1) → lfA A G e (A 9) = 0)) → (∀ c, c < A 9 → (ga M' 148).getD c 0 = nI (if G c ≠ 0 ∧ G c ≤ d then amA A G c else 0)) → PrW A G wz (s_X8_pours_L30 (nI wz) K (nI s) (nI d) M') := by
    intro m
    induction m with
    | zero =>
      intro d s M' K h1 h2 hL' hf hg hs hsb hok ham
      obtain ⟨K, rfl⟩ : ∃ k, K = k + 1 := ⟨K - 1, by omega⟩
      have ed : d = A 13 := by omega
      subst ed
      rw [s_X8_pours_L30, m_at hL' (x := 13) (i := 13) rfl (by omega), sb, hf, hf0 13 (by omega), if_pos (nI_le (Nat.le_refl _) (by omega))]
      refine ⟨_, _, rfl, Or.inr ⟨s, rfl, hs, hok, hsb, fun c hc => ?_⟩⟩
      rw [ham c hc]
      by_cases z : G c = 0
      · rw [if_pos z, if_neg (fun q => q.1 z)]
      · rw [if_neg z, if_pos ⟨z, (hV c z).2.2.1⟩]
    | succ m ih =>
      intro d s M' K h1 h2 hL' hf hg hs hsb hok ham
      obtain ⟨K, rfl⟩ : ∃ k, K = k + 1 := ⟨K - 1, by omega⟩
      have hd : d < A 13 := by omega
      have hM' := toM M' hf
      have hs3 := hW.s3 hd
      have L74 : ∀ (q c : Nat) (x : Int32) (y : Bool) (M'' : HS) (K2 : Nat), c + q = A 9 → q < K2 → LnM M'' → fM M'' = fM M → ga M'' 147 = ga M 147 → (y = true ↔ ∃ i, i < c ∧ G i = d + 1) → (wtA A d = true → x = nI (lfA A G d c)) → (∀ i, i < c → G i = d + 1 → GdW A G wz i) → (∀ i, i < A 9 → (ga M'' 148).getD i 0 = nI (if G i ≠ 0 ∧ (G i ≤ d ∨ (G i = d + 1 ∧ i < c)) then amA A G i else 0)) → PrW A G wz (s_X8_pours_L74 (s_X8_pours_L30 (nI wz) K) (nI wz) (nI s) (nI d) K2 x (z1 y) (nI c) M'') := by
        intro q
        induction q with
        | zero =>
          intro c x y M'' K2 g1 g2 hL2 hf2 hg2 hy hx hgd ham2
          obtain ⟨K2, rfl⟩ : ∃ k, K2 = k + 1 := ⟨K2 - 1, by omega⟩
          have ec : c = A 9 := by omega
          subst ec
          have ho := or_bit hs (show d < 20 by omega)
          have ham3 : ∀ i, i < A 9 → (ga M'' 148).getD i 0 = nI (if G i ≠ 0 ∧ G i ≤ d + 1 then amA A G i else 0) := fun i hi => by
            rw [ham2 i hi]
            by_cases u : G i ≠ 0 ∧ (G i ≤ d ∨ (G i = d + 1 ∧ i < A 9))
            · rw [if_pos u, if_pos ⟨u.1, by omega⟩]
            · rw [if_neg u, if_neg (fun w => u ⟨w.1, by omega⟩)]
          rw [s_X8_pours_L74, m_at hL2 (x := 9) (i := 9) rfl (by omega), sb, hf2, hf0 9 (by omega), if_pos (nI_le (Nat.le_refl _) (by omega)), ho.1, ← nI_succ]
          cases hyb : y with
          | false =>
            rw [if_pos (show z1 false = 0 from rfl), if_pos (show z1 false = 0 from rfl)]
            have hno : ¬ ∃ i, i < A 9 ∧ G i = d + 1 := fun w => by
              rw [hyb] at hy
              exact absurd (hy.mpr w) (by decide)
            refine ih (d + 1) s M'' K (by omega) (by omega) hL2 hf2 hg2 hs (fun e => ?_) (fun e he => ?_) ham3
            · rw [hsb e]
              constructor
              · rintro ⟨w1, w2⟩
                exact ⟨by omega, w2⟩
              · rintro ⟨w1, w2⟩
                refine ⟨?_, w2⟩
                by_cases u : e = d
                · subst u
                  exact absurd w2 hno
                · omega
            · by_cases u : e = d
              · subst u
                exact ⟨fun c hc w => absurd ⟨c, hc, w⟩ hno, fun w => absurd w hno⟩
              · exact hok e (by omega)
          | true =>
            have hyes : ∃ i, i < A 9 ∧ G i = d + 1 := hy.mp hyb
            have hwt : wtA A d = true := by
              obtain ⟨i, _, ei⟩ := hyes
              have := (hV i (by omega)).2.2.2
              rw [ei, show d + 1 - 1 = d by omega] at this
              exact decide_eq_true this
            have hl := lf_4995 (G := G) hW hd (A 9)
            rw [if_neg (show ¬ z1 true = 0 by decide), hx hwt]
            by_cases u0 : lfA A G d (A 9) = 0
            · rw [u0, if_pos (show nI 0 ≤ 0 by decide), if_neg (show ¬ z1 true = 0 by decide)]
              refine ih (d + 1) (s ||| 2 ^ d) M'' K (by omega) (by omega) hL2 hf2 hg2 ho.2 (fun e => ?_) (fun e he => ?_) ham3
              · rw [Nat.testBit_or, Nat.testBit_two_pow, Bool.or_eq_true, hsb e, decide_eq_true_iff]
                constructor
                · intro w
                  rcases w with w | w
                  · exact ⟨by omega, w.2⟩
                  · subst w
                    exact ⟨by omega, hyes⟩
                · rintro ⟨w1, w2⟩
                  by_cases u : d = e
                  · exact Or.inr u
                  · exact Or.inl ⟨by omega, w2⟩
              · by_cases u : e = d
                · subst u
                  exact ⟨fun c hc w => hgd c hc w, fun _ => u0⟩
                · exact hok e (by omega)
            · rw [if_neg (show ¬ nI (lfA A G d (A 9)) ≤ 0 from nI_ge (a := 0) (b := lfA A G d (A 9)) (by omega) (by omega))]
              exact ⟨_, _, rfl, Or.inl ⟨rfl, fun w => u0 ((w d hd).2 hyes)⟩⟩
        | succ q ihq =>
          intro c x y M'' K2 g1 g2 hL2 hf2 hg2 hy hx hgd ham2
          obtain ⟨K2, rfl⟩ : ∃ k, K2 = k + 1 := ⟨K2 - 1, by omega⟩
          have hc : c < A 9 := by omega
          have hM2 := toM M'' hf2
          have hgc := hG20 c
          rw [s_X8_pours_L74, m_at hL2 (x := 9) (i := 9) rfl (by omega), sb, hf2, hf0 9 (by omega), if_neg (nI_ge (by omega) (by omega)), ag_ok (nM147 hL2) (by omega) (by omega), sb, hg2, hG c hc, e_mtop hL2 hM2 hW hc, sb, sb, ← nI_succ]
          by_cases z : G c = d + 1
          · have hwt : wtA A d = true := by
              have := (hV c (by omega)).2.2.2
              rw [z, show d + 1 - 1 = d by omega] at this
              exact decide_eq_true this
            have hl := lf_4995 (G := G) hW hd c
            have ht := tp_999 hW hc
            have eam : amA A G c = min (lfA A G d c) (tpA A c) := by
              unfold amA
              rw [z, show d + 1 - 1 = d by omega]
            have hq6 := (hW.1.2.2.2.2.2.2.2.2.2.2.2 d hd).1
            have J : PrW A G wz (s_X8_pours_J122 (s_X8_pours_L30 (nI wz) K) (s_X8_pours_L74 (s_X8_pours_L30 (nI wz) K) (nI wz) (nI s) (nI d) K2) (nI wz) (nI s) (nI d) x (nI c) (nI (amA A G c)) M'') := by
              unfold s_X8_pours_J122
              by_cases z0 : amA A G c = 0
              · rw [z0, if_pos (show nI 0 = 0 from rfl)]
                refine ⟨_, _, rfl, Or.inl ⟨rfl, fun w => ?_⟩⟩
                have := ((w d hd).1 c hc z).1
                omega
              · rw [if_neg (nI_ne0 (n := amA A G c) (by omega) (by omega)), q_its hL2 (by omega) (x := 0) (k := 0) (by omega) rfl, sb, (show fM M'' (57 + 0 + 5 * d) = nI (A (57 + 5 * d)) from hM2 (57 + 5 * d) (by omega)), q_mayComeW hw hL2 hM2 hW hc (by omega), sb]
                cases hb : bW A wz c (A (57 + 5 * d)) with
                | true =>
                  rw [if_neg (show ¬ z1 (!true) ≠ 0 by decide)]
                  refine ⟨_, _, rfl, Or.inl ⟨rfl, fun w => ?_⟩⟩
                  have := ((w d hd).1 c hc z).2
                  rw [z, show d + 1 - 1 = d by omega, hb] at this
                  cases this
                | false =>
                  rw [if_pos (show z1 (!false) ≠ 0 by decide), wa_st (nM148 hL2) (by omega) (by omega), sb, hx hwt, pk_sub (by omega), ← nI_succ]
                  refine ihq (c + 1) _ true _ K2 (by omega) (by omega) hL2.st ?_ ?_ ⟨fun _ => ⟨c, by omega, z⟩, fun _ => rfl⟩ (fun _ => ?_) (fun i hi ei => ?_) (fun i hi => ?_)
                  · rw [← hf2]
                    unfold fM
                    rw [ga_st_ne (by omega)]
                  · rw [ga_st_ne (by omega)]
                    exact hg2
                  · rw [lfA, if_pos z]
                    congr 1
                    omega
                  · by_cases u : i = c
                    · subst u
                      refine ⟨by omega, ?_⟩
                      rw [z, show d + 1 - 1 = d by omega]
                      exact hb
                    · exact hgd i (by omega) ei
                  · by_cases u : i = c
                    · subst u
                      rw [gd_st_eq (nM148 hL2) (by omega), if_pos ⟨by omega, Or.inr ⟨z, by omega⟩⟩]
                    · rw [gd_st (by omega), ham2 i hi]
                      by_cases w : G i ≠ 0 ∧ (G i ≤ d ∨ (G i = d + 1 ∧ i < c))
                      · rw [if_pos w, if_pos ⟨w.1, by omega⟩]
                      · rw [if_neg w, if_neg (fun v => w ⟨v.1, by omega⟩)]
            rw [if_pos ((dn_eq (by omega) (by omega)).mpr z), hx hwt]
            rw [hx hwt] at J
            by_cases u : tpA A c ≤ lfA A G d c
            · rw [if_pos (nI_le u (by omega))]
              rw [eam, Nat.min_eq_right u] at J
              exact J
            · rw [if_neg (nI_ge (by omega) (by omega))]
              rw [eam, Nat.min_eq_left (by omega)] at J
              exact J
          · rw [if_neg (fun w => z ((dn_eq (by omega) (by omega)).mp w))]
            refine ihq (c + 1) x y M'' K2 (by omega) (by omega) hL2 hf2 hg2 ?_ (fun w => ?_) (fun i hi ei => ?_) (fun i hi => ?_)
            · rw [hy]
              constructor
              · rintro ⟨i, hi, ei⟩
                exact ⟨i, by omega, ei⟩
              · rintro ⟨i, hi, ei⟩
                refine ⟨i, ?_, ei⟩
                by_cases u : i = c
                · subst u
                  exact absurd ei z
                · omega
            · rw [lfA, if_neg z]
              exact hx w
            · refine hgd i ?_ ei
              by_cases u : i = c
              · subst u
                exact absurd ei z
              · omega
            · rw [ham2 i hi]
              by_cases w : G i ≠ 0 ∧ (G i ≤ d ∨ (G i = d + 1 ∧ i < c))
              · rw [if_pos w, if_pos ⟨w.1, by omega⟩]
              · rw [if_neg w, if_neg (fun v => w ⟨v.1, by
                  rcases v.2 with r | r
                  · exact Or.inl r
                  · refine Or.inr ⟨r.1, ?_⟩
                    by_cases u : i = c
                    · subst u
                      exact absurd r.1 z
                    · omega⟩)]
      have ham0 : ∀ i, i < A 9 → (ga M' 148).getD i 0 = nI (if G i ≠ 0 ∧ (G i ≤ d ∨ (G i = d + 1 ∧ i < 0)) then amA A G i else 0) := fun i hi => by
        rw [ham i hi]
        by_cases u : G i ≠ 0 ∧ G i ≤ d
        · rw [if_pos u, if_pos ⟨u.1, Or.inl u.2⟩]
        · rw [if_neg u, if_neg (fun w => u ⟨w.1, by omega⟩)]
      have hl : s_X8_loadedOf (nI d) M' = some (nI (ldA A d 5)) := by
        rw [q_mloaded hL' hM' rfl h5 (fun c hc => hW.o20 (by omega)) (by omega), ← ld_5 h5 (fun c h1 h2 => (hW.2.1 c h1 h2).2)]
      rw [s_X8_pours_L30, m_at hL' (x := 13) (i := 13) rfl (by omega), sb, hf, hf0 13 (by omega), if_neg (nI_ge (by omega) (by omega)), q_its hL' (by omega) (x := 2) (k := 2) (by omega) rfl, sb, q_its hL' (by omega) (x := 1) (k := 1) (by omega) rfl, sb, hl, sb, (show fM M' (57 + 2 + 5 * d) = nI (A (59 + 5 * d)) from hM' (59 + 5 * d) (by omega)), (show fM M' (57 + 1 + 5 * d) = nI (A (58 + 5 * d)) from hM' (58 + 5 * d) (by omega))]
      have hy0 : (false = true ↔ ∃ i, i < 0 ∧ G i = d + 1) := ⟨fun w => absurd w (by decide), fun ⟨i, w, _⟩ => absurd w (Nat.not_lt_zero _)⟩
      by_cases z : A (59 + 5 * d) = 0
      · have hle : ldA A d 5 ≤ A (58 + 5 * d) := by
          rcases hW.2.2.2.1 d hd with w | w | w
          · omega
          · omega
          · omega
        rw [z, if_neg (show ¬ nI 0 ≠ 0 by decide), pk_sub hle]
        exact L74 (A 9) 0 _ false M' 40 (by omega) (by omega) hL' hf hg hy0 (fun _ => rfl) (fun i hi => absurd hi (Nat.not_lt_zero _)) ham0
      · rw [if_pos (nI_ne0 (n := A (59 + 5 * d)) (by omega) (by omega))]
        refine L74 (A 9) 0 _ false M' 40 (by omega) (by omega) hL' hf hg hy0 (fun w => ?_) (fun i hi => absurd hi (Nat.not_lt_zero _)) ham0
        exact absurd (of_decide_eq_true w) z
  have L4 : ∀ (m c : Nat) (M' : HS) (K : Nat), c + m = A 9 → m < K → LnM M' → fM M' = fM M → ga M' 147 = ga M 147 → (∀ i, i < c → (ga M' 148).getD i 0 = 0) → PrW A G wz (s_X8_pours_L4 (nI wz) 0 K (nI c) M') := by
    intro m
    induction m with
    | zero =>
      intro c M' K h1 h2 hL' hf hg hz
      obtain ⟨K, rfl⟩ : ∃ k, K = k + 1 := ⟨K - 1, by omega⟩
      rw [s_X8_pours_L4, m_at hL' (x := 9) (i := 9) rfl (by omega), sb, hf, hf0 9 (by omega), if_pos (nI_le (by omega) (by omega))]
      refine L30 (A 13) 0 0 M' 40 (by omega) (by omega) hL' hf hg (by omega) (fun e => ?_) (fun e he => absurd he (Nat.not_lt_zero _)) (fun i hi => ?_)
      · rw [Nat.zero_testBit]
        exact ⟨fun w => absurd w (by decide), fun w => absurd w.1 (Nat.not_lt_zero _)⟩
      · rw [hz i (by omega), if_neg (fun w => w.1 (by omega))]
        rfl
    | succ m ih =>
      intro c M' K h1 h2 hL' hf hg hz
      obtain ⟨K, rfl⟩ : ∃ k, K = k + 1 := ⟨K - 1, by omega⟩
      rw [s_X8_pours_L4, m_at hL' (x := 9) (i := 9) rfl (by omega), sb, hf, hf0 9 (by omega), if_neg (nI_ge (by omega) (by omega)), wa_st (nM148 hL') (by omega) (by omega), sb, ← nI_succ]
      refine ih (c + 1) _ K (by omega) (by omega) hL'.st ?_ ?_ (fun i hi => ?_)
      · rw [← hf]
        unfold fM
        rw [ga_st_ne (by omega)]
      · rw [ga_st_ne (by omega)]
        exact hg
      · by_cases u : i = c
        · subst u
          rw [gd_st_eq (nM148 hL') (by omega)]
        · rw [gd_st (by omega)]
          exact hz i (by omega)
  exact L4 (A 9) 0 M 40 (by omega) (by omega) hL rfl rfl (fun i hi => absurd hi (Nat.not_lt_zero _))
theorem e_looksW {M : HS} {A G : Nat → Nat} {wz : Nat} (hw : wz < 32) (hW : Wf A) (hP : PMd M A G (A 9)) (hV : GVa A G (A 9)) (hK : PkW A G wz) : ∃ s M3, s < 2 ^ 20 ∧ (∀ d, s.testBit d = true ↔ d < A 13 ∧ ∃ c, c < A 9 ∧ G c = d + 1) ∧ PMd M3 A G (A 9) ∧ (∀ c, c < A 9 → LC M3 (layA A G) c) ∧ BsM M M3 ∧ (∀ c, c < A 9 → (ga M3 148).getD c 0 = nI (if G c = 0 then 0 else amA A G c)) ∧ s_X8_looks (nI wz) M = (if nI (rnk (fun d => s.testBit d) 20) < gf M 137 26 then some M3 else if nI (rnk (fun d => s.testBit d) 20) ≠ gf M 137 26 then s_X8_looks_J160 (nI s) (nI (rnk (fun d => s.testBit d) 20)) (nI (rnk (fun c => decide (G c ≠ 0)) (A 9))) M3 else if nI (rnk (fun c => decide (G c ≠ 0)) (A 9)) < gf M 137 27 then s_X8_looks_J160 (nI s) (nI (rnk (fun d => s.testBit d) 20)) (nI (rnk (fun c => decide (G c ≠ 0)) (A 9))) M3 else some M3) := by
  have h5 := hW.1.1
  have h20 := hW.1.2.2.2.2.1
  obtain ⟨v, M1, e1, hv⟩ := q_poursW hw hP.1 hP.2.1 hW hP.2.2 hV
  have f1 := fs_X8_pours fr_rf _ e1
  rcases hv with hvn | ⟨s, ev, hs, _, hsb, ham⟩
  · exact absurd hK hvn.2
  have hL1 := hP.1.fr f1
  have hM1 : RMt M1 139 A := hP.2.1.fr f1 (by unfold wU; omega)
  have g147 : ga M1 147 = ga M 147 := f1.2.2.1 147 (by unfold wU; omega)
  obtain ⟨M2, e2, f2, lc2⟩ := x_laysNow hL1 hM1 rfl h5 (fun c hc => hW.o20 (by omega))
  have L52 : ∀ (m c : Nat) (M' : HS) (K : Nat), c + m = A 9 → m < K → Fr wN M1 M' → (∀ i, i < c → LC M' (layA A G) i) → (∀ i, c ≤ i → i < A 9 → LC M' A i) → ∃ M3, Fr wN M1 M3 ∧ (∀ i, i < A 9 → LC M3 (layA A G) i) ∧ s_X8_looks_L52 (nI s) (nI (rnk (fun d => s.testBit d) 20)) K (nI (rnk (fun c => decide (G c ≠ 0)) c)) (nI c) M' = (if nI (rnk (fun d => s.testBit d) 20) < gf M 137 26 then some M3 else if nI (rnk (fun d => s.testBit d) 20) ≠ gf M 137 26 then s_X8_looks_J160 (nI s) (nI (rnk (fun d => s.testBit d) 20)) (nI (rnk (fun c => decide (G c ≠ 0)) (A 9))) M3 else if nI (rnk (fun c => decide (G c ≠ 0)) (A 9)) < gf M 137 27 then s_X8_looks_J160 (nI s) (nI (rnk (fun d => s.testBit d) 20)) (nI (rnk (fun c => decide (G c ≠ 0)) (A 9))) M3 else some M3) := by
    intro m
    induction m with
    | zero =>
      intro c M' K h1 h2 f hlo hhi
      obtain ⟨K, rfl⟩ : ∃ k, K = k + 1 := ⟨K - 1, by omega⟩
      have ec : c = A 9 := by omega
      subst ec
      have hL' := hL1.fr f
      have hM' : RMt M' 139 A := hM1.fr f (by unfold wN; omega)
      have g26 : gf M' 137 26 = gf M 137 26 := ((f.1 137 26 (by unfold wN; omega)).1).trans (f1.1 137 26 (by unfold wU; omega)).1
      have g27 : gf M' 137 27 = gf M 137 27 := ((f.1 137 27 (by unfold wN; omega)).1).trans (f1.1 137 27 (by unfold wU; omega)).1
      refine ⟨M', f, fun i hi => hlo i (by omega), ?_⟩
      rw [s_X8_looks_L52, m_at hL' (x := 9) (i := 9) rfl (by omega), sb, (show fM M' 9 = nI (A 9) from hM' 9 (by omega)), if_pos (nI_le (Nat.le_refl _) (by omega)), g26, g27]
    | succ m ih =>
      intro c M' K h1 h2 f hlo hhi
      obtain ⟨K, rfl⟩ : ∃ k, K = k + 1 := ⟨K - 1, by omega⟩
      have hL' := hL1.fr f
      have hM' : RMt M' 139 A := hM1.fr f (by unfold wN; omega)
      have g7 : (ga M' 147).getD c 0 = dn (G c) := by
        rw [f.2.2.1 147 (by unfold wN; omega), g147]
        exact hP.2.2 c (by omega)
      have g8 : (ga M' 148).getD c 0 = nI (if G c = 0 then 0 else amA A G c) := by
        rw [f.2.2.1 148 (by unfold wN; omega)]
        exact ham c (by omega)
      obtain ⟨l0, l1, l2⟩ := lay_c (A := A) (G := G) (c := c) (by omega)
      have lq := lq_lay (A := A) (G := G) (c := c) (by omega)
      rw [s_X8_looks_L52, m_at hL' (x := 9) (i := 9) rfl (by omega), sb, (show fM M' 9 = nI (A 9) from hM' 9 (by omega)), if_neg (nI_ge (by omega) (by omega)), ag_ok (nM147 hL') (by omega) (by omega), sb, g7, ← nI_succ, ← nI_succ]
      by_cases z : G c = 0
      · rw [z, dn_0, if_neg (show ¬ (-1 : Int32) ≠ -1 by decide)]
        have nx := ih (c + 1) M' K (by omega) (by omega) f (fun i hi => ?_) (fun i hi h3 => hhi i (by omega) h3)
        · have er : rnk (fun c => decide (G c ≠ 0)) (c + 1) = rnk (fun c => decide (G c ≠ 0)) c := by
            show rnk (fun c => decide (G c ≠ 0)) c + (if decide (G c ≠ 0) = true then 1 else 0) = _
            rw [decide_eq_false (show ¬ G c ≠ 0 from fun q => q z)]
            rfl
          rw [er] at nx
          exact nx
        · by_cases u : i = c
          · subst u
            have := hhi i (Nat.le_refl _) (by omega)
            unfold LC at this ⊢
            rw [l0, l1, lq, if_pos z, if_pos z, if_pos z]
            exact this
          · exact hlo i (by omega)
      · obtain ⟨d, ed⟩ : ∃ d, G c = d + 1 := ⟨G c - 1, by omega⟩
        obtain ⟨_, v2, v3, v4⟩ := hV c z
        have nm : nI d ≠ (-1 : Int32) := nI_nm (by omega)
        rw [if_neg z] at g8
        have hM3 : ∀ x, RMt (st (st M' 142 c x) 144 c (nI d)) 139 A := fun x i hi => by
          rw [ga_st_ne (by omega), ga_st_ne (by omega)]
          exact hM' i hi
        rw [ed, dn_s] at g7
        rw [ed, dn_s, if_pos nm, ag_ok (nM148 hL') (by omega) (by omega), sb, g8, wa_st (nM142 hL') (by omega) (by omega), sb, ag_ok (nM147 hL'.st) (by omega) (by omega), sb, gd_st (by omega), g7, wa_st (nM144 hL'.st) (by omega) (by omega), sb, ag_ok (nM147 hL'.st.st) (by omega) (by omega), sb, gd_st (by omega), gd_st (by omega), g7, q_its hL'.st.st (by omega) (x := 0) (k := 0) (by omega) rfl, sb, (show fM (st (st M' 142 c (nI (amA A G c))) 144 c (nI d)) (57 + 0 + 5 * d) = nI (A (57 + 5 * d)) from hM3 _ (57 + 5 * d) (by omega)), wa_st (nM143 hL'.st.st) (by omega) (by omega), sb]
        have nx := ih (c + 1) (st (st (st M' 142 c (nI (amA A G c))) 144 c (nI d)) 143 c (nI (A (57 + 5 * d)))) K (by omega) (by omega) (fr_st (fr_st (fr_st f (by unfold wN; omega)) (by unfold wN; omega)) (by unfold wN; omega)) (fun i hi => ?_) (fun i hi h3 => ?_)
        · have er : rnk (fun c => decide (G c ≠ 0)) (c + 1) = rnk (fun c => decide (G c ≠ 0)) c + 1 := by
            show rnk (fun c => decide (G c ≠ 0)) c + (if decide (G c ≠ 0) = true then 1 else 0) = _
            rw [decide_eq_true (show G c ≠ 0 from z)]
            rfl
          rw [er] at nx
          exact nx
        · by_cases u : i = c
          · subst u
            unfold LC
            rw [l0, l1, lq, if_neg z, if_neg z, if_neg z, ed, dn_s, show d + 1 - 1 = d by omega]
            refine ⟨?_, ?_, ?_⟩
            · rw [gd_st (by omega), gd_st (by omega), gd_st_eq (nM142 hL') (by omega)]
            · rw [gd_st_eq (nM143 hL'.st.st) (by omega)]
            · rw [gd_st (by omega), gd_st_eq (nM144 hL'.st) (by omega)]
          · have := hlo i (by omega)
            unfold LC at this ⊢
            rw [gd_st (by omega), gd_st (by omega), gd_st (by omega), gd_st (by omega), gd_st (by omega), gd_st (by omega), gd_st (by omega), gd_st (by omega), gd_st (by omega)]
            exact this
        · have := hhi i (by omega) h3
          unfold LC at this ⊢
          rw [gd_st (by omega), gd_st (by omega), gd_st (by omega), gd_st (by omega), gd_st (by omega), gd_st (by omega), gd_st (by omega), gd_st (by omega), gd_st (by omega)]
          exact this
  obtain ⟨M3, f3, lc3, e3⟩ := L52 (A 9) 0 M2 40 (by omega) (by omega) f2 (fun i hi => absurd hi (Nat.not_lt_zero _)) (fun i _ hi => lc2 i hi)
  have L17 : ∀ (m d : Nat) (K : Nat), d + m = 20 → m < K → s_X8_looks_L17 (nI s) K (nI (rnk (fun d => s.testBit d) d)) (nI d) M1 = s_X8_looks_L52 (nI s) (nI (rnk (fun d => s.testBit d) 20)) 40 0 0 M2 := by
    intro m
    induction m with
    | zero =>
      intro d K h1 h2
      obtain ⟨K, rfl⟩ : ∃ k, K = k + 1 := ⟨K - 1, by omega⟩
      have ed : d = 20 := by omega
      subst ed
      rw [s_X8_looks_L17, if_pos (show (20 : Int32) ≤ nI 20 by decide), e2, sb]
    | succ m ih =>
      intro d K h1 h2
      obtain ⟨K, rfl⟩ : ∃ k, K = k + 1 := ⟨K - 1, by omega⟩
      have nx := ih (d + 1) K (by omega) (by omega)
      rw [rnk] at nx
      rw [s_X8_looks_L17, if_neg (show ¬ (20 : Int32) ≤ nI d from nI_ge (b := 20) (by omega) (by omega)), q_has, sb, hasB_nI (by omega) (by omega), ← nI_succ, ← nI_succ]
      cases hb : s.testBit d with
      | true =>
        rw [if_neg (show ¬ z1 true = 0 by decide)]
        rw [hb] at nx
        exact nx
      | false =>
        rw [if_pos (show z1 false = 0 from rfl)]
        rw [hb] at nx
        exact nx
  have hMd : PMd M3 A G (A 9) := ⟨hL1.fr f3, hM1.fr f3 (by unfold wN; omega), fun c hc => by
    rw [f3.2.2.1 147 (by unfold wN; omega), g147]
    exact hP.2.2 c hc⟩
  refine ⟨s, M3, hs, hsb, hMd, lc3, BsM.tr (BsM.fr f1 (by unfold wU; omega)) (BsM.fr f3 (by unfold wN; omega)), fun c hc => ?_, ?_⟩
  · rw [f3.2.2.1 148 (by unfold wN; omega)]
    exact ham c hc
  · unfold s_X8_looks
    rw [e1, sb, ev, if_pos (show nI s ≠ (-1 : Int32) from nI_nm (by omega)), (show s_X8_looks_L17 (nI s) 40 0 0 M1 = _ from L17 20 0 40 (by omega) (by omega))]
    exact e3
