/-! the model's washes: the least number that do -/
theorem rnk_imp {p q : Nat → Bool} : ∀ n, (∀ i, i < n → p i = true → q i = true) → rnk p n ≤ rnk q n := by
  intro n
  induction n with
  | zero => intro _; exact Nat.le_refl _
  | succ n ih =>
    intro h
    have h1 := ih (fun i hi => h i (by omega))
    rw [rnk, rnk]
    by_cases z : p n = true
    · rw [if_pos z, if_pos (h n (by omega) z)]
      omega
    · rw [if_neg z]
      omega
theorem rnk_all {p q : Nat → Bool} : ∀ n, (∀ i, i < n → p i = true → q i = true) → rnk p n = rnk q n → ∀ i, i < n → q i = true → p i = true := by
  intro n
  induction n with
  | zero => intro _ _ i hi; omega
  | succ n ih =>
    intro h he i hi hq
    have h1 := rnk_imp n (fun i hi => h i (by omega))
    have hs : rnk p n + (if p n = true then 1 else 0) = rnk q n + (if q n = true then 1 else 0) := he
    by_cases z : p n = true
    · rw [if_pos z, if_pos (h n (by omega) z)] at hs
      by_cases u : i = n
      · rw [u]
        exact z
      · exact ih (fun i hi => h i (by omega)) (by omega) i (by omega) hq
    · rw [if_neg z] at hs
      by_cases y : q n = true
      · rw [if_pos y] at hs
        omega
      · rw [if_neg y] at hs
        by_cases u : i = n
        · rw [u] at hq
          exact absurd hq y
        · exact ih (fun i hi => h i (by omega)) (by omega) i (by omega) hq
theorem sc_wt {A G : Nat → Nat} (hV : GVa A G (A 9)) {d : Nat} (h : ex (fun c => decide (G c = d + 1)) (A 9) 0 = true) : wtA A d = true := by
  obtain ⟨c, hc, ec⟩ := sc_bit.mp h
  have := (hV c (by omega)).2.2.2
  rw [ec, show d + 1 - 1 = d by omega] at this
  exact decide_eq_true this
theorem sc_le {A G : Nat → Nat} (hV : GVa A G (A 9)) : scN A G ≤ rnk (wtA A) (A 13) := rnk_imp (A 13) (fun d _ q => sc_wt hV q)
def muS (A : Nat → Nat) (w : Nat) : Prop := ∃ H, VGw A H w ∧ scN A H = rnk (wtA A) (A 13)
theorem e_lplan {M : HS} {A : Nat → Nat} {w : Nat} (hw : w < 32) (hW : Wf A) (hL : LnM M) (hM : RMt M 139 A) : ∃ M1, s_X8_laysPlan (nI w) M = some M1 ∧ LnM M1 ∧ RMt M1 139 A ∧ (gf M1 137 26 = nI (rnk (wtA A) (A 13)) ↔ muS A w) := by
  have h20 := hW.1.2.2.2.2.1
  have h4 := wt4 hW
  have lp : ∀ (m c : Nat) (M' : HS) (K : Nat), c + m = 5 → m < K → LnM M' → RMt M' 139 A → gf M' 137 26 = -1 → ∃ M1, s_X8_laysPlan_L12 (nI w) K (nI c) M' = some M1 ∧ LnM M1 ∧ RMt M1 139 A ∧ (gf M1 137 26 = nI (rnk (wtA A) (A 13)) ↔ muS A w) := by
    intro m
    induction m with
    | zero =>
      intro c M' K h1 h2 hL' hM' g26
      obtain ⟨K, rfl⟩ : ∃ k, K = k + 1 := ⟨K - 1, by omega⟩
      obtain ⟨M2, b, e2, p2, g2, _, hb21, hm, ha⟩ := m_tries hw hW 8 0 (fun _ => 0) M' 0 ⟨hL', hM', fun c hc => absurd hc (Nat.not_lt_zero _)⟩ (fun c hc => absurd rfl hc) (by rw [g26, dn_0]) (by omega) (by omega) (by have := hW.1.1; omega)
      rw [s_X8_laysPlan_L12, if_pos (show (5 : Int32) ≤ nI c from nI_le (a := 5) (by omega) (by omega)), (show s_X8_tries 8 0 (nI w) M' = _ from e2), sb]
      refine ⟨M2, rfl, p2.1, p2.2.1, ?_⟩
      rw [g2, dn_eq (by omega) (by omega)]
      constructor
      · intro q
        rcases ha with r | ⟨H, hv, r⟩
        · omega
        · exact ⟨H, hv, by omega⟩
      · rintro ⟨H, hv, r⟩
        have q1 := hm H (fun c hc => absurd hc (Nat.not_lt_zero _)) hv
        rcases ha with r2 | ⟨H2, hv2, r2⟩
        · omega
        · have := sc_le hv2.1
          omega
    | succ m ih =>
      intro c M' K h1 h2 hL' hM' g26
      obtain ⟨K, rfl⟩ : ∃ k, K = k + 1 := ⟨K - 1, by omega⟩
      rw [s_X8_laysPlan_L12, if_neg (show ¬ (5 : Int32) ≤ nI c from nI_ge (b := 5) (by omega) (by omega)), wa_st (nM147 hL') (by omega) (by omega), sb, wa_st (nM149 hL'.st) (by omega) (by omega), sb, wa_st (nM150 hL'.st.st) (by omega) (by omega), sb, ← nI_succ]
      refine ih (c + 1) _ K (by omega) (by omega) hL'.st.st.st (fun i hi => ?_) g26
      rw [ga_st_ne (by omega), ga_st_ne (by omega), ga_st_ne (by omega)]
      exact hM' i hi
  obtain ⟨M1, e, r⟩ := lp 5 0 (sf (sf M 137 26 (-1)) 137 27 0) 40 (by omega) (by omega) hL hM (by rw [gf_sf, if_neg (by omega), gf_sf, if_pos ⟨rfl, rfl⟩])
  refine ⟨M1, ?_, r⟩
  unfold s_X8_laysPlan
  rw [pf_ok, sb, pf_ok, sb]
  exact e
def empA (A : Nat → Nat) : Nat := orN (fun c => decide (A (31 + 6 * c) = 0)) (A 9)
/-- what is known of the least number once the sets below s were tried -/
def WBr (A : Nat → Nat) (s : Nat) (x : Int32) : Prop := (x = -2 ∧ ∀ e, e < s → e ||| empA A = empA A → ¬ muS A e) ∨ ∃ n, n ≤ 5 ∧ x = nI n ∧ (∃ e, e < s ∧ e ||| empA A = empA A ∧ muS A e ∧ rnk (fun i => e.testBit i) 5 = n) ∧ ∀ e, e < s → e ||| empA A = empA A → muS A e → n ≤ rnk (fun i => e.testBit i) 5
theorem sub_iff {s e : Nat} (hs : s < 32) (he : e < 32) : (nI s &&& (nI e ^^^ (-1 : Int32))) = 0 ↔ s ||| e = e := (by decide +kernel : ∀ s e : Fin 32, (nI s.val &&& (nI e.val ^^^ (-1 : Int32))) = 0 ↔ s.val ||| e.val = e.val) ⟨s, hs⟩ ⟨e, he⟩
theorem m_washes {M : HS} {A : Nat → Nat} (hW : Wf A) (hL : LnM M) (hM : RMt M 139 A) : ∃ v M1, s_X8_washes M = some (v, M1) ∧ WBr A 32 v := by
  have h5 := hW.1.1
  have h4 := wt4 hW
  have he32 : empA A < 32 := Nat.lt_of_lt_of_le (orN_lt (A 9)) (Nat.pow_le_pow_right (n := 2) (by decide) h5)
  have L46 : ∀ (m s : Nat) (x : Int32) (M' : HS) (K : Nat), s + m = 32 → m < K → LnM M' → RMt M' 139 A → WBr A s x → ∃ v M1, s_X8_washes_L46 (nI (empA A)) K x (nI s) M' = some (v, M1) ∧ WBr A 32 v := by
    intro m
    induction m with
    | zero =>
      intro s x M' K h1 h2 hL' hM' hx
      obtain ⟨K, rfl⟩ : ∃ k, K = k + 1 := ⟨K - 1, by omega⟩
      have es : s = 32 := by omega
      subst es
      rw [s_X8_washes_L46, if_pos (show (32 : Int32) ≤ nI 32 by decide)]
      exact ⟨x, M', rfl, hx⟩
    | succ m ih =>
      intro s x M' K h1 h2 hL' hM' hx
      obtain ⟨K, rfl⟩ : ∃ k, K = k + 1 := ⟨K - 1, by omega⟩
      have hb5 : rnk (fun i => s.testBit i) 5 ≤ 5 := rnk_le_n 5
      -- the set changes nothing
      have skip : (s ||| empA A = empA A → muS A s → ∃ n, x = nI n ∧ n ≤ 5 ∧ n ≤ rnk (fun i => s.testBit i) 5) → WBr A (s + 1) x := by
        intro hno
        rcases hx with ⟨q1, q2⟩ | ⟨n, q1, q2, ⟨e, e1, e2, e3, e4⟩, q3⟩
        · refine Or.inl ⟨q1, fun e he hs hmu => ?_⟩
          by_cases u : e = s
          · subst u
            obtain ⟨n, en, hn5, _⟩ := hno hs hmu
            rw [q1] at en
            exact nI_pos (n := n) (by omega) (by rw [← en]; decide)
          · exact q2 e (by omega) hs hmu
        · refine Or.inr ⟨n, q1, q2, ⟨e, by omega, e2, e3, e4⟩, fun e he hs hmu => ?_⟩
          by_cases u : e = s
          · subst u
            obtain ⟨n', en, hn5, hle⟩ := hno hs hmu
            rw [q2] at en
            have := (nI_eq (by omega) (by omega)).mp en
            omega
          · exact q3 e (by omega) hs hmu
      have nx : ∀ x' M2, LnM M2 → RMt M2 139 A → WBr A (s + 1) x' → ∃ v M1, s_X8_washes_L46 (nI (empA A)) K x' (nI (s + 1)) M2 = some (v, M1) ∧ WBr A 32 v := fun x' M2 l2 m2 hx' => ih (s + 1) x' M2 K (by omega) (by omega) l2 m2 hx'
      have J : s ||| empA A = empA A → (x = -2 ∨ ∃ n, x = nI n ∧ n ≤ 5 ∧ rnk (fun i => s.testBit i) 5 < n) → ∃ v M1, s_X8_washes_J105 (s_X8_washes_L46 (nI (empA A)) K) (nI (empA A)) x (nI s) (nI (rnk (fun i => s.testBit i) 5)) M' = some (v, M1) ∧ WBr A 32 v := by
        intro hsub hlt
        obtain ⟨M2, e2, l2, m2, hmu⟩ := e_lplan (w := s) (by omega) hW hL' hM'
        have hv := q_having l2 m2 hW
        rw [← rnk_cnt] at hv
        unfold s_X8_washes_J105
        rw [e2, sb, hv, sb, ← nI_succ]
        by_cases z : muS A s
        · rw [if_neg (fun q => q (hmu.mpr z))]
          refine nx _ M2 l2 m2 (Or.inr ⟨rnk (fun i => s.testBit i) 5, hb5, rfl, ⟨s, by omega, hsub, z, rfl⟩, fun e he hs hmu2 => ?_⟩)
          by_cases u : e = s
          · rw [u]
            exact Nat.le_refl _
          · rcases hx with ⟨q1, q2⟩ | ⟨n, q1, q2, _, q3⟩
            · exact absurd hmu2 (q2 e (by omega) hs)
            · have h3 := q3 e (by omega) hs hmu2
              rcases hlt with r | ⟨n', en, hn5, r⟩
              · exfalso
                rw [q2] at r
                exact nI_pos (n := n) (by omega) (by rw [r]; decide)
              · rw [q2] at en
                have := (nI_eq (by omega) (by omega)).mp en
                omega
        · rw [if_pos (show gf M2 137 26 ≠ nI (rnk (fun d => decide (A (59 + 5 * d) = 0)) (A 13)) from fun q => z (hmu.mp q))]
          exact nx x M2 l2 m2 (skip (fun _ q => absurd q z))
      have L58 : ∀ (p c : Nat) (K2 : Nat), c + p = 5 → p < K2 → ∃ v M1, s_X8_washes_L58 (s_X8_washes_L46 (nI (empA A)) K) (nI (empA A)) x (nI s) K2 (nI (rnk (fun i => s.testBit i) c)) (nI c) M' = some (v, M1) ∧ WBr A 32 v := by
        intro p
        induction p with
        | zero =>
          intro c K2 g1 g2
          obtain ⟨K2, rfl⟩ : ∃ k, K2 = k + 1 := ⟨K2 - 1, by omega⟩
          have ec : c = 5 := by omega
          subst ec
          rw [s_X8_washes_L58, if_pos (show (5 : Int32) ≤ nI 5 by decide), ← nI_succ]
          by_cases hsub : s ||| empA A = empA A
          · rw [if_neg (fun q => q ((sub_iff (by omega) he32).mpr hsub))]
            rcases hx with ⟨q1, q2⟩ | ⟨n, q1, q2, q4, q3⟩
            · rw [if_pos q1]
              exact J hsub (Or.inl q1)
            · rw [if_neg (show ¬ x = (-2 : Int32) from fun r => by
                rw [q2] at r
                exact nI_pos (n := n) (by omega) (by rw [r]; decide))]
              by_cases u : rnk (fun i => s.testBit i) 5 < n
              · rw [q2, if_pos (nI_lt u (by omega)), ← q2]
                exact J hsub (Or.inr ⟨n, q2, q1, u⟩)
              · rw [q2, if_neg (nI_nlt (by omega) (by omega)), ← q2]
                exact nx x M' hL' hM' (skip (fun _ _ => ⟨n, q2, q1, by omega⟩))
          · rw [if_pos (fun q => hsub ((sub_iff (by omega) he32).mp q))]
            exact nx x M' hL' hM' (skip (fun q => absurd q hsub))
        | succ p ihp =>
          intro c K2 g1 g2
          obtain ⟨K2, rfl⟩ : ∃ k, K2 = k + 1 := ⟨K2 - 1, by omega⟩
          have nx2 := ihp (c + 1) K2 (by omega) (by omega)
          have er : rnk (fun i => s.testBit i) (c + 1) = rnk (fun i => s.testBit i) c + if s.testBit c = true then 1 else 0 := rfl
          rw [er] at nx2
          rw [s_X8_washes_L58, if_neg (show ¬ (5 : Int32) ≤ nI c from nI_ge (b := 5) (by omega) (by omega)), q_has, sb, hasB_nI (by omega) (by omega), ← nI_succ, ← nI_succ]
          cases hb : s.testBit c with
          | true =>
            rw [if_neg (show ¬ z1 true = 0 by decide)]
            rw [hb] at nx2
            exact nx2
          | false =>
            rw [if_pos (show z1 false = 0 from rfl)]
            rw [hb] at nx2
            exact nx2
      rw [s_X8_washes_L46, if_neg (show ¬ (32 : Int32) ≤ nI s from nI_ge (b := 32) (by omega) (by omega))]
      exact L58 5 0 40 (by omega) (by omega)
  have L9 : ∀ (m c : Nat) (K : Nat), c + m = A 9 → m < K → ∃ v M1, s_X8_washes_L9 K (nI (orN (fun c => decide (A (31 + 6 * c) = 0)) c)) (nI c) (sf M 137 0 0) = some (v, M1) ∧ WBr A 32 v := by
    intro m
    induction m with
    | zero =>
      intro c K h1 h2
      obtain ⟨K, rfl⟩ : ∃ k, K = k + 1 := ⟨K - 1, by omega⟩
      have ec : c = A 9 := by omega
      subst ec
      have hL0 : LnM (sf M 137 0 0) := hL
      rw [s_X8_washes_L9, m_at hL0 (x := 9) (i := 9) rfl (by omega), sb, (show fM (sf M 137 0 0) 9 = nI (A 9) from hM 9 (by omega)), if_pos (nI_le (Nat.le_refl _) (by omega))]
      exact L46 32 0 (-2) _ 40 (by omega) (by omega) hL hM (Or.inl ⟨rfl, fun e he => absurd he (Nat.not_lt_zero _)⟩)
    | succ m ih =>
      intro c K h1 h2
      obtain ⟨K, rfl⟩ : ∃ k, K = k + 1 := ⟨K - 1, by omega⟩
      have hL0 : LnM (sf M 137 0 0) := hL
      have ho := hW.o20 (c := c) (by omega)
      have nx := ih (c + 1) K (by omega) (by omega)
      have hor := or_bit (g := orN (fun c => decide (A (31 + 6 * c) = 0)) c) (d := c) (Nat.lt_of_lt_of_le (orN_lt c) (Nat.pow_le_pow_right (by decide) (by omega))) (by omega)
      rw [orN] at nx
      rw [s_X8_washes_L9, m_at hL0 (x := 9) (i := 9) rfl (by omega), sb, (show fM (sf M 137 0 0) 9 = nI (A 9) from hM 9 (by omega)), if_neg (nI_ge (by omega) (by omega)), q_holds hL0 (by omega) (x := 4) (k := 4) (by omega) rfl, sb, (show fM (sf M 137 0 0) (27 + 4 + 6 * c) = nI (A (31 + 6 * c)) from hM (31 + 6 * c) (by omega)), hor.1, ← nI_succ]
      by_cases z : A (31 + 6 * c) = 0
      · rw [if_pos (decide_eq_true z)] at nx
        rw [z, if_neg (show ¬ nI 0 ≠ 0 by decide)]
        exact nx
      · rw [if_neg (show ¬ decide (A (31 + 6 * c) = 0) = true by rw [decide_eq_false z]; decide)] at nx
        rw [if_pos (nI_ne0 (n := A (31 + 6 * c)) (by omega) (by omega))]
        exact nx
  unfold s_X8_washes
  rw [pf_ok, sb]
  exact L9 (A 9) 0 40 (by omega) (by omega)
/-! deals that serve all that wait -/
def brG (A G : Nat → Nat) (c : Nat) : Bool := decide (G c ≠ 0) && bA A c (A (57 + 5 * (G c - 1)))
def wcA (A G : Nat → Nat) : Nat := rnk (brG A G) (A 9)
def VAl (A G : Nat → Nat) : Prop := GVa A G (A 9) ∧ (∀ c, c < A 9 → G c ≠ 0 → 0 < amA A G c) ∧ (∀ d, d < A 13 → wtA A d = true → lfA A G d (A 9) = 0) ∧ lawG A G
def WVl (A : Nat → Nat) (v : Int32) : Prop := (v = -2 ∧ ∀ G, ¬ VAl A G) ∨ ∃ n, n ≤ 5 ∧ v = nI n ∧ (∃ G, VAl A G ∧ wcA A G = n) ∧ ∀ G, VAl A G → n ≤ wcA A G
theorem wv_uniq {A : Nat → Nat} {v x : Int32} (h : WVl A v) (g : WVl A x) : v = x := by
  rcases h with ⟨h1, h2⟩ | ⟨n, h0, h1, ⟨G, hG, eG⟩, h2⟩
  · rcases g with ⟨g1, _⟩ | ⟨m, _, _, ⟨H, hH, _⟩, _⟩
    · rw [h1, g1]
    · exact absurd hH (h2 H)
  · rcases g with ⟨_, g2⟩ | ⟨m, g0, g1, ⟨H, hH, eH⟩, g2⟩
    · exact absurd hG (g2 G)
    · have a := h2 H hH
      have b := g2 G hG
      rw [h1, g1]
      congr 1
      omega
theorem val_mu {A G : Nat → Nat} (hW : Wf A) (h : VAl A G) : muS A (orN (brG A G) (A 9)) := by
  obtain ⟨hV, ham, hlf, hl⟩ := h
  refine ⟨G, ⟨hV, fun d hd => ⟨fun c hc ec => ⟨ham c hc (by omega), ?_⟩, fun hs => ?_⟩, hl⟩, ?_⟩
  · unfold bW
    rw [orN_bit, decide_eq_true hc, Bool.true_and]
    unfold brG
    rw [decide_eq_true (show G c ≠ 0 by omega), Bool.true_and]
    cases bA A c (A (57 + 5 * (G c - 1))) <;> rfl
  · obtain ⟨c, hc, ec⟩ := hs
    have hw := (hV c (by omega)).2.2.2
    rw [ec, show d + 1 - 1 = d by omega] at hw
    exact hlf d hd (decide_eq_true hw)
  · unfold scN
    refine rnk_congr _ (fun d hd => Bool.eq_iff_iff.mpr ⟨fun q => sc_wt hV q, fun q => ?_⟩)
    rw [sc_bit]
    have h0 := hlf d hd q
    have hs0 := of_decide_eq_true q
    have hlk : 0 < lkA A d := by
      unfold lkA
      rcases hW.2.2.2.1 d hd with w | w | w
      · omega
      · omega
      · omega
    exact lf_some (A := A) (A 9) (by omega)
theorem mu_val {A : Nat → Nat} {w : Nat} (hW : Wf A) (h : muS A w) : ∃ G, VAl A G ∧ wcA A G ≤ rnk (fun i => w.testBit i) 5 := by
  have h5 := hW.1.1
  obtain ⟨G, ⟨hV, hK, hl⟩, hsc⟩ := h
  have hall := rnk_all (A 13) (fun d _ q => sc_wt hV q) hsc
  refine ⟨G, ⟨hV, fun c hc hz => ?_, fun d hd hw => ?_, hl⟩, ?_⟩
  · have h3 := (hV c hz).2.2.1
    exact ((hK (G c - 1) (by omega)).1 c hc (by omega)).1
  · exact (hK d hd).2 (sc_bit.mp (hall d hd hw))
  · unfold wcA
    have h1 := rnk_imp (p := brG A G) (q := fun i => w.testBit i) (A 9) (fun c hc q => by
      unfold brG at q
      rw [Bool.and_eq_true] at q
      have hz := of_decide_eq_true q.1
      have h3 := (hV c hz).2.2.1
      have hb := ((hK (G c - 1) (by omega)).1 c hc (by omega)).2
      unfold bW at hb
      rw [q.2, Bool.and_true] at hb
      cases hx : w.testBit c with
      | true => rfl
      | false =>
        rw [hx] at hb
        cases hb)
    have h2 := rnk_mono (p := fun i => w.testBit i) (m := A 9) (5 - A 9)
    rw [show A 9 + (5 - A 9) = 5 by omega] at h2
    omega
theorem wb_wv {A : Nat → Nat} {v : Int32} (hW : Wf A) (h : WBr A 32 v) : WVl A v := by
  have h5 := hW.1.1
  have key : ∀ G, VAl A G → orN (brG A G) (A 9) < 32 ∧ orN (brG A G) (A 9) ||| empA A = empA A ∧ rnk (fun i => (orN (brG A G) (A 9)).testBit i) 5 = wcA A G := by
    intro G hG
    refine ⟨Nat.lt_of_lt_of_le (orN_lt (A 9)) (Nat.pow_le_pow_right (n := 2) (by decide) h5), ?_, ?_⟩
    · apply Nat.eq_of_testBit_eq
      intro i
      rw [Nat.testBit_or]
      unfold empA
      rw [orN_bit, orN_bit]
      cases hb : brG A G i with
      | false =>
        rw [Bool.and_false, Bool.false_or]
      | true =>
        unfold brG at hb
        rw [Bool.and_eq_true] at hb
        have := (hG.1 i (of_decide_eq_true hb.1)).2.1
        rw [decide_eq_true this, Bool.or_self]
    · have e := rnk_stay (p := fun i => (orN (brG A G) (A 9)).testBit i) (n := A 9) (fun i hi => by
        rw [orN_bit, decide_eq_false (show ¬ i < A 9 by omega)]
        rfl) (5 - A 9)
      rw [show A 9 + (5 - A 9) = 5 by omega] at e
      rw [e]
      unfold wcA
      refine rnk_congr _ (fun i hi => ?_)
      rw [orN_bit, decide_eq_true hi, Bool.true_and]
  rcases h with ⟨h1, h2⟩ | ⟨n, h0, h1, ⟨e, e1, e2, e3, e4⟩, h2⟩
  · refine Or.inl ⟨h1, fun G hG => ?_⟩
    obtain ⟨k1, k2, _⟩ := key G hG
    exact h2 _ k1 k2 (val_mu hW hG)
  · have hlow : ∀ G, VAl A G → n ≤ wcA A G := fun G hG => by
      obtain ⟨k1, k2, k3⟩ := key G hG
      have := h2 _ k1 k2 (val_mu hW hG)
      rw [k3] at this
      exact this
    obtain ⟨G, hG, hle⟩ := mu_val hW e3
    have := hlow G hG
    exact Or.inr ⟨n, h0, h1, ⟨G, hG, by omega⟩, hlow⟩
