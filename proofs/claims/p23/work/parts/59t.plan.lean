/-! the plan, found alike -/
theorem PSd.next {S : HS} {t n : Nat} {A G : Nat → Nat} (hG : G n = 0) : PSd S t A G n ↔ PSd S t A G (n + 1) := by
  have e : ∀ d, lfA A G d (n + 1) = lfA A G d n := fun d => by
    rw [lfA, if_neg (by omega)]
  unfold PSd
  simp only [e]
theorem e_deal {t : Nat} {A : Nat → Nat} (hW : Wf A) : ∀ (r n : Nat) (G : Nat → Nat) (S M : HS), PSd S t A G n → PMd M A G n → GVa A G n → (∀ c, c < n → G c ≠ 0 → GdA A G c) → BRl S M A → n ≤ A 9 → A 9 < r + n → ∃ S1 M1, s_X3_deal r (nI n) S = some S1 ∧ s_X8_tries r (nI n) 0 M = some M1 ∧ PSd S1 t A G n ∧ PMd M1 A G n ∧ BRl S1 M1 A := by
  have h5 := hW.1.1
  have h20 := hW.1.2.2.2.2.1
  have h4 := wt4 hW
  intro r
  induction r with
  | zero =>
    intro n G S M hS hM hV hg hB hn hr
    omega
  | succ r ih =>
    intro n G S M hS hM hV hg hB hn hr
    rw [s_X3_deal, s_X3_deal_B, q_hopeless hW hS hn, sb]
    by_cases ho : owA A G n ≤ rmA A n
    · rw [if_pos ho, i0e, tl_ok hS.2.2.1 hS.2.1, sb, hS.2.2.2.2.1.1, s_X8_tries, s_X8_tries_B, m_at hM.1 (x := 9) (i := 9) rfl (by omega), sb, (show fM M 9 = nI (A 9) from hM.2.1 9 (by omega))]
      by_cases z : n = A 9
      · subst z
        obtain ⟨S1, M1, e1, e2, p1, p2, p3⟩ := e_leaf hW hS hM hV hg ho hB
        rw [if_neg (show ¬ nI (A 9) < nI (A 9) from nI_nlt (Nat.le_refl _) (by omega)), if_neg (show ¬ nI (A 9) ≠ nI (A 9) from fun q => q rfl), e1, sb, e2, sb]
        exact ⟨S1, M1, rfl, rfl, p1, p2, p3⟩
      · have hn9 : n < A 9 := by omega
        have hGn := gv_n hV
        have J : ∀ S' M', PSd S' t A G n → PMd M' A G n → BRl S' M' A → ∃ S1 M1, s_X3_deal_J75 (s_X3_deal r) (nI n) S' = some S1 ∧ s_X8_tries_J72 (s_X8_tries r) (nI n) 0 M' = some M1 ∧ PSd S1 t A G n ∧ PMd M1 A G n ∧ BRl S1 M1 A := by
          intro S' M' hS' hM' hB'
          have hM2 := hM'.st7 (x := 0) (show n < 5 by omega)
          rw [up_0 hGn, dn_0] at hM2
          have hBs : BsM M' (st M' 147 n (-1)) := ⟨rfl, rfl, ga_st_ne (by omega), ga_st_ne (by omega)⟩
          obtain ⟨S1, M1, e1, e2, p1, p2, p3⟩ := ih (n + 1) G S' (st M' 147 n (-1)) ((PSd.next hGn).mp hS') hM2 (fun c hc => ⟨by have := (hV c hc).1; omega, (hV c hc).2⟩) (fun c hc q => by
            by_cases u : c = n
            · subst u
              exact absurd hGn q
            · exact hg c (by omega) q) (hB'.of BsD.rf hBs) (by omega) (by omega)
          unfold s_X3_deal_J75 s_X8_tries_J72
          rw [wa_st (nM147 hM'.1) (by omega) (by omega), sb, ← nI_succ, e1, sb, e2, sb]
          exact ⟨S1, M1, rfl, rfl, (PSd.next hGn).mpr p1, p2.lower (by omega) (fun _ _ => rfl), p3⟩
        have hl := hS.2.2.2.2.2.2.2.2.2.2.1 n (by omega)
        obtain ⟨l0, _, _⟩ := lay_c (A := A) (G := G) (c := n) (by omega)
        have hw3 := hW.2.2.1 n hn9
        rw [if_pos (show nI n < nI (A 9) from nI_lt hn9 (by omega)), if_pos (show nI n ≠ nI (A 9) from fun q => z ((nI_eq (by omega) (by omega)).mp q)), ag_ok (nD127 hS.1) (by omega) (by omega), sb, show (ga S 127).getD n 0 = _ from hl.1, l0, if_pos hGn]
        by_cases z0 : A (31 + 6 * n) = 0
        · have z30 : A (30 + 6 * n) = 0 := hw3.2.1.mpr z0
          rw [z30, if_neg (show ¬ nI 0 ≠ 0 by decide)]
          have lp : ∀ (m d : Nat) (S' M' : HS) (K K2 : Nat), d + m = A 13 → m < K2 → rnk (wtA A) (A 13) - rnk (wtA A) d < K → PSd S' t A G n → PMd M' A G n → BRl S' M' A → ∃ S1 M1, s_X3_deal_L39 (s_X3_deal r) (nI n) K (nI (rnk (wtA A) d)) S' = some S1 ∧ s_X8_tries_L19 (s_X8_tries r) (nI n) 0 K2 (nI d) M' = some M1 ∧ PSd S1 t A G n ∧ PMd M1 A G n ∧ BRl S1 M1 A := by
            intro m
            induction m with
            | zero =>
              intro d S' M' K K2 h1 h2 h3 hS' hM' hB'
              obtain ⟨K, rfl⟩ : ∃ k, K = k + 1 := ⟨K - 1, by omega⟩
              obtain ⟨K2, rfl⟩ : ∃ k, K2 = k + 1 := ⟨K2 - 1, by omega⟩
              have ed : d = A 13 := by omega
              subst ed
              rw [s_X3_deal_L39, hS'.2.2.2.2.2.2.2.1, if_pos (nI_le (Nat.le_refl _) (by omega)), s_X8_tries_L19, m_at hM'.1 (x := 13) (i := 13) rfl (by omega), sb, (show fM M' 13 = nI (A 13) from hM'.2.1 13 (by omega)), if_pos (nI_le (Nat.le_refl _) (by omega))]
              exact J S' M' hS' hM' hB'
            | succ m ihm =>
              intro d S' M' K K2 h1 h2 h3 hS' hM' hB'
              obtain ⟨K2, rfl⟩ : ∃ k, K2 = k + 1 := ⟨K2 - 1, by omega⟩
              have hd : d < A 13 := by omega
              have hs3 := hW.s3 hd
              have e1 : rnk (wtA A) (d + 1) = rnk (wtA A) d + if wtA A d = true then 1 else 0 := rfl
              rw [s_X8_tries_L19, m_at hM'.1 (x := 13) (i := 13) rfl (by omega), sb, (show fM M' 13 = nI (A 13) from hM'.2.1 13 (by omega)), if_neg (show ¬ nI (A 13) ≤ nI d from nI_ge hd (by omega)), q_holds hM'.1 (by omega) (x := 4) (k := 4) (by omega) rfl, sb, (show fM M' (27 + 4 + 6 * n) = nI (A (31 + 6 * n)) from hM'.2.1 (31 + 6 * n) (by omega)), z0, if_neg (show ¬ nI 0 ≠ 0 by decide), q_its hM'.1 (by omega) (x := 2) (k := 2) (by omega) rfl, sb, (show fM M' (57 + 2 + 5 * d) = nI (A (59 + 5 * d)) from hM'.2.1 (59 + 5 * d) (by omega)), ← nI_succ, ← nI_succ]
              by_cases hw : wtA A d = true
              · obtain ⟨K, rfl⟩ : ∃ k, K = k + 1 := ⟨K - 1, by omega⟩
                have hlt := rnk_lt hd hw
                have hs0 : A (59 + 5 * d) = 0 := of_decide_eq_true hw
                have hM2 := hM'.st7 (x := d + 1) (show n < 5 by omega)
                rw [dn_s] at hM2
                have hBs : BsM M' (st M' 147 n (nI d)) := ⟨rfl, rfl, ga_st_ne (by omega), ga_st_ne (by omega)⟩
                have eG : upG G n (d + 1) n = d + 1 := if_pos rfl
                have hV2 : GVa A (upG G n (d + 1)) (n + 1) := gv_up hV (fun _ => ⟨z0, by omega, by rw [show d + 1 - 1 = d by omega]; exact hs0⟩)
                have nxt := fun S2 M2 hS2 hM2 hB2 => ihm (d + 1) S2 M2 K K2 (by omega) (by omega) (by rw [e1, if_pos hw]; omega) hS2 hM2 hB2
                rw [e1, if_pos hw] at nxt
                rw [hs0, if_pos (show nI 0 = 0 from rfl), wa_st (nM147 hM'.1) (by omega) (by omega), sb, s_X3_deal_L39, hS'.2.2.2.2.2.2.2.1, if_neg (show ¬ nI (rnk (wtA A) (A 13)) ≤ nI (rnk (wtA A) d) from nI_ge hlt (by omega)), ← nI_succ, ← nI_succ]
                rcases q_gives hW hS' hV hn9 hd hw z0 with ⟨eg, hbad⟩ | ⟨S2, eg, hgood, hS2, hBd⟩
                · obtain ⟨M2, e2, b2, p2⟩ := bad_tries hW r (n + 1) (upG G n (d + 1)) (st M' 147 n (nI d)) hM2 hV2 (Or.inl ⟨n, by omega, by omega, hbad⟩) (by omega) (by omega)
                  rw [eg, sb, if_pos (show ((0 : Int32), S').1 = 0 from rfl), e2, sb]
                  exact nxt S' M2 hS' (p2.lower (by omega) (fun c hc => if_neg (by omega))) (hB'.of BsD.rf (hBs.tr b2))
                · obtain ⟨S3, M3, e3, e4, p1, p2, p3⟩ := ih (n + 1) (upG G n (d + 1)) S2 (st M' 147 n (nI d)) hS2 hM2 hV2 (fun c hc q => by
                    by_cases u : c = n
                    · subst u
                      exact hgood
                    · have e : upG G n (d + 1) c = G c := if_neg u
                      exact (gd_congr (A := A) (G := G) (H := upG G n (d + 1)) (c := c) (fun i hi => if_neg (show ¬ i = n by omega))).mpr (hg c (by omega) (by rw [← e]; exact q))) (hB'.of hBd hBs) (by omega) (by omega)
                  obtain ⟨S4, e5, p4, p5⟩ := q_takeBack hW p1 hV hn9 hd hw z0
                  rw [eg, sb, if_neg (show ¬ ((1 : Int32), S2).1 = 0 from by show ¬ (1 : Int32) = 0; decide), (show s_X3_deal r (nI (n + 1)) ((1 : Int32), S2).2 = some S3 from e3), sb, e5, sb, e4, sb]
                  exact nxt S4 M3 p4 (p2.lower (by omega) (fun c hc => if_neg (by omega))) (p3.of p5 BsM.rf)
              · have hs0 : A (59 + 5 * d) ≠ 0 := fun q => hw (decide_eq_true q)
                have nxt := ihm (d + 1) S' M' K K2 (by omega) (by omega) (by rw [e1, if_neg hw]; omega) hS' hM' hB'
                rw [e1, if_neg hw] at nxt
                rw [if_neg (nI_ne0 (n := A (59 + 5 * d)) (by omega) (by omega))]
                exact nxt
          exact lp (A 13) 0 S M 40 40 (by omega) (by omega) (by omega) hS hM hB
        · have z30 : A (30 + 6 * n) ≠ 0 := fun q => z0 (hw3.2.1.mp q)
          have ho20 := hW.o20 (c := n) (by omega)
          have e19 : s_X8_tries_L19 (s_X8_tries r) (nI n) 0 40 0 M = s_X8_tries_J72 (s_X8_tries r) (nI n) 0 M := by
            rw [s_X8_tries_L19, m_at hM.1 (x := 13) (i := 13) rfl (by omega), sb, (show fM M 13 = nI (A 13) from hM.2.1 13 (by omega)), q_holds hM.1 (by omega) (x := 4) (k := 4) (by omega) rfl, sb, (show fM M (27 + 4 + 6 * n) = nI (A (31 + 6 * n)) from hM.2.1 (31 + 6 * n) (by omega)), if_pos (show nI (A (31 + 6 * n)) ≠ 0 from nI_ne0 (n := A (31 + 6 * n)) (by omega) (by omega))]
            split <;> rfl
          rw [if_pos (nI_ne0 (n := A (30 + 6 * n)) (by omega) (by omega)), e19]
          exact J S M hS hM hB
    · rw [if_neg ho, i1e]
      obtain ⟨M2, e2, b2, p2⟩ := bad_tries hW (r + 1) n G M hM hV (Or.inr (by omega)) hn hr
      exact ⟨S, M2, rfl, e2, hS, p2, hB.of BsD.rf b2⟩
theorem FS.hi {S S1 M : HS} {t : Nat} {A : Nat → Nat} (h : FS S M t A) (hL : LnD S1) (h1 : ∀ k j, k < 112 → gf S1 k j = gf S k j) (h2 : gr S1 0 4 = gr S 0 4) (h3 : ∀ k, k < 112 → gl S1 k = gl S k) (h4 : ∀ k, k < 112 → ga S1 k = ga S k) : FS S1 M t A := by
  obtain ⟨_, hLM, hr, ht, hT, hSt, hM, hW⟩ := h
  have htn := isT_num ht
  exact ⟨hL, hLM, h2.trans hr, ht, hT.keep (fun j => h1 _ _ (by omega)) (h3 _ (by omega)) (fun i hi => h4 _ (by omega)), hSt.of (h1 _ _ (by omega)) (h1 _ _ (by omega)) (fun i _ _ => h4 _ (by omega)), hM, hW⟩
def PrI (S M : HS) (t : Nat) (A : Nat → Nat) (n : Nat) : Prop := FS S M t A ∧ gr S 121 2 = .ref t ∧ gr S 121 3 = .ref 22 ∧ gf S 121 4 = 0 ∧ gf S 121 12 = 0 ∧ gf S 121 10 = 0 ∧ gf S 121 5 = nI (rnk (wtA A) n) ∧ (∀ d, d < n → wtA A d = true → (ga S 131).getD (rnk (wtA A) d) 0 = nI d ∧ (ga S 132).getD (rnk (wtA A) d) 0 = nI (lkA A d) ∧ (ga S 133).getD (rnk (wtA A) d) 0 = nI (lkA A d)) ∧ RCa S 126 A
theorem e_room {S M : HS} {t : Nat} {A : Nat → Nat} (h : PrI S M t A (A 13)) : ∃ S1, s_X3_prepare_J165 t S = some S1 ∧ PSd S1 t A (fun _ => 0) 0 ∧ gf S1 121 12 = 0 := by
  obtain ⟨hF, p1, p2, p3, p4, p5, p6, p7, p8⟩ := h
  have hL := hF.1
  have ht := hF.2.2.2.1
  have hT := hF.2.2.2.2.1
  have hSt := hF.2.2.2.2.2.1
  have hW := hF.2.2.2.2.2.2.2
  have h5 := hW.1.1
  have htn := isT_num ht
  have fin : ∀ S', LnD S' → (∀ k j, gf S' k j = gf S k j) → (∀ k j, gr S' k j = gr S k j) → (∀ k, gl S' k = gl S k) → (∀ k, k ≠ 134 → ga S' k = ga S k) → (∀ c, c ≤ A 9 → (ga S' 134).getD c 0 = nI (rmA A c)) → PSd S' t A (fun _ => 0) 0 ∧ gf S' 121 12 = 0 := by
    intro S' hL' g1 g2 g3 g4 g5
    have lay0 : ∀ c, c < 5 → layA A (fun _ => 0) (30 + 6 * c) = A (30 + 6 * c) ∧ layA A (fun _ => 0) (31 + 6 * c) = A (31 + 6 * c) ∧ layA A (fun _ => 0) (32 + 6 * c) = A (32 + 6 * c) := fun c hc => by
      obtain ⟨a, b, d⟩ := lay_c (A := A) (G := fun _ => 0) hc
      exact ⟨a.trans (if_pos rfl), b.trans (if_pos rfl), d.trans (if_pos rfl)⟩
    refine ⟨⟨hL', ht, (g2 _ _).trans p1, (g2 _ _).trans p2, hT.keep (fun j => g1 _ _) (g3 _) (fun i hi => g4 _ (by omega)), hSt.of (g1 _ _) (g1 _ _) (fun i _ _ => g4 _ (by omega)), (g1 _ _).trans p3, (g1 _ _).trans p6, fun d hd hw => ?_, g5, fun c hc => ?_, ?_⟩, (g1 _ _).trans p4⟩
    · rw [g4 131 (by omega), g4 132 (by omega), g4 133 (by omega)]
      exact p7 d hd hw
    · obtain ⟨a, b, d⟩ := lay0 c hc
      have hl := lq_lt hW hc
      have eq : lqA (layA A (fun _ => 0)) c = lqA A c := (lq_lay hc).trans (if_pos rfl)
      rw [a, b, d, eq, lay_out (A := A) (G := fun _ => 0) (i := 15 + lqA A c) (Or.inl (by omega)), g4 (126 + 1) (by omega), g4 (126 + 2) (by omega), g4 (126 + 3) (by omega), g4 (126 + 4) (by omega)]
      exact p8 c hc
    · rw [g1, p5]
      have e := rnk_stay (p := fun c => decide ((fun _ : Nat => (0 : Nat)) c ≠ 0)) (n := 0) (fun i _ => decide_eq_false (fun q => q rfl)) (A 9)
      rw [Nat.zero_add] at e
      rw [e]
      rfl
  have L189 : ∀ (m : Nat) (S' : HS) (K : Nat), m ≤ A 9 → m < K → LnD S' → (∀ k j, gf S' k j = gf S k j) → (∀ k j, gr S' k j = gr S k j) → (∀ k, gl S' k = gl S k) → (∀ k, k ≠ 134 → ga S' k = ga S k) → (∀ c, m ≤ c → c ≤ A 9 → (ga S' 134).getD c 0 = nI (rmA A c)) → ∃ S1, s_X3_prepare_L189 t K (dn m) S' = some S1 ∧ PSd S1 t A (fun _ => 0) 0 ∧ gf S1 121 12 = 0 := by
    intro m
    induction m with
    | zero =>
      intro S' K h1 h2 hL' g1 g2 g3 g4 g5
      obtain ⟨K, rfl⟩ : ∃ k, K = k + 1 := ⟨K - 1, by omega⟩
      rw [dn_0, s_X3_prepare_L189, if_pos (by decide)]
      exact ⟨S', rfl, fin S' hL' g1 g2 g3 g4 (fun c hc => g5 c (by omega) hc)⟩
    | succ m ih =>
      intro S' K h1 h2 hL' g1 g2 g3 g4 g5
      obtain ⟨K, rfl⟩ : ∃ k, K = k + 1 := ⟨K - 1, by omega⟩
      have e127 : (ga S' 127).getD m 0 = nI (A (30 + 6 * m)) := by
        rw [g4 127 (by omega)]
        exact (p8 m (by omega)).1
      have hT' : RDt S' t A := hT.keep (fun j => g1 _ _) (g3 _) (fun i hi => g4 _ (by omega))
      have h30 := (hW.2.2.1 m (by omega)).1
      have nx : ∀ x, x = nI (rmA A m) → ∃ S1, s_X3_prepare_L189 t K (dn m) (st S' 134 m x) = some S1 ∧ PSd S1 t A (fun _ => 0) 0 ∧ gf S1 121 12 = 0 := by
        intro x ex
        refine ih (st S' 134 m x) K (by omega) (by omega) hL'.st g1 g2 g3 (fun k hk => (ga_st_ne hk).trans (g4 k hk)) (fun c hc h9 => ?_)
        by_cases u : c = m
        · subst u
          rw [gd_st_eq (nD134 hL') (by omega)]
          exact ex
        · rw [gd_st (by omega)]
          exact g5 c (by omega) h9
      rw [dn_s, s_X3_prepare_L189, if_neg (nI_pos (by omega)), ← nI_succ, ag_ok (nD134 hL') (by omega) (by omega), sb, g5 (m + 1) (Nat.le_refl _) h1, ag_ok (nD127 hL') (by omega) (by omega), sb, e127, dn_add, wa_st (nD134 hL') (by omega) (by omega), sb, tl_ok ((g2 _ _).trans p1) ht, sb, e_dtop hL' ht hT' hW (by omega), sb, wa_st (nD134 hL') (by omega) (by omega), sb]
      by_cases u : A (30 + 6 * m) = 0
      · rw [u, if_neg (show ¬ nI 0 ≠ 0 by decide)]
        refine nx _ ?_
        rw [nI_add, rmA_s (c := m) (by omega), if_pos u, Nat.add_comm]
      · rw [if_pos (nI_ne0 (n := A (30 + 6 * m)) (by omega) (by omega))]
        refine nx _ ?_
        rw [rmA_s (c := m) (by omega), if_neg u, Nat.zero_add, Int32.add_zero]
  rw [s_X3_prepare_J165, tl_ok p1 ht, sb, hT.1, wa_st (nD134 hL) (by omega) (by omega), sb, gr_st, tl_ok p1 ht, sb, gf_st, hT.1]
  refine L189 (A 9) (st S 134 (A 9) 0) 40 (Nat.le_refl _) (by omega) hL.st (fun _ _ => rfl) (fun _ _ => rfl) (fun _ => rfl) (fun k hk => ga_st_ne hk) (fun c h1 h2 => ?_)
  have ec : c = A 9 := by omega
  rw [ec, gd_st_eq (nD134 hL) (by omega), rmA_end]
  rfl
