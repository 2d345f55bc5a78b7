/-! a deal that must fail leaves the model's best; a deal that pours is looked at -/
def PMd (M : HS) (A G : Nat → Nat) (n : Nat) : Prop := LnM M ∧ RMt M 139 A ∧ ∀ c, c < n → (ga M 147).getD c 0 = dn (G c)
def BsM (M M1 : HS) : Prop := gf M1 137 26 = gf M 137 26 ∧ gf M1 137 27 = gf M 137 27 ∧ ga M1 149 = ga M 149 ∧ ga M1 150 = ga M 150
theorem BsM.rf {M : HS} : BsM M M := ⟨rfl, rfl, rfl, rfl⟩
theorem BsM.tr {M M1 M2 : HS} (h : BsM M M1) (g : BsM M1 M2) : BsM M M2 := ⟨g.1.trans h.1, g.2.1.trans h.2.1, g.2.2.1.trans h.2.2.1, g.2.2.2.trans h.2.2.2⟩
theorem BsM.fr {W : Nat → Nat → Prop} {M M1 : HS} (f : Fr W M M1) (hw : ¬ W 137 26 ∧ ¬ W 137 27 ∧ ¬ W 149 99 ∧ ¬ W 150 99) : BsM M M1 := ⟨(f.1 _ _ hw.1).1, (f.1 _ _ hw.2.1).1, f.2.2.1 _ hw.2.2.1, f.2.2.1 _ hw.2.2.2⟩
theorem PMd.lower {M : HS} {A G H : Nat → Nat} {n m : Nat} (h : PMd M A H m) (hm : n ≤ m) (hG : ∀ c, c < n → H c = G c) : PMd M A G n := ⟨h.1, h.2.1, fun c hc => by rw [← hG c hc]; exact h.2.2 c (by omega)⟩
theorem PMd.st7 {M : HS} {A G : Nat → Nat} {n x : Nat} (h : PMd M A G n) (hn : n < 5) : PMd (st M 147 n (dn x)) A (upG G n x) (n + 1) := by
  refine ⟨h.1.st, fun i hi => ?_, fun c hc => ?_⟩
  · rw [ga_st_ne (by omega)]
    exact h.2.1 i hi
  · unfold upG
    by_cases z : c = n
    · rw [if_pos z, z, gd_st_eq (nM147 h.1) hn]
    · rw [if_neg z, gd_st (by omega)]
      exact h.2.2 c (by omega)
theorem gv_up {A G : Nat → Nat} {n x : Nat} (h : GVa A G n) (hx : x ≠ 0 → A (31 + 6 * n) = 0 ∧ x ≤ A 13 ∧ A (59 + 5 * (x - 1)) = 0) : GVa A (upG G n x) (n + 1) := by
  intro c hc
  unfold upG at hc ⊢
  by_cases z : c = n
  · rw [if_pos z] at hc ⊢
    rw [z]
    exact ⟨by omega, hx hc⟩
  · rw [if_neg z] at hc ⊢
    obtain ⟨a, b⟩ := h c hc
    exact ⟨by omega, b⟩
theorem gv_n {A G : Nat → Nat} {n : Nat} (h : GVa A G n) : G n = 0 := by
  by_cases z : G n = 0
  · exact z
  · have := (h n z).1
    omega
theorem up_0 {G : Nat → Nat} {n : Nat} (h : G n = 0) : upG G n 0 = G := by
  funext c
  unfold upG
  by_cases z : c = n
  · rw [if_pos z, z, h]
  · rw [if_neg z]
theorem bad_tries {A : Nat → Nat} (hW : Wf A) : ∀ (r n : Nat) (G : Nat → Nat) (M : HS), PMd M A G n → GVa A G n → BadA A G n → n ≤ A 9 → A 9 < r + n → ∃ M', s_X8_tries r (nI n) 0 M = some M' ∧ BsM M M' ∧ PMd M' A G n := by
  have h5 := hW.1.1
  have h20 := hW.1.2.2.2.2.1
  intro r
  induction r with
  | zero =>
    intro n G M hP hV hB hn hr
    omega
  | succ r ih =>
    intro n G M hP hV hB hn hr
    have hf0 : ∀ i, i < 157 → fM M i = nI (A i) := hP.2.1
    rw [s_X8_tries, s_X8_tries_B, m_at hP.1 (x := 9) (i := 9) rfl (by omega), sb, hf0 9 (by omega)]
    by_cases z : n = A 9
    · subst z
      rw [if_neg (fun y => y rfl)]
      obtain ⟨v, M1, e1, hv⟩ := q_pours hP.1 hP.2.1 hW hP.2.2 hV
      have f1 := fs_X8_pours fr_rf _ e1
      have hv1 : v = -1 := by
        rcases hv with w | ⟨s, _, _, w, _⟩
        · exact w.1
        · exact absurd w (bad_end hB hV)
      unfold s_X8_looks
      rw [e1, sb, hv1, if_neg (show ¬ ((-1 : Int32) ≠ -1) by decide), sb]
      refine ⟨M1, rfl, BsM.fr f1 (by unfold wU; omega), hP.1.fr f1, hP.2.1.fr f1 (by unfold wU; omega), ?_⟩
      rw [f1.2.2.1 147 (by unfold wU; omega)]
      exact hP.2.2
    · have hn9 : n < A 9 := by omega
      rw [if_pos (show nI n ≠ nI (A 9) from fun y => z ((nI_eq (by omega) (by omega)).mp y))]
      have hGn := gv_n hV
      have J : ∀ M', PMd M' A G n → ∃ M'', s_X8_tries_J72 (s_X8_tries r) (nI n) 0 M' = some M'' ∧ BsM M' M'' ∧ PMd M'' A G n := by
        intro M' hP'
        have hP2 := hP'.st7 (x := 0) (show n < 5 by omega)
        rw [up_0 hGn, dn_0] at hP2
        obtain ⟨M2, e2, b2, p2⟩ := ih (n + 1) G (st M' 147 n (-1)) hP2 (fun c hc => ⟨by have := (hV c hc).1; omega, (hV c hc).2⟩) (bad_none hB hn9 hGn) (by omega) (by omega)
        unfold s_X8_tries_J72
        rw [wa_st (nM147 hP'.1) (by omega) (by omega), sb, ← nI_succ, e2, sb]
        refine ⟨M2, rfl, BsM.tr ?_ b2, p2.lower (by omega) (fun _ _ => rfl)⟩
        exact ⟨rfl, rfl, ga_st_ne (by omega), ga_st_ne (by omega)⟩
      have lp : ∀ (m d : Nat) (M' : HS) (K : Nat), d + m = A 13 → m < K → PMd M' A G n → ∃ M'', s_X8_tries_L19 (s_X8_tries r) (nI n) 0 K (nI d) M' = some M'' ∧ BsM M' M'' ∧ PMd M'' A G n := by
        intro m
        induction m with
        | zero =>
          intro d M' K h1 h2 hP'
          obtain ⟨K, rfl⟩ : ∃ k, K = k + 1 := ⟨K - 1, by omega⟩
          rw [s_X8_tries_L19, m_at hP'.1 (x := 13) (i := 13) rfl (by omega), sb, (show fM M' 13 = nI (A 13) from hP'.2.1 13 (by omega)), if_pos (nI_le (by omega) (by omega))]
          exact J M' hP'
        | succ m ihm =>
          intro d M' K h1 h2 hP'
          obtain ⟨K, rfl⟩ : ∃ k, K = k + 1 := ⟨K - 1, by omega⟩
          have hs3 := hW.s3 (d := d) (by omega)
          have ho := hW.o20 (c := n) (by omega)
          rw [s_X8_tries_L19, m_at hP'.1 (x := 13) (i := 13) rfl (by omega), sb, (show fM M' 13 = nI (A 13) from hP'.2.1 13 (by omega)), if_neg (nI_ge (by omega) (by omega)), q_holds hP'.1 (by omega) (x := 4) (k := 4) (by omega) rfl, sb, (show fM M' (27 + 4 + 6 * n) = nI (A (31 + 6 * n)) from hP'.2.1 (31 + 6 * n) (by omega)), q_its hP'.1 (by omega) (x := 2) (k := 2) (by omega) rfl, sb, (show fM M' (57 + 2 + 5 * d) = nI (A (59 + 5 * d)) from hP'.2.1 (59 + 5 * d) (by omega)), ← nI_succ, ← nI_succ]
          by_cases z2 : A (31 + 6 * n) = 0
          · rw [z2, if_neg (show ¬ nI 0 ≠ 0 by decide)]
            by_cases z3 : A (59 + 5 * d) = 0
            · have hP2 := hP'.st7 (x := d + 1) (show n < 5 by omega)
              rw [dn_s] at hP2
              have e1 : upG G n (d + 1) n = d + 1 := if_pos rfl
              obtain ⟨M2, e2, b2, p2⟩ := ih (n + 1) (upG G n (d + 1)) (st M' 147 n (nI d)) hP2 (gv_up hV (fun _ => ⟨z2, by omega, by rw [show d + 1 - 1 = d by omega]; exact z3⟩)) (bad_give (bad_up hB) hn9 e1 ((hW.2.2.1 n hn9).2.1.mpr z2)) (by omega) (by omega)
              rw [z3, if_pos (show nI 0 = 0 from rfl), wa_st (nM147 hP'.1) (by omega) (by omega), sb, e2, sb]
              obtain ⟨M3, e3, b3, p3⟩ := ihm (d + 1) M2 K (by omega) (by omega) (p2.lower (by omega) (fun c hc => if_neg (by omega)))
              refine ⟨M3, e3, BsM.tr (BsM.tr ?_ b2) b3, p3⟩
              exact ⟨rfl, rfl, ga_st_ne (by omega), ga_st_ne (by omega)⟩
            · rw [if_neg (nI_ne0 (n := A (59 + 5 * d)) (by omega) (by omega))]
              exact ihm (d + 1) M' K (by omega) (by omega) hP'
          · rw [if_pos (nI_ne0 (n := A (31 + 6 * n)) (by omega) (by omega))]
            exact J M' hP'
      exact lp (A 13) 0 M 40 (by omega) (by omega) hP
theorem e_looks {M : HS} {A G : Nat → Nat} (hW : Wf A) (hP : PMd M A G (A 9)) (hV : GVa A G (A 9)) (hK : PkA A G) : ∃ s M3, s < 2 ^ 20 ∧ (∀ d, s.testBit d = true ↔ d < A 13 ∧ ∃ c, c < A 9 ∧ G c = d + 1) ∧ PMd M3 A G (A 9) ∧ (∀ c, c < A 9 → LC M3 (layA A G) c) ∧ BsM M M3 ∧ (∀ c, c < A 9 → (ga M3 148).getD c 0 = nI (if G c = 0 then 0 else amA A G c)) ∧ s_X8_looks 0 M = (if nI (rnk (fun d => s.testBit d) 20) < gf M 137 26 then some M3 else if nI (rnk (fun d => s.testBit d) 20) ≠ gf M 137 26 then s_X8_looks_J160 (nI s) (nI (rnk (fun d => s.testBit d) 20)) (nI (rnk (fun c => decide (G c ≠ 0)) (A 9))) M3 else if nI (rnk (fun c => decide (G c ≠ 0)) (A 9)) < gf M 137 27 then s_X8_looks_J160 (nI s) (nI (rnk (fun d => s.testBit d) 20)) (nI (rnk (fun c => decide (G c ≠ 0)) (A 9))) M3 else some M3) := by
  have h5 := hW.1.1
  have h20 := hW.1.2.2.2.2.1
  obtain ⟨v, M1, e1, hv⟩ := q_pours hP.1 hP.2.1 hW hP.2.2 hV
  have f1 := fs_X8_pours fr_rf _ e1
  rcases hv with w | ⟨s, ev, hs, _, hsb, ham⟩
  · exact absurd hK w.2
  have hL1 := hP.1.fr f1
  have hM1 : RMt M1 139 A := hP.2.1.fr f1 (by unfold wU; omega)
  have g147 : ga M1 147 = ga M 147 := f1.2.2.1 147 (by unfold wU; omega)
  obtain ⟨M2, e2, f2, lc2⟩ := x_laysNow hL1 hM1 rfl h5 (fun c hc => hW.o20 (by omega))
  have L52 : ∀ (m c : Nat) (M' : HS) (K : Nat), c + m = A 9 → m < K → Fr wN M1 M' → (∀ i, i < c → LC M' (layA A G) i) → (∀ i, c ≤ i → i < A 9 → LC M' A i) → ∃ M3, Fr wN M1 M3 ∧ (∀ i, i < A 9 → LC M3 (layA A G) i) ∧ s_X8_looks_L52 (nI s) (nI (rnk (fun d => s.testBit d) 20)) K (nI (rnk (fun c => decide (G c ≠ 0)) c)) (nI c) M' = (if nI (rnk (fun d => s.testBit d) 20) < gf M 137 26 then some M3 else if nI (rnk (fun d => s.testBit d) 20) ≠ gf M 137 26 then s_X8_looks_J160 (nI s) (nI (rnk (fun d => s.testBit d) 20)) (nI (rnk (fun c => decide (G c ≠ 0)) (A 9))) M3 else if nI (rnk (fun c => decide (G c ≠ 0)) (A 9)) < gf M 137 27 then s_X8_looks_J160 (nI s) (nI (rnk (fun d => s.testBit d) 20)) (nI (rnk (fun c => decide (G c ≠ 0)) (A 9))) M3 else some M3) := by
    intro m
    induction m with
    | zero =>
      intro c M' K h1 h2 f hlo hhi
      obtain ⟨K, rfl⟩ : ∃ k, K = k + 1 := ⟨K - 1, by omega⟩
      have ec : c = A 9 := by omega
      subst ec
      have hL' := hL1.fr f
      have hM' : RMt M' 139 A := hM1.fr f (by unfold wN; omega)
      have g26 : gf M' 137 26 = gf M 137 26 := ((f.1 137 26 (by unfold wN; omega)).1).trans (f1.1 137 26 (by unfold wU; omega)).1
      have g27 : gf M' 137 27 = gf M 137 27 := ((f.1 137 27 (by unfold wN; omega)).1).trans (f1.1 137 27 (by unfold wU; omega)).1
      refine ⟨M', f, fun i hi => hlo i (by omega), ?_⟩
      rw [s_X8_looks_L52, m_at hL' (x := 9) (i := 9) rfl (by omega), sb, (show fM M' 9 = nI (A 9) from hM' 9 (by omega)), if_pos (nI_le (Nat.le_refl _) (by omega)), g26, g27]
    | succ m ih =>
      intro c M' K h1 h2 f hlo hhi
      obtain ⟨K, rfl⟩ : ∃ k, K = k + 1 := ⟨K - 1, by omega⟩
      have hL' := hL1.fr f
      have hM' : RMt M' 139 A := hM1.fr f (by unfold wN; omega)
      have g7 : (ga M' 147).getD c 0 = dn (G c) := by
        rw [f.2.2.1 147 (by unfold wN; omega), g147]
        exact hP.2.2 c (by omega)
      have g8 : (ga M' 148).getD c 0 = nI (if G c = 0 then 0 else amA A G c) := by
        rw [f.2.2.1 148 (by unfold wN; omega)]
        exact ham c (by omega)
      obtain ⟨l0, l1, l2⟩ := lay_c (A := A) (G := G) (c := c) (by omega)
      have lq := lq_lay (A := A) (G := G) (c := c) (by omega)
      rw [s_X8_looks_L52, m_at hL' (x := 9) (i := 9) rfl (by omega), sb, (show fM M' 9 = nI (A 9) from hM' 9 (by omega)), if_neg (nI_ge (by omega) (by omega)), ag_ok (nM147 hL') (by omega) (by omega), sb, g7, ← nI_succ, ← nI_succ]
      by_cases z : G c = 0
      · rw [z, dn_0, if_neg (show ¬ (-1 : Int32) ≠ -1 by decide)]
        have nx := ih (c + 1) M' K (by omega) (by omega) f (fun i hi => ?_) (fun i hi h3 => hhi i (by omega) h3)
        · have er : rnk (fun c => decide (G c ≠ 0)) (c + 1) = rnk (fun c => decide (G c ≠ 0)) c := by
            show rnk (fun c => decide (G c ≠ 0)) c + (if decide (G c ≠ 0) = true then 1 else 0) = _
            rw [decide_eq_false (show ¬ G c ≠ 0 from fun q => q z)]
            rfl
          rw [er] at nx
          exact nx
        · by_cases u : i = c
          · subst u
            have := hhi i (Nat.le_refl _) (by omega)
            unfold LC at this ⊢
            rw [l0, l1, lq, if_pos z, if_pos z, if_pos z]
            exact this
          · exact hlo i (by omega)
      · obtain ⟨d, ed⟩ : ∃ d, G c = d + 1 := ⟨G c - 1, by omega⟩
        obtain ⟨_, v2, v3, v4⟩ := hV c z
        have nm : nI d ≠ (-1 : Int32) := nI_nm (by omega)
        rw [if_neg z] at g8
        have hM3 : ∀ x, RMt (st (st M' 142 c x) 144 c (nI d)) 139 A := fun x i hi => by
          rw [ga_st_ne (by omega), ga_st_ne (by omega)]
          exact hM' i hi
        rw [ed, dn_s] at g7
        rw [ed, dn_s, if_pos nm, ag_ok (nM148 hL') (by omega) (by omega), sb, g8, wa_st (nM142 hL') (by omega) (by omega), sb, ag_ok (nM147 hL'.st) (by omega) (by omega), sb, gd_st (by omega), g7, wa_st (nM144 hL'.st) (by omega) (by omega), sb, ag_ok (nM147 hL'.st.st) (by omega) (by omega), sb, gd_st (by omega), gd_st (by omega), g7, q_its hL'.st.st (by omega) (x := 0) (k := 0) (by omega) rfl, sb, (show fM (st (st M' 142 c (nI (amA A G c))) 144 c (nI d)) (57 + 0 + 5 * d) = nI (A (57 + 5 * d)) from hM3 _ (57 + 5 * d) (by omega)), wa_st (nM143 hL'.st.st) (by omega) (by omega), sb]
        have nx := ih (c + 1) (st (st (st M' 142 c (nI (amA A G c))) 144 c (nI d)) 143 c (nI (A (57 + 5 * d)))) K (by omega) (by omega) (fr_st (fr_st (fr_st f (by unfold wN; omega)) (by unfold wN; omega)) (by unfold wN; omega)) (fun i hi => ?_) (fun i hi h3 => ?_)
        · have er : rnk (fun c => decide (G c ≠ 0)) (c + 1) = rnk (fun c => decide (G c ≠ 0)) c + 1 := by
            show rnk (fun c => decide (G c ≠ 0)) c + (if decide (G c ≠ 0) = true then 1 else 0) = _
            rw [decide_eq_true (show G c ≠ 0 from z)]
            rfl
          rw [er] at nx
          exact nx
        · by_cases u : i = c
          · subst u
            unfold LC
            rw [l0, l1, lq, if_neg z, if_neg z, if_neg z, ed, dn_s, show d + 1 - 1 = d by omega]
            refine ⟨?_, ?_, ?_⟩
            · rw [gd_st (by omega), gd_st (by omega), gd_st_eq (nM142 hL') (by omega)]
            · rw [gd_st_eq (nM143 hL'.st.st) (by omega)]
            · rw [gd_st (by omega), gd_st_eq (nM144 hL'.st) (by omega)]
          · have := hlo i (by omega)
            unfold LC at this ⊢
            rw [gd_st (by omega), gd_st (by omega), gd_st (by omega), gd_st (by omega), gd_st (by omega), gd_st (by omega), gd_st (by omega), gd_st (by omega), gd_st (by omega)]
            exact this
        · have := hhi i (by omega) h3
          unfold LC at this ⊢
          rw [gd_st (by omega), gd_st (by omega), gd_st (by omega), gd_st (by omega), gd_st (by omega), gd_st (by omega), gd_st (by omega), gd_st (by omega), gd_st (by omega)]
          exact this
  obtain ⟨M3, f3, lc3, e3⟩ := L52 (A 9) 0 M2 40 (by omega) (by omega) f2 (fun i hi => absurd hi (Nat.not_lt_zero _)) (fun i _ hi => lc2 i hi)
  have L17 : ∀ (m d : Nat) (K : Nat), d + m = 20 → m < K → s_X8_looks_L17 (nI s) K (nI (rnk (fun d => s.testBit d) d)) (nI d) M1 = s_X8_looks_L52 (nI s) (nI (rnk (fun d => s.testBit d) 20)) 40 0 0 M2 := by
    intro m
    induction m with
    | zero =>
      intro d K h1 h2
      obtain ⟨K, rfl⟩ : ∃ k, K = k + 1 := ⟨K - 1, by omega⟩
      have ed : d = 20 := by omega
      subst ed
      rw [s_X8_looks_L17, if_pos (show (20 : Int32) ≤ nI 20 by decide), e2, sb]
    | succ m ih =>
      intro d K h1 h2
      obtain ⟨K, rfl⟩ : ∃ k, K = k + 1 := ⟨K - 1, by omega⟩
      have nx := ih (d + 1) K (by omega) (by omega)
      rw [rnk] at nx
      rw [s_X8_looks_L17, if_neg (show ¬ (20 : Int32) ≤ nI d from nI_ge (b := 20) (by omega) (by omega)), q_has, sb, hasB_nI (by omega) (by omega), ← nI_succ, ← nI_succ]
      cases hb : s.testBit d with
      | true =>
        rw [if_neg (show ¬ z1 true = 0 by decide)]
        rw [hb] at nx
        exact nx
      | false =>
        rw [if_pos (show z1 false = 0 from rfl)]
        rw [hb] at nx
        exact nx
  have hMd : PMd M3 A G (A 9) := ⟨hL1.fr f3, hM1.fr f3 (by unfold wN; omega), fun c hc => by
    rw [f3.2.2.1 147 (by unfold wN; omega), g147]
    exact hP.2.2 c hc⟩
  refine ⟨s, M3, hs, hsb, hMd, lc3, BsM.tr (BsM.fr f1 (by unfold wU; omega)) (BsM.fr f3 (by unfold wN; omega)), fun c hc => ?_, ?_⟩
  · rw [f3.2.2.1 148 (by unfold wN; omega)]
    exact ham c hc
  · unfold s_X8_looks
    rw [e1, sb, ev, if_pos (show nI s ≠ (-1 : Int32) from nI_nm (by omega)), (show s_X8_looks_L17 (nI s) 40 0 0 M1 = _ from L17 20 0 40 (by omega) (by omega))]
    exact e3
