/-! lines, on both sides -/
theorem fr_st {W : Nat → Nat → Prop} {S0 S : HS} {k i : Nat} {x : Int32} (f : Fr W S0 S) (w : W k 99) : Fr W S0 (st S k i x) := fr_sa f w List.length_set
def wRt (t k j : Nat) : Prop := k = 2 ∨ k = 3 ∨ (t ≤ k ∧ k ≤ t + 8)
def OutL (S0 : HS) (t n l : Nat) (B O A : Nat → Nat) (sort e : Nat) (rs rm : Option (Int32 × HS)) : Prop :=
  (∃ S1 M1 A1 e1, rs = some (1, S1) ∧ rm = some (1, M1) ∧ DJ S1 t n l B A1 O ∧ MJ M1 n B A1 ∧ (∀ i, i < 5 → A1 (9 + i) = if i = sort then A (9 + i) + 1 else A (9 + i)) ∧ gf S1 2 3 = nI e1 ∧ e ≤ e1 ∧ e1 ≤ n ∧ TkM B n (tkS B n e1) M1 ∧ Fr (wRt t) S0 S1) ∨
  (∃ S1 M1, rs = some (0, S1) ∧ rm = some (0, M1) ∧ gf S1 2 9 = gf M1 137 8 ∧ gf S1 2 10 = gf M1 137 9 ∧ IvT S1 t ∧ Fr (wRt t) S0 S1)
theorem fr_A {t : Nat} {S0 S S1 : HS} (f0 : Fr (wRt t) S0 S) (f : Fr wA S S1) : Fr (wRt t) S0 S1 := fr_tr f0 f (fun k j z => by unfold wA at z; unfold wRt; omega)
theorem fr_F {t : Nat} {S0 S S1 : HS} (f0 : Fr (wRt t) S0 S) (f : Fr wF S S1) : Fr (wRt t) S0 S1 := fr_tr f0 f (fun k j z => by unfold wF at z; unfold wRt; omega)
theorem fr_T {t k i : Nat} {x : Int32} {S0 S : HS} (f0 : Fr (wRt t) S0 S) (h : t ≤ k ∧ k ≤ t + 8) : Fr (wRt t) S0 (st S k i x) := fr_st f0 (Or.inr (Or.inr h))
theorem fr_Tf {t j : Nat} {x : Int32} {S0 S : HS} (f0 : Fr (wRt t) S0 S) : Fr (wRt t) S0 (sf S t j x) := fr_sf f0 (Or.inr (Or.inr ⟨by omega, by omega⟩))
theorem tkP_leE {B : Nat → Nat} {n s : Nat} (h : s ≤ n) : tkP n s ≤ tkE B n s := by
  have := tkE_rng (B := B) h
  unfold tkP
  split
  · next q => unfold tkE; rw [if_pos q]; omega
  · omega
theorem j_word {S M : HS} {B : Nat → Nat} {n s : Nat} {u : UInt32} {c : Int64} (hn : n ≤ 740) (hR : RdI S B n) (hs : s ≤ n) (hC : CurD S B n s) (hT : TkM B n s M) (hu : u.toNat < 8) (hc : c = wv u.toNat) : (tkK B n s = 1 ∧ s_X4_isWord u S = some 1 ∧ s_X8_isWord c M = some 1) ∨ (s_X4_isWord u S = some 0 ∧ s_X8_isWord c M = some 0) := by
  have he := tkE_rng (B := B) hs
  rcases q_isW hn hR hu hC.2.1 tkK_le hC.2.2.1 hC.1 (tkP_leE hs) he.2 with ⟨k1, w1, e1⟩ | ⟨z, e1⟩
  · rw [tkP_eq (B := B) (by omega)] at w1
    rcases q_isM hu hc hT with ⟨_, _, e2⟩ | ⟨z, _⟩
    · exact Or.inl ⟨k1, e1, e2⟩
    · exact absurd ⟨k1, w1⟩ z
  · rcases q_isM hu hc hT with ⟨k1, w1, _⟩ | ⟨_, e2⟩
    · rw [tkP_eq (B := B) (by omega)] at z
      exact absurd ⟨k1, w1⟩ z
    · exact Or.inr ⟨e1, e2⟩
theorem r_at {M : HS} {n i : Nat} {x : Int32} {B A : Nat → Nat} (h : MJ M n B A) (hx : x = nI i) (hi : i < 157) : ag (ga M 140) x = some (nI (A i)) := by
  rw [hx]
  exact r_ag h hi
theorem w_at {M : HS} {n i : Nat} {x y : Int32} {B A : Nat → Nat} (h : MJ M n B A) (hx : x = nI i) (hi : i < 157) : wa M 140 x y = some (st M 140 i y) := by
  rw [hx]
  exact wa_st (nM140 h.1.1) hi (by omega)
theorem ix_k {c k : Nat} : ((27 : Int32) + (6 : Int32) * nI c) + nI k = nI (27 + k + 6 * c) := by
  show nI 27 + nI 6 * nI c + nI k = _
  rw [pk_mul, nI_add, nI_add]
  congr 1
  omega
theorem id_k {c k : Nat} : ((57 : Int32) + (5 : Int32) * nI c) + nI k = nI (57 + k + 5 * c) := by
  show nI 57 + nI 5 * nI c + nI k = _
  rw [pk_mul, nI_add, nI_add]
  congr 1
  omega
theorem nI_nec {a : Nat} {x : Int32} (b : Nat) (hx : x = nI b) (ha : a < 2 ^ 31) (hb : b < 2 ^ 31) (h : a ≠ b) : nI a ≠ x := fun z => h ((nI_eq ha hb).mp (z.trans hx))
theorem j_liq {S0 S M : HS} {t n l e : Nat} {B A O : Nat → Nat} (ht : isT t) (hn : n ≤ 740) (he : e ≤ n) (hD : DJ S t n l B A O) (h3 : gf S 2 3 = nI e) (hM : MJ M n B A) (h4 : gf M 137 4 = nI e) (hc : A 10 < 6) (f0 : Fr (wRt t) S0 S) : OutL S0 t n l B O A 1 e (s_X4_readLiquid S) (s_X8_readLiquid M) := by
  obtain ⟨M2, a, b, c, _⟩ := go_next hn he hM h4
  unfold s_X4_readLiquid s_X8_readLiquid
  rw [r_at hM (x := 10) (i := 10) rfl (by omega), sb, if_pos (nI_nec (x := 6) 6 rfl (by omega) (by omega) (by omega)), a, sb, r_at b (x := 10) (i := 10) rfl (by omega), sb, show (15 : Int32) + nI (A 10) = nI (15 + A 10) from nI_add 15 _]
  rcases j_num (i := 15 + A 10) (lo := 1) (hi := 20) ht hn he (by omega) (by omega) hD h3 b c (by omega) with ⟨S1, M1, v, e1, eS, eM, v1, v2, e1a, e1n, hD1, g3, g6, hM1, hT1, f1⟩ | ⟨S1, M1, eS, eM, b1, b2, hD1, f1⟩
  · have hD2 : DJ (st S1 (t + 6) (A 10) (nI v)) t n l B A O := hD1.free ht (Or.inr (Or.inl ⟨rfl, Nat.le_refl _⟩)) (fun z => by omega)
    rw [(show s_X4_readNumber 1 20 S = _ from eS), sb, (show s_X8_told (nI (15 + A 10)) 1 20 M2 = _ from eM), sb]
    dsimp only
    rw [if_pos (by decide), if_pos (by decide), tl_ok hD1.2.1 ht, sb, sb, hD1.2.2.1.2.1, g6, wa_st (nT6 hD1.1.1 ht) (by omega) (by omega), sb, gr_st, tl_ok hD1.2.1 ht, sb, gf_st, hD1.2.2.1.2.1, pf_ok, sb, ← nI_succ, r_at hM1 (x := 10) (i := 10) rfl (by omega), sb, upA_ne (by omega), w_at hM1 (x := 10) (i := 10) rfl (by omega), sb, ← nI_succ]
    refine Or.inl ⟨_, _, _, e1, rfl, rfl, hD2.liq ht hc (gd_st_eq (nT6 hD1.1.1 ht) (by omega)) rfl, hM1.st (by omega), ?_, ?_, e1a, e1n, hT1, fr_Tf (fr_T (fr_A f0 f1) (by omega))⟩
    · intro i hi
      by_cases z : i = 1
      · subst z
        rw [if_pos rfl, upA_eq]
      · rw [if_neg z, upA_ne (by omega), upA_ne (by omega)]
    · rw [gf_sf, if_neg (by have := isT_num ht; omega)]
      exact g3
  · rw [(show s_X4_readNumber 1 20 S = _ from eS), sb, (show s_X8_told (nI (15 + A 10)) 1 20 M2 = _ from eM), sb]
    dsimp only
    rw [if_neg (by decide), if_neg (by decide)]
    exact Or.inr ⟨S1, M1, rfl, rfl, b1, b2, iv_dj hD1, fr_F f0 f1⟩
theorem j_bar {S0 S M : HS} {t n l e : Nat} {B A O : Nat → Nat} (ht : isT t) (hn : n ≤ 740) (he : e ≤ n) (hD : DJ S t n l B A O) (h3 : gf S 2 3 = nI e) (hM : MJ M n B A) (h4 : gf M 137 4 = nI e) (hc : A 11 < 36) (f0 : Fr (wRt t) S0 S) : OutL S0 t n l B O A 2 e (s_X4_readBar S) (s_X8_readBar M) := by
  have hl := hD.2.2.2.2.2.2.2.2.1.2.1
  obtain ⟨M2, a, b, c, _⟩ := go_next hn he hM h4
  unfold s_X4_readBar s_X8_readBar
  rw [r_at hM (x := 11) (i := 11) rfl (by omega), sb, if_pos (nI_nec (x := 36) 36 rfl (by omega) (by omega) (by omega)), a, sb, r_at b (x := 10) (i := 10) rfl (by omega), sb, tl_ok hD.2.1 ht, sb, hD.2.2.1.2.1]
  rcases j_one (N := A 10) ht hn he (by omega) hD h3 b c with ⟨S1, M1, x, e1, eS, eM, v1, e1a, e1n, hD1, g3, g6, hM1, hT1, k1, f1⟩ | ⟨S1, M1, eS, eM, b1, b2, hD1, f1⟩
  · rw [eS, sb, eM, sb]
    dsimp only
    rw [if_pos (by decide), if_pos (by decide), tl_ok hD1.2.1 ht, sb, hD1.2.2.1.2.1, r_at hM1 (x := 10) (i := 10) rfl (by omega), sb]
    rcases j_one (N := A 10) ht hn e1n (by omega) hD1 g3 hM1 hT1 with ⟨S2, M2, y, e2, eS2, eM2, v2, e2a, e2n, hD2, h3', h6, hM2, hT2, k2, f2⟩ | ⟨S2, M2, eS2, eM2, b1, b2, hD2, f2⟩
    · obtain ⟨m, em, hm, hD3⟩ := hD2.bar ht v1 v2 hc rfl
      have h5 : 2 ^ y < 2 ^ 31 := Nat.pow_lt_pow_right (by decide) (by omega)
      have h6' := hD.2.2.2.2.2.2.2.2.1.2.2.2.2.2.2.2.2.2.2.1 x (by omega)
      rw [eS2, sb, eM2, sb]
      dsimp only
      rw [if_pos (by decide), if_pos (by decide), tl_ok hD2.2.1 ht, sb, g6, h6, q_bar (by omega) (by omega) hm em, sb, k1, k2, show (21 : Int32) + nI x = nI (21 + x) from nI_add 21 _, r_at hM2 (i := 21 + x) rfl (by omega), sb, bit_shl (by omega), or_nI (by omega) h5, w_at hM2 (i := 21 + x) rfl (by omega), sb, r_at (hM2.st (by omega)) (x := 11) (i := 11) rfl (by omega), sb, upA_ne (by omega), w_at (hM2.st (by omega)) (x := 11) (i := 11) rfl (by omega), sb, ← nI_succ]
      refine Or.inl ⟨_, _, _, e2, rfl, rfl, hD3, (hM2.st (by omega)).st (by omega), ?_, h3', by omega, e2n, hT2, fr_sg (fr_A (fr_A f0 f1) f2) (Or.inr (Or.inr ⟨by omega, by omega⟩))⟩
      intro i hi
      by_cases z : i = 2
      · subst z
        rw [if_pos rfl, upA_eq]
      · rw [if_neg z, upA_ne (by omega), upA_ne (by omega)]
    · rw [eS2, sb, eM2, sb]
      dsimp only
      rw [if_neg (by decide), if_neg (by decide)]
      exact Or.inr ⟨S2, M2, rfl, rfl, b1, b2, iv_dj hD2, fr_F (fr_A f0 f1) f2⟩
  · rw [eS, sb, eM, sb]
    dsimp only
    rw [if_neg (by decide), if_neg (by decide)]
    exact Or.inr ⟨S1, M1, rfl, rfl, b1, b2, iv_dj hD1, fr_F f0 f1⟩
theorem j_last {S0 S M : HS} {t n l e : Nat} {B A O : Nat → Nat} (ht : isT t) (hn : n ≤ 740) (he : e ≤ n) (hD : DJ S t n l B A O) (h3 : gf S 2 3 = nI e) (hM : MJ M n B A) (h4 : gf M 137 4 = nI e) (hc : A 12 < 20) (f0 : Fr (wRt t) S0 S) : OutL S0 t n l B O A 3 e (s_X4_readLast S) (s_X8_readLast M) := by
  have hl := hD.2.2.2.2.2.2.2.2.1.2.1
  have hl9 := hD.2.2.2.2.2.2.2.2.1.1
  obtain ⟨M2, a, b, c, _⟩ := go_next hn he hM h4
  unfold s_X4_readLast s_X8_readLast
  rw [r_at hM (x := 12) (i := 12) rfl (by omega), sb, if_pos (nI_nec (x := 20) 20 rfl (by omega) (by omega) (by omega)), a, sb, r_at b (x := 9) (i := 9) rfl (by omega), sb, tl_ok hD.2.1 ht, sb, hD.2.2.1.1]
  rcases j_one (N := A 9) ht hn he (by omega) hD h3 b c with ⟨S1, M1, x, e1, eS, eM, v1, e1a, e1n, hD1, g3, g6, hM1, hT1, k1, f1⟩ | ⟨S1, M1, eS, eM, b1, b2, hD1, f1⟩
  · rw [eS, sb, eM, sb]
    dsimp only
    rw [if_pos (by decide), if_pos (by decide), tl_ok hD1.2.1 ht, sb, hD1.2.2.1.2.1, r_at hM1 (x := 10) (i := 10) rfl (by omega), sb]
    rcases j_one (N := A 10) ht hn e1n (by omega) hD1 g3 hM1 hT1 with ⟨S2, M2, y, e2, eS2, eM2, v2, e2a, e2n, hD2, h3', h6, hM2, hT2, k2, f2⟩ | ⟨S2, M2, eS2, eM2, b1, b2, hD2, f2⟩
    · rw [eS2, sb, eM2, sb]
      dsimp only
      rw [if_pos (by decide), if_pos (by decide), tl_ok hD2.2.1 ht, sb, g6, h6, wa_st (nT5 hD2.1.1 ht) (by omega) (by omega), sb, k1, k2, ← nI_succ, w_at hM2 (x := (27 : Int32) + (6 : Int32) * nI x + (5 : Int32)) (i := 32 + 6 * x) (ix_k (k := 5)) (by omega), sb, r_at (hM2.st (by omega)) (x := 12) (i := 12) rfl (by omega), sb, upA_ne (by omega), w_at (hM2.st (by omega)) (x := 12) (i := 12) rfl (by omega), sb, ← nI_succ]
      refine Or.inl ⟨_, _, _, e2, rfl, rfl, hD2.last ht v1 v2 hc rfl, (hM2.st (by omega)).st (by omega), ?_, h3', by omega, e2n, hT2, fr_T (fr_A (fr_A f0 f1) f2) (by omega)⟩
      intro i hi
      by_cases z : i = 3
      · subst z
        rw [if_pos rfl, upA_eq]
      · rw [if_neg z, upA_ne (by omega), upA_ne (by omega)]
    · rw [eS2, sb, eM2, sb]
      dsimp only
      rw [if_neg (by decide), if_neg (by decide)]
      exact Or.inr ⟨S2, M2, rfl, rfl, b1, b2, iv_dj hD2, fr_F (fr_A f0 f1) f2⟩
  · rw [eS, sb, eM, sb]
    dsimp only
    rw [if_neg (by decide), if_neg (by decide)]
    exact Or.inr ⟨S1, M1, rfl, rfl, b1, b2, iv_dj hD1, fr_F f0 f1⟩
theorem j_drop {S0 S M : HS} {t n l e : Nat} {B A O : Nat → Nat} (ht : isT t) (hn : n ≤ 740) (he : e ≤ n) (hD : DJ S t n l B A O) (h3 : gf S 2 3 = nI e) (hM : MJ M n B A) (h4 : gf M 137 4 = nI e) (hc : A 13 < 4) (f0 : Fr (wRt t) S0 S) : OutL S0 t n l B O A 4 e (s_X4_readDrop S) (s_X8_readDrop M) := by
  have hn' := isT_num ht
  have hl := hD.2.2.2.2.2.2.2.2.1.2.1
  obtain ⟨M2, a, b, c, _⟩ := go_next hn he hM h4
  unfold s_X4_readDrop s_X8_readDrop
  rw [r_at hM (x := 13) (i := 13) rfl (by omega), sb, if_pos (nI_nec (x := 4) 4 rfl (by omega) (by omega) (by omega)), a, sb, r_at b (x := 13) (i := 13) rfl (by omega), sb, r_at b (x := 10) (i := 10) rfl (by omega), sb, tl_ok hD.2.1 ht, sb, hD.2.2.1.2.1]
  rcases j_one (N := A 10) ht hn he (by omega) hD h3 b c with ⟨S1, M1, x, e1, eS, eM, v1, e1a, e1n, hD1, g3, g6, hM1, hT1, k1, f1⟩ | ⟨S1, M1, eS, eM, b1, b2, hD1, f1⟩
  · have hD2 : DJ (st S1 (t + 7) (A 13) (nI x)) t n l B A O := hD1.free ht (Or.inr (Or.inr (Or.inl ⟨rfl, Nat.le_refl _⟩))) (fun _ => ⟨x, by omega, rfl⟩)
    rw [eS, sb, eM, sb]
    dsimp only
    rw [if_pos (by decide), if_pos (by decide), tl_ok hD1.2.1 ht, sb, sb, hD1.2.2.2.2.1, g6, wa_st (nT7 hD1.1.1 ht) (by omega) (by omega), sb, k1, w_at hM1 (x := (57 : Int32) + (5 : Int32) * nI (A 13) + (0 : Int32)) (i := 57 + 5 * A 13) (id_k (k := 0)) (by omega), sb, show ((57 : Int32) + (5 : Int32) * nI (A 13)) + 1 = nI (58 + 5 * A 13) from id_k (k := 1)]
    rcases j_num (i := 58 + 5 * A 13) (lo := 1) (hi := 4995) (M := st M1 140 (57 + 5 * A 13) (nI x)) ht hn e1n (by omega) (by omega) hD2 g3 (hM1.st (by omega)) hT1 (by omega) with ⟨S2, M2, v, e2, eS2, eM2, w1, w2, e2a, e2n, hD3, h3', h6, hM2, hT2, f2⟩ | ⟨S2, M2, eS2, eM2, b1, b2, hD3, f2⟩
    · have hD4 : DJ (st S2 (t + 8) (A 13) (nI v)) t n l B A O := hD3.free ht (Or.inr (Or.inr (Or.inr ⟨rfl, Nat.le_refl _⟩))) (fun z => by omega)
      have e7 : (ga S2 (t + 7)).getD (A 13) 0 = nI x := by
        rw [f2.2.2.1 (t + 7) (by unfold wA; omega)]
        exact gd_st_eq (nT7 hD1.1.1 ht) (by omega)
      rw [(show s_X4_readNumber 1 4995 (st S1 (t + 7) (A 13) (nI x)) = _ from eS2), sb, (show s_X8_told (nI (58 + 5 * A 13)) 1 4995 (st M1 140 (57 + 5 * A 13) (nI x)) = _ from eM2), sb]
      dsimp only
      rw [if_pos (by decide), if_pos (by decide), tl_ok hD3.2.1 ht, sb, sb, hD3.2.2.2.2.1, h6, wa_st (nT8 hD3.1.1 ht) (by omega) (by omega), sb, gr_st, tl_ok hD3.2.1 ht, sb, gf_st, hD3.2.2.2.2.1, pf_ok, sb, ← nI_succ, r_at hM2 (x := 13) (i := 13) rfl (by omega), sb, upA_ne (by omega), upA_ne (by omega), w_at hM2 (x := 13) (i := 13) rfl (by omega), sb, ← nI_succ]
      refine Or.inl ⟨_, _, _, e2, rfl, rfl, hD4.drp ht hc v1 ⟨w1, w2⟩ (by rw [gd_st (by omega)]; exact e7) (gd_st_eq (nT8 hD3.1.1 ht) (by omega)) rfl, hM2.st (by omega), ?_, ?_, by omega, e2n, hT2, fr_Tf (fr_T (fr_A (fr_T (fr_A f0 f1) (by omega)) f2) (by omega))⟩
      · intro i hi
        by_cases z : i = 4
        · subst z
          rw [if_pos rfl, upA_eq]
        · rw [if_neg z, upA_ne (by omega), upA_ne (by omega), upA_ne (by omega)]
      · rw [gf_sf, if_neg (by omega)]
        exact h3'
    · rw [(show s_X4_readNumber 1 4995 (st S1 (t + 7) (A 13) (nI x)) = _ from eS2), sb, (show s_X8_told (nI (58 + 5 * A 13)) 1 4995 (st M1 140 (57 + 5 * A 13) (nI x)) = _ from eM2), sb]
      dsimp only
      rw [if_neg (by decide), if_neg (by decide)]
      exact Or.inr ⟨S2, M2, rfl, rfl, b1, b2, iv_dj hD3, fr_F (fr_T (fr_A f0 f1) (by omega)) f2⟩
  · rw [eS, sb, eM, sb]
    dsimp only
    rw [if_neg (by decide), if_neg (by decide)]
    exact Or.inr ⟨S1, M1, rfl, rfl, b1, b2, iv_dj hD1, fr_F f0 f1⟩
