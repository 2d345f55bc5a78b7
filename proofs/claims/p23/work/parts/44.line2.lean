/-! the lines of a compartment and of the tanker -/
def b7 : Int64 := (s_X8_six 98 97 102 102 108 101).getD 0
theorem wv_7a : s_X8_six 98 97 102 102 108 101 = some b7 := rfl
theorem wv_7b : (27 : Int64) * b7 + (4 : Int64) = wv (UInt32.toNat 7) := by decide +kernel
theorem j_bad1 {S0 S M : HS} {t n l s e sort : Nat} {B A A0 O : Nat → Nat} (w : Nat) (x : Int32) (hx : x = nI w) (hw : w = 1 ∨ tkK B n s ≠ 0) (ht : isT t) (hD : DJ S t n l B A O) (hC : CurD S B n s) (hT : TkM B n s M) (f0 : Fr (wRt t) S0 S) : OutL S0 t n l B O A0 sort e (Option.bind (s_X4_refuse x S) fun q => Option.bind (gz q.1) fun _ => some (q.1, q.2)) (Option.bind (s_X8_bad x M) fun q => Option.bind (gz q.1) fun _ => some (q.1, q.2)) := by
  obtain ⟨M4, z1, z2, z3⟩ := q_bad (w := w) hT
  have hb := bad_refuse (w := w) (fr_rf (W := wA) (S := S)) hC.2.2.1
  rw [hx, z1, sb, q_refuse, sb]
  refine Or.inr ⟨_, M4, rfl, rfl, ?_, ?_, iv_dj (hD.fr ht hb.1 (fun k j z => z)), fr_F f0 hb.1⟩
  · rw [hb.2.1, z2]
    congr 1
    rcases hw with rfl | hw
    · split <;> rfl
    · rw [if_neg hw]
  · rw [hb.2.2, z3]
theorem j_comp {S0 S M : HS} {t n l e : Nat} {B A O : Nat → Nat} (ht : isT t) (hn : n ≤ 740) (he : e ≤ n) (hD : DJ S t n l B A O) (h3 : gf S 2 3 = nI e) (hM : MJ M n B A) (h4 : gf M 137 4 = nI e) (hc : A 9 < 5) (f0 : Fr (wRt t) S0 S) : OutL S0 t n l B O A 0 e (s_X4_readCompartment S) (s_X8_readHold M) := by
  have hn' := isT_num ht
  obtain ⟨M2, a, b, c, _⟩ := go_next hn he hM h4
  unfold s_X4_readCompartment s_X8_readHold
  rw [r_at hM (x := 9) (i := 9) rfl (by omega), sb, if_pos (nI_nec (x := 5) 5 rfl (by omega) (by omega) (by omega)), a, sb, r_at b (x := 9) (i := 9) rfl (by omega), sb, show ((27 : Int32) + (6 : Int32) * nI (A 9)) + 0 = nI (27 + 6 * A 9) from ix_k (k := 0), show ((27 : Int32) + (6 : Int32) * nI (A 9)) + 1 = nI (28 + 6 * A 9) from ix_k (k := 1)]
  rcases j_num (i := 27 + 6 * A 9) (lo := 1) (hi := 999) ht hn he (by omega) (by omega) hD h3 b c (by omega) with ⟨S1, M1, v, e1, eS, eM, v1, v2, e1a, e1n, hD1, g3, g6, hM1, hT1, f1⟩ | ⟨S1, M1, eS, eM, b1, b2, hD1, f1⟩
  · have hD2 : DJ (st S1 (t + 2) (A 9) (nI v)) t n l B A O := hD1.free ht (Or.inl ⟨Or.inl rfl, Nat.le_refl _⟩) (fun z => by omega)
    rw [(show s_X4_readNumber 1 999 S = _ from eS), sb, (show s_X8_told (nI (27 + 6 * A 9)) 1 999 M2 = _ from eM), sb]
    dsimp only
    rw [if_pos (by decide), if_neg (by decide), tl_ok hD1.2.1 ht, sb, sb, hD1.2.2.1.1, g6, wa_st (nT2 hD1.1.1 ht) (by omega) (by omega), sb]
    rcases j_num (i := 28 + 6 * A 9) (lo := 0) (hi := 99) ht hn e1n (by omega) (by omega) hD2 g3 hM1 hT1 (by omega) with ⟨S2, M3, w, e2, eS2, eM2, w1, w2, e2a, e2n, hD3, h3', h6, hM3, hT3, f2⟩ | ⟨S2, M3, eS2, eM2, b1, b2, hD3, f2⟩
    · have hD4 : DJ (st S2 (t + 3) (A 9) (nI w)) t n l B A O := hD3.free ht (Or.inl ⟨Or.inr (Or.inl rfl), Nat.le_refl _⟩) (fun z => by omega)
      rw [(show s_X4_readNumber 0 99 (st S1 (t + 2) (A 9) (nI v)) = _ from eS2), sb, (show s_X8_told (nI (28 + 6 * A 9)) 0 99 M1 = _ from eM2), sb]
      dsimp only
      rw [if_pos (by decide), if_pos (by decide), tl_ok hD3.2.1 ht, sb, sb, hD3.2.2.1.1, h6, wa_st (nT3 hD3.1.1 ht) (by omega) (by omega), sb]
      obtain ⟨S3, eA, f3, cA⟩ := q_adv hn e2n hD4.1 h3'
      have hD5 := hD4.fr ht f3 (fun k j z => by unfold wA at z; unfold wF; omega)
      have hs := tkS_rng (B := B) e2n
      have he3 := tkE_rng (B := B) hs.2
      have f5 : Fr (wRt t) S0 S3 := fr_A (fr_T (fr_A (fr_T (fr_A f0 f1) (by omega)) f2) (by omega)) f3
      rw [eA, sb, wv_6, sb]
      generalize tkS B n e2 = s at *
      have y2 : (ga S3 (t + 2)).getD (A 9) 0 = nI v := by
        rw [f3.2.2.1 (t + 2) (by unfold wA; omega), gd_st (by omega), f2.2.2.1 (t + 2) (by unfold wA; omega)]
        exact gd_st_eq (nT2 hD1.1.1 ht) (by omega)
      have y3 : (ga S3 (t + 3)).getD (A 9) 0 = nI w := by
        rw [f3.2.2.1 (t + 3) (by unfold wA; omega)]
        exact gd_st_eq (nT3 hD3.1.1 ht) (by omega)
      have fin : ∀ o : Nat, o = 0 ∨ o = 1 → tkK B n s = 1 → OutL S0 t n l B O A 0 e (s_X4_readCompartment_J93 (nI o) S3) (s_X8_readHold_J120 ((27 : Int32) + (6 : Int32) * nI (A 9)) (nI o) M3) := by
        intro o ho k1
        have hD6 : DJ (st S3 (t + 4) (A 9) (nI o)) t n l B A O := hD5.free ht (Or.inl ⟨Or.inr (Or.inr rfl), Nat.le_refl _⟩) (fun z => by omega)
        have hM4 : MJ (st M3 140 (29 + 6 * A 9) (nI o)) n B (upA (upA (upA A (27 + 6 * A 9) v) (28 + 6 * A 9) w) (29 + 6 * A 9) o) := hM3.st (by omega)
        have h44 : gf (st M3 140 (29 + 6 * A 9) (nI o)) 137 4 = nI (tkE B n s) := hT3.2.2.1 (by omega)
        obtain ⟨M5, a5, b5, c5, _⟩ := go_next hn he3.2 hM4 h44
        have eD : s_X4_readCompartment_J93 (nI o) S3 = some (1, sf (st S3 (t + 4) (A 9) (nI o)) t 1 (nI (A 9 + 1))) := by
          unfold s_X4_readCompartment_J93
          rw [tl_ok hD5.2.1 ht, sb, sb, hD5.2.2.1.1]
          rcases ho with rfl | rfl
          · rw [if_pos (show nI 0 = (0 : Int32) from rfl), (show wa S3 (t + 4) (nI (A 9)) 0 = some (st S3 (t + 4) (A 9) (nI 0)) from wa_st (nT4 hD5.1.1 ht) (by omega) (by omega)), sb, gr_st, tl_ok hD5.2.1 ht, sb, gf_st, hD5.2.2.1.1, pf_ok, sb, ← nI_succ]
          · rw [if_neg (by decide), (show wa S3 (t + 4) (nI (A 9)) 1 = some (st S3 (t + 4) (A 9) (nI 1)) from wa_st (nT4 hD5.1.1 ht) (by omega) (by omega)), sb, gr_st, tl_ok hD5.2.1 ht, sb, gf_st, hD5.2.2.1.1, pf_ok, sb, ← nI_succ]
        have eJ : s_X8_readHold_J136 (((27 : Int32) + (6 : Int32) * nI (A 9)) + (2 : Int32)) (nI o) M3 = some (1, st M5 140 9 (nI (A 9 + 1))) := by
          unfold s_X8_readHold_J136
          rw [w_at hM3 (x := ((27 : Int32) + (6 : Int32) * nI (A 9)) + (2 : Int32)) (i := 29 + 6 * A 9) (ix_k (k := 2)) (by omega), sb, a5, sb, r_at b5 (x := 9) (i := 9) rfl (by omega), sb, upA_ne (by omega), upA_ne (by omega), upA_ne (by omega), w_at b5 (x := 9) (i := 9) rfl (by omega), sb, ← nI_succ]
        have eM : s_X8_readHold_J120 ((27 : Int32) + (6 : Int32) * nI (A 9)) (nI o) M3 = some (1, st M5 140 9 (nI (A 9 + 1))) := by
          unfold s_X8_readHold_J120
          rcases ho with rfl | rfl
          · rw [if_pos (show nI 0 = (0 : Int32) from rfl)]
            exact eJ
          · rw [if_neg (by decide)]
            exact eJ
        refine Or.inl ⟨_, _, _, tkE B n s, eD, eM, hD6.comp ht hc ⟨v1, v2⟩ w2 (by omega) (by rw [gd_st (by omega)]; exact y2) (by rw [gd_st (by omega)]; exact y3) (gd_st_eq (nT4 hD5.1.1 ht) (by omega)) rfl, b5.st (by omega), ?_, ?_, by omega, he3.2, c5, fr_Tf (fr_T f5 (by omega))⟩
        · intro i hi
          by_cases z : i = 0
          · subst z
            rw [if_pos rfl, upA_eq]
          · rw [if_neg z, upA_ne (by omega), upA_ne (by omega), upA_ne (by omega), upA_ne (by omega)]
        · rw [gf_sf, if_neg (by omega)]
          exact cA.1
      rcases j_word (u := 6) hn hD5.1 hs.2 cA hT3 (by decide) rfl with ⟨k1, x1, x2⟩ | ⟨x1, x2⟩
      · rw [x1, sb, (show s_X8_isWord (wv 6) M3 = _ from x2), sb, if_pos (by decide), if_pos (by decide)]
        exact fin 1 (Or.inr rfl) k1
      · rw [x1, sb, (show s_X8_isWord (wv 6) M3 = _ from x2), sb, if_neg (by decide), if_neg (by decide), wv_7a, sb]
        rcases j_word (u := 7) hn hD5.1 hs.2 cA hT3 (by decide) wv_7b with ⟨k1, y1, y2⟩ | ⟨y1, y2⟩
        · rw [y1, sb, y2, sb, if_pos (by decide), if_pos (by decide)]
          exact fin 0 (Or.inl rfl) k1
        · rw [y1, sb, y2, sb, if_neg (by decide), if_neg (by decide)]
          exact j_bad1 1 1 rfl (Or.inl rfl) ht hD5 cA hT3 f5
    · rw [(show s_X4_readNumber 0 99 (st S1 (t + 2) (A 9) (nI v)) = _ from eS2), sb, (show s_X8_told (nI (28 + 6 * A 9)) 0 99 M1 = _ from eM2), sb]
      dsimp only
      rw [if_neg (by decide), if_neg (by decide)]
      exact Or.inr ⟨S2, M3, rfl, rfl, b1, b2, iv_dj hD3, fr_F (fr_T (fr_A f0 f1) (by omega)) f2⟩
  · rw [(show s_X4_readNumber 1 999 S = _ from eS), sb, (show s_X8_told (nI (27 + 6 * A 9)) 1 999 M2 = _ from eM), sb]
    dsimp only
    rw [if_neg (by decide), if_pos (by decide)]
    exact Or.inr ⟨S1, M1, rfl, rfl, b1, b2, iv_dj hD1, fr_F f0 f1⟩
/-! the tanker -/
def lo0 (i : Nat) : Nat := [1, 0, 0, 0, 0, 0, 1, 0, 0].getD i 0
def hi0 (i : Nat) : Nat := [99, 9999, 9999, 9999, 9999, 9999, 100, 100, 100].getD i 0
theorem tb_lo {i : Nat} (h : i < 9) : tb 0 (nI i) = some (nI (lo0 i)) := (by decide +kernel : ∀ i : Fin 9, tb 0 (nI i.val) = some (nI (lo0 i.val))) ⟨i, h⟩
theorem tb_hi {i : Nat} (h : i < 9) : tb 1 (nI i) = some (nI (hi0 i)) := (by decide +kernel : ∀ i : Fin 9, tb 1 (nI i.val) = some (nI (hi0 i.val))) ⟨i, h⟩
theorem hi_rng {i : Nat} (h : i < 9) : lo0 i ≤ 100 ∧ hi0 i ≤ 9999 ∧ 99 ≤ hi0 i ∧ (i = 0 → lo0 i = 1 ∧ hi0 i = 99) ∧ (6 ≤ i → hi0 i = 100) := (by decide : ∀ i : Fin 9, lo0 i.val ≤ 100 ∧ hi0 i.val ≤ 9999 ∧ 99 ≤ hi0 i.val ∧ (i.val = 0 → lo0 i.val = 1 ∧ hi0 i.val = 99) ∧ (6 ≤ i.val → hi0 i.val = 100)) ⟨i, h⟩
def loA (A : Nat → Nat) (i : Nat) : Nat := if i = 8 then A 7 else lo0 i
theorem t_step {S0 S M : HS} {t n l a i K : Nat} {B A O : Nat → Nat} (ht : isT t) (hn : n ≤ 740) (ha : a ≤ n) (hi : i < 9) (h7 : i = 8 → A 7 ≤ 100) (hD : DJ S t n l B A O) (h3 : gf S 2 3 = nI a) (hM : MJ M n B A) (hT : TkM B n (tkS B n a) M) (f0 : Fr (wRt t) S0 S) : (∃ S1 M1 v e1, s_X4_readTanker_L17 (K + 1) (nI i) S = s_X4_readTanker_L17 K (nI (i + 1)) S1 ∧ s_X8_told (nI i) (nI (loA A i)) (nI (hi0 i)) M = some (1, M1) ∧ DJ S1 t n l B (upA A i v) O ∧ MJ M1 n B (upA A i v) ∧ v ≤ hi0 i ∧ gf S1 2 3 = nI e1 ∧ a ≤ e1 ∧ e1 ≤ n ∧ TkM B n (tkS B n e1) M1 ∧ Fr (wRt t) S0 S1) ∨ (∃ S1 M1, s_X4_readTanker_L17 (K + 1) (nI i) S = some (0, S1) ∧ s_X8_told (nI i) (nI (loA A i)) (nI (hi0 i)) M = some (0, M1) ∧ gf S1 2 9 = gf M1 137 8 ∧ gf S1 2 10 = gf M1 137 9 ∧ IvT S1 t ∧ Fr (wRt t) S0 S1) := by
  have hr := hi_rng hi
  have hl : loA A i ≤ hi0 i + 1 := by
    unfold loA
    split
    · have := h7 (by assumption)
      omega
    · omega
  have eL : s_X4_readTanker_L17 (K + 1) (nI i) S = s_X4_readTanker_J47 (s_X4_readTanker_L17 K) (nI i) (nI (loA A i)) S := by
    rw [s_X4_readTanker_L17, if_neg (show ¬ (9 : Int32) ≤ nI i from nI_ge (b := 9) hi (by omega))]
    unfold loA
    by_cases z : i = 8
    · subst z
      rw [if_neg (fun z => z rfl), tl_ok hD.2.1 ht, sb, (show ag (ga S (t + 1)) (7 : Int32) = some ((ga S (t + 1)).getD 7 0) from ag_ok (k := 7) (nT1 hD.1.1 ht) (by omega) (by omega)), sb, hD.2.2.1.2.2.1 7 (by omega), if_pos rfl]
    · rw [if_pos (nI_nec (x := 8) 8 rfl (by omega) (by omega) z), tb_lo hi, sb, if_neg z]
  rw [eL]
  unfold s_X4_readTanker_J47
  rw [tb_hi hi, sb]
  rcases j_num (i := i) (lo := loA A i) (hi := hi0 i) ht hn ha hl hr.2.1 hD h3 hM hT (by omega) with ⟨S1, M1, v, e1, eS, eM, v1, v2, e1a, e1n, hD1, g3, g6, hM1, hT1, f1⟩ | ⟨S1, M1, eS, eM, b1, b2, hD1, f1⟩
  · rw [eS, sb, eM]
    dsimp only
    rw [if_pos (by decide), tl_ok hD1.2.1 ht, sb, g6, wa_st (nT1 hD1.1.1 ht) (by omega) (by omega), sb, ← nI_succ]
    refine Or.inl ⟨_, M1, v, e1, rfl, rfl, hD1.head ht hi (by omega) ?_ ?_ rfl, hM1, v2, g3, e1a, e1n, hT1, fr_T (fr_A f0 f1) (by omega)⟩
    · intro z
      have := hr.2.2.2.1 z
      unfold loA at v1
      rw [if_neg (by omega)] at v1
      omega
    · intro z
      have := hr.2.2.2.2 (by omega)
      omega
  · rw [eS, sb, eM]
    dsimp only
    rw [if_neg (by decide)]
    exact Or.inr ⟨S1, M1, rfl, rfl, b1, b2, iv_dj hD1, fr_F f0 f1⟩
theorem lt47 {K i : Nat} {M : HS} (h : i ≤ 5) : s_X8_readTanker_L47 (K + 1) (nI i) M = Option.bind (s_X8_told (nI i) (0 : Int32) (9999 : Int32) M) fun q9 => if q9.1 ≠ (0 : Int32) then s_X8_readTanker_L47 K (nI (i + 1)) q9.2 else some ((0 : Int32), q9.2) := by
  rw [s_X8_readTanker_L47, if_neg (show ¬ (5 : Int32) < nI i from nI_nlt (a := 5) h (by omega)), ← nI_succ]
theorem j_tank {S0 S M : HS} {t n l s : Nat} {B A O : Nat → Nat} (ht : isT t) (hn : n ≤ 740) (hs : s ≤ n) (hD : DJ S t n l B A O) (hC : CurD S B n s) (hM : MJ M n B A) (hT : TkM B n s M) (f0 : Fr (wRt t) S0 S) : OutL S0 t n l B O A 9 (s + 1) (s_X4_readTanker S) (s_X8_readTanker M) := by
  have he := tkE_rng (B := B) hs
  unfold s_X4_readTanker s_X8_readTanker
  rw [wv_0, sb]
  rcases j_word (u := 0) hn hD.1 hs hC hT (by decide) rfl with ⟨k1, x1, x2⟩ | ⟨x1, x2⟩
  · have hlt := tkE_lt (B := B) hs (by omega) (by omega)
    obtain ⟨M2, a, b, c, _⟩ := go_next hn he.2 hM (hT.2.2.1 (by omega))
    rw [x1, sb, (show s_X8_isWord (wv 0) M = _ from x2), sb, if_pos (by decide), if_pos (by decide), a, sb]
    have bad : ∀ {rs rm : Option (Int32 × HS)} {S1 M1 : HS}, rs = some (0, S1) → rm = some (0, M1) → gf S1 2 9 = gf M1 137 8 ∧ gf S1 2 10 = gf M1 137 9 ∧ IvT S1 t ∧ Fr (wRt t) S0 S1 → OutL S0 t n l B O A 9 (s + 1) rs rm := fun h1 h2 h => Or.inr ⟨_, _, h1, h2, h⟩
    have L17 : ∀ x : Int32, s_X4_readTanker_L17 40 x S = s_X4_readTanker_L17 (39 + 1) x S := fun _ => rfl
    rcases Or.symm (t_step (i := 0) (K := 39) ht hn he.2 (by omega) (by omega) hD hC.1 b c f0) with ⟨S1, M1, d0, m0, r⟩ | ⟨S1, M1, v0, e0, d0, m0, hD0, hM0, l0, g0, p0, q0, hT0, f0'⟩
    · exact bad d0 (by rw [(show s_X8_told 0 1 99 M2 = _ from m0), sb]; rfl) r
    rw [(show s_X4_readTanker_L17 40 0 S = _ from d0), (show s_X8_told 0 1 99 M2 = _ from m0), sb]
    dsimp only
    rw [if_pos (by decide)]
    rcases Or.symm (t_step (i := 1) (K := 38) ht hn q0 (by omega) (by omega) hD0 g0 hM0 hT0 f0') with ⟨S2, M3, d1, m1, r⟩ | ⟨S2, M3, v1, e1, d1, m1, hD1, hM1, l1, g1, p1, q1, hT1, f1⟩
    · exact bad d1 (by rw [(show s_X8_readTanker_L47 40 1 M1 = _ from lt47 (K := 39) (i := 1) (by omega)), (show s_X8_told (nI 1) 0 9999 M1 = _ from m1), sb]; rfl) r
    rw [d1, (show s_X8_readTanker_L47 40 1 M1 = _ from lt47 (K := 39) (i := 1) (by omega)), (show s_X8_told (nI 1) 0 9999 M1 = _ from m1), sb]
    dsimp only
    rw [if_pos (by decide)]
    rcases Or.symm (t_step (i := 2) (K := 37) ht hn q1 (by omega) (by omega) hD1 g1 hM1 hT1 f1) with ⟨S3, M4, d2, m2, r⟩ | ⟨S3, M4, v2, e2, d2, m2, hD2, hM2, l2, g2, p2, q2, hT2, f2⟩
    · exact bad d2 (by rw [lt47 (i := 2) (by omega), (show s_X8_told (nI 2) 0 9999 M3 = _ from m2), sb]; rfl) r
    rw [d2, lt47 (i := 2) (by omega), (show s_X8_told (nI 2) 0 9999 M3 = _ from m2), sb]
    dsimp only
    rw [if_pos (by decide)]
    rcases Or.symm (t_step (i := 3) (K := 36) ht hn q2 (by omega) (by omega) hD2 g2 hM2 hT2 f2) with ⟨S4, M5, d3, m3, r⟩ | ⟨S4, M5, v3, e3, d3, m3, hD3, hM3, l3, g3, p3, q3, hT3, f3⟩
    · exact bad d3 (by rw [lt47 (i := 3) (by omega), (show s_X8_told (nI 3) 0 9999 M4 = _ from m3), sb]; rfl) r
    rw [d3, lt47 (i := 3) (by omega), (show s_X8_told (nI 3) 0 9999 M4 = _ from m3), sb]
    dsimp only
    rw [if_pos (by decide)]
    rcases Or.symm (t_step (i := 4) (K := 35) ht hn q3 (by omega) (by omega) hD3 g3 hM3 hT3 f3) with ⟨S5, M6, d4, m4, r⟩ | ⟨S5, M6, v4, e4, d4, m4, hD4, hM4, l4, g4, p4, q4, hT4, f4⟩
    · exact bad d4 (by rw [lt47 (i := 4) (by omega), (show s_X8_told (nI 4) 0 9999 M5 = _ from m4), sb]; rfl) r
    rw [d4, lt47 (i := 4) (by omega), (show s_X8_told (nI 4) 0 9999 M5 = _ from m4), sb]
    dsimp only
    rw [if_pos (by decide)]
    rcases Or.symm (t_step (i := 5) (K := 34) ht hn q4 (by omega) (by omega) hD4 g4 hM4 hT4 f4) with ⟨S6, M7, d5, m5, r⟩ | ⟨S6, M7, v5, e5, d5, m5, hD5, hM5, l5, g5, p5, q5, hT5, f5⟩
    · exact bad d5 (by rw [lt47 (i := 5) (by omega), (show s_X8_told (nI 5) 0 9999 M6 = _ from m5), sb]; rfl) r
    rw [d5, lt47 (i := 5) (by omega), (show s_X8_told (nI 5) 0 9999 M6 = _ from m5), sb]
    dsimp only
    rw [if_pos (by decide), s_X8_readTanker_L47, if_pos (by decide)]
    rcases Or.symm (t_step (i := 6) (K := 33) ht hn q5 (by omega) (by omega) hD5 g5 hM5 hT5 f5) with ⟨S7, M8, d6, m6, r⟩ | ⟨S7, M8, v6, e6, d6, m6, hD6, hM6, l6, g6, p6, q6, hT6, f6⟩
    · exact bad d6 (by rw [(show s_X8_told 6 1 100 M7 = _ from m6), sb]; rfl) r
    rw [d6, (show s_X8_told 6 1 100 M7 = _ from m6), sb]
    dsimp only
    rw [if_neg (by decide)]
    rcases Or.symm (t_step (i := 7) (K := 32) ht hn q6 (by omega) (by omega) hD6 g6 hM6 hT6 f6) with ⟨S8, M9, d7, m7, r⟩ | ⟨S8, M9, v7, e7, d7, m7, hD7, hM7, l7, g7, p7, q7, hT7, f7⟩
    · exact bad d7 (by rw [(show s_X8_told 7 0 100 M8 = _ from m7), sb]; rfl) r
    rw [d7, (show s_X8_told 7 0 100 M8 = _ from m7), sb]
    dsimp only
    rw [if_neg (by decide), r_at hM7 (x := 7) (i := 7) rfl (by omega), sb]
    rcases Or.symm (t_step (i := 8) (K := 31) ht hn q7 (by omega) (fun _ => by rw [upA_eq]; exact l7) hD7 g7 hM7 hT7 f7) with ⟨S9, Ma, d8, m8, r⟩ | ⟨S9, Ma, v8, e8, d8, m8, hD8, hM8, l8, g8, p8, q8, hT8, f8⟩
    · exact bad d8 (by rw [(show s_X8_told 8 (nI ((upA (upA (upA (upA (upA (upA (upA (upA A 0 v0) 1 v1) 2 v2) 3 v3) 4 v4) 5 v5) 6 v6) 7 v7) 7)) 100 M9 = _ from m8), sb]; rfl) r
    rw [d8, (show s_X8_told 8 (nI ((upA (upA (upA (upA (upA (upA (upA (upA A 0 v0) 1 v1) 2 v2) 3 v3) 4 v4) 5 v5) 6 v6) 7 v7) 7)) 100 M9 = _ from m8), sb]
    dsimp only
    rw [if_neg (by decide), s_X4_readTanker_L17, if_pos (by decide)]
    refine Or.inl ⟨_, _, _, e8, rfl, rfl, hD8, hM8, ?_, g8, by omega, q8, hT8, f8⟩
    intro i hi
    rw [if_neg (by omega), upA_ne (by omega), upA_ne (by omega), upA_ne (by omega), upA_ne (by omega), upA_ne (by omega), upA_ne (by omega), upA_ne (by omega), upA_ne (by omega), upA_ne (by omega)]
  · rw [x1, sb, (show s_X8_isWord (wv 0) M = _ from x2), sb, if_neg (by decide), if_neg (by decide)]
    exact j_bad1 1 1 rfl (Or.inl rfl) ht hD hC hT f0
