/-! a whole text, on both sides -/
def OutN (S0 : HS) (t n l : Nat) (B : Nat → Nat) (s : Nat) (rs rm : Option (Int32 × HS)) : Prop :=
  (∃ S1 M1 A1 e1, rs = some (1, S1) ∧ rm = some (1, M1) ∧ DJ S1 t n l B A1 (fun i => A1 (9 + i)) ∧ MJ M1 n B A1 ∧ gf S1 2 3 = nI e1 ∧ s + 1 ≤ e1 ∧ e1 ≤ n ∧ TkM B n (tkS B n e1) M1 ∧ Fr (wRt t) S0 S1) ∨
  (∃ S1 M1, rs = some (0, S1) ∧ rm = some (0, M1) ∧ gf S1 2 9 = gf M1 137 8 ∧ gf S1 2 10 = gf M1 137 9 ∧ IvT S1 t ∧ Fr (wRt t) S0 S1)
theorem DJ.setO {S : HS} {t n l : Nat} {B A O O' : Nat → Nat} (h : DJ S t n l B A O) (hO : ∀ i, i < 5 → O i = O' i) : DJ S t n l B A O' := by
  obtain ⟨a, b, c, d, e, f, g, r⟩ := h
  exact ⟨a, b, c, d, e, f, fun i hi => by rw [← hO i hi]; exact g i hi, r⟩
theorem out_n {S0 : HS} {t n l sort e s : Nat} {B O A : Nat → Nat} {rs rm : Option (Int32 × HS)} (h : OutL S0 t n l B O A sort e rs rm) (hO : ∀ i, i < 5 → O i = if i = sort then A (9 + i) + 1 else A (9 + i)) (he : s + 1 ≤ e) : OutN S0 t n l B s (Option.bind rs fun q => Option.bind (gz q.1) fun _ => some (q.1, q.2)) (Option.bind rm fun q => Option.bind (gz q.1) fun _ => some (q.1, q.2)) := by
  rcases h with ⟨S1, M1, A1, e1, e2, e3, a, b, c, d, f, g, i, j⟩ | ⟨S1, M1, e2, e3, r⟩
  · rw [e2, e3]
    exact Or.inl ⟨S1, M1, A1, e1, rfl, rfl, a.setO (fun i hi => by rw [hO i hi, c i hi]), b, d, by omega, g, i, j⟩
  · rw [e2, e3]
    exact Or.inr ⟨S1, M1, rfl, rfl, r⟩
theorem out_t {S0 : HS} {t n l sort e s : Nat} {B O A : Nat → Nat} {rs rm : Option (Int32 × HS)} (h : OutL S0 t n l B O A sort e rs rm) (hO : ∀ i, i < 5 → O i = if i = sort then A (9 + i) + 1 else A (9 + i)) (he : s + 1 ≤ e) : OutN S0 t n l B s rs (Option.bind rm fun q => Option.bind (gz q.1) fun _ => some (q.1, q.2)) := by
  rcases h with ⟨S1, M1, A1, e1, e2, e3, a, b, c, d, f, g, i, j⟩ | ⟨S1, M1, e2, e3, r⟩
  · rw [e2, e3]
    exact Or.inl ⟨S1, M1, A1, e1, rfl, rfl, a.setO (fun i hi => by rw [hO i hi, c i hi]), b, d, by omega, g, i, j⟩
  · rw [e2, e3]
    exact Or.inr ⟨S1, M1, rfl, rfl, r⟩
theorem DJ.cnt {S : HS} {t n l σ v : Nat} {B A O : Nat → Nat} (h : DJ S t n l B A O) (ht : isT t) (hσ : σ < 5) : DJ (st S 3 σ (nI v)) t n l B A (fun i => if i = σ then v else O i) := by
  have hn := isT_num ht
  obtain ⟨a, b, c, d, e, f, g, r⟩ := h
  refine ⟨a.st (by omega), b, c.keep (fun _ => rfl) rfl (fun i hi => ga_st_ne (by omega)), ?_, e, ?_, ?_, r⟩
  · intro j hj
    rw [gd_st (by omega)]
    exact d j hj
  · intro j hj
    rw [gd_st (by omega)]
    exact f j hj
  · intro j hj
    show _ = nI (if j = σ then v else O j)
    by_cases z : j = σ
    · subst z
      rw [gd_st_eq (nD3 a.1) hj, if_pos rfl]
    · rw [gd_st (by omega), if_neg z]
      exact g j hj
def c6 : Int64 := (s_X8_six 99 111 109 112 97 114).getD 0
def c3 : Int64 := (s_X8_three 116 109 101).getD 0
theorem wv_1a : s_X8_six 99 111 109 112 97 114 = some c6 := rfl
theorem wv_1b : s_X8_three 116 109 101 = some c3 := rfl
theorem wv_1c : ((((14348907 : Int64) * c6) + ((729 : Int64) * c3)) + (378 : Int64)) + (20 : Int64) = wv (UInt32.toNat 1) := by decide +kernel
theorem full_9 {M : HS} {n : Nat} {B A : Nat → Nat} (h : MJ M n B A) (e : A 9 = 5) : s_X8_readHold M = Option.bind (s_X8_bad 3 M) fun q => Option.bind (gz q.1) fun _ => some (q.1, q.2) := by
  unfold s_X8_readHold
  rw [r_at h (x := 9) (i := 9) rfl (by omega), sb, e, if_neg (fun z => z rfl)]
theorem full_10 {M : HS} {n : Nat} {B A : Nat → Nat} (h : MJ M n B A) (e : A 10 = 6) : s_X8_readLiquid M = Option.bind (s_X8_bad 3 M) fun q => Option.bind (gz q.1) fun _ => some (q.1, q.2) := by
  unfold s_X8_readLiquid
  rw [r_at h (x := 10) (i := 10) rfl (by omega), sb, e, if_neg (fun z => z rfl)]
theorem full_11 {M : HS} {n : Nat} {B A : Nat → Nat} (h : MJ M n B A) (e : A 11 = 36) : s_X8_readBar M = Option.bind (s_X8_bad 3 M) fun q => Option.bind (gz q.1) fun _ => some (q.1, q.2) := by
  unfold s_X8_readBar
  rw [r_at h (x := 11) (i := 11) rfl (by omega), sb, e, if_neg (fun z => z rfl)]
theorem full_12 {M : HS} {n : Nat} {B A : Nat → Nat} (h : MJ M n B A) (e : A 12 = 20) : s_X8_readLast M = Option.bind (s_X8_bad 3 M) fun q => Option.bind (gz q.1) fun _ => some (q.1, q.2) := by
  unfold s_X8_readLast
  rw [r_at h (x := 12) (i := 12) rfl (by omega), sb, e, if_neg (fun z => z rfl)]
theorem full_13 {M : HS} {n : Nat} {B A : Nat → Nat} (h : MJ M n B A) (e : A 13 = 4) : s_X8_readDrop M = Option.bind (s_X8_bad 3 M) fun q => Option.bind (gz q.1) fun _ => some (q.1, q.2) := by
  unfold s_X8_readDrop
  rw [r_at h (x := 13) (i := 13) rfl (by omega), sb, e, if_neg (fun z => z rfl)]
theorem j_other {S0 S M : HS} {t n l s : Nat} {B A : Nat → Nat} (ht : isT t) (hn : n ≤ 740) (hs : s ≤ n) (hD : DJ S t n l B A (fun i => A (9 + i))) (hC : CurD S B n s) (hM : MJ M n B A) (hT : TkM B n s M) (f0 : Fr (wRt t) S0 S) : OutN S0 t n l B s (s_X4_readOther S) (s_X8_readLine 0 M) := by
  have he := tkE_rng (B := B) hs
  obtain ⟨r9, r10, r11, r12, _⟩ := hD.2.2.2.2.2.2.2.2.1
  have r13 := hD.2.2.2.2.2.2.2.2.2.1
  have fin : ∀ (σ lim : Nat) (SW rd : HS → Option (Int32 × HS)) (rm : Option (Int32 × HS)), σ < 5 → tb 2 (nI σ) = some (nI lim) → lim ≤ 100 → A (9 + σ) ≤ lim → tkK B n s = 1 → (∀ S5, SW S5 = Option.bind (rd S5) fun q => Option.bind (gz q.1) fun _ => some (q.1, q.2)) → (A (9 + σ) < lim → ∀ (S5 : HS) (O : Nat → Nat), DJ S5 t n l B A O → gf S5 2 3 = nI (tkE B n s) → gf M 137 4 = nI (tkE B n s) → Fr (wRt t) S0 S5 → OutL S0 t n l B O A σ (tkE B n s) (rd S5) rm) → (A (9 + σ) = lim → rm = Option.bind (s_X8_bad 3 M) fun q => Option.bind (gz q.1) fun _ => some (q.1, q.2)) → OutN S0 t n l B s (Option.bind (ag (ga S 3) (nI σ)) fun a2 => Option.bind (tb 2 (nI σ)) fun a3 => if a2 < a3 then Option.bind (ag (ga S 3) (nI σ)) fun a4 => Option.bind (wa S 3 (nI σ) (a4 + (1 : Int32))) fun S5 => SW S5 else Option.bind (s_X4_refuse (3 : Int32) S) fun q11 => Option.bind (gz q11.1) fun _ => some (q11.1, q11.2)) (Option.bind rm fun q => Option.bind (gz q.1) fun _ => some (q.1, q.2)) := by
    intro σ lim SW rd rm hσ htb hlim hA k1 hSW hgo hfull
    have hlt := tkE_lt (B := B) hs (by omega) (by omega)
    rw [ag_ok (nD3 hD.1.1) hσ (by omega), sb, htb, sb, sb, (show (ga S 3).getD σ 0 = nI (A (9 + σ)) from hD.2.2.2.2.2.2.1 σ hσ)]
    by_cases c : A (9 + σ) < lim
    · rw [if_pos (nI_lt c (by omega)), wa_st (nD3 hD.1.1) hσ (by omega), sb, hSW, ← nI_succ]
      refine out_n (hgo c _ _ (hD.cnt ht hσ) hC.1 (hT.2.2.1 (by omega)) (fr_st f0 (Or.inr (Or.inl rfl)))) ?_ (by omega)
      intro i hi
      by_cases z : i = σ
      · rw [if_pos z, if_pos z, z]
      · rw [if_neg z, if_neg z]
    · obtain ⟨M4, z1, z2, z3⟩ := q_bad (w := 3) hT
      have hb := bad_refuse (w := 3) (fr_rf (W := wA) (S := S)) hC.2.2.1
      rw [if_neg (nI_nlt (by omega) (by omega)), hfull (by omega), (show s_X8_bad 3 M = _ from z1), sb, q_refuse, sb]
      refine Or.inr ⟨_, M4, rfl, rfl, ?_, ?_, iv_dj (hD.fr ht hb.1 (fun k j z => z)), fr_F f0 hb.1⟩
      · rw [z2, if_neg (by omega)]
        exact hb.2.1
      · rw [z3]
        exact hb.2.2
  unfold s_X4_readOther s_X4_sortOfWord s_X8_readLine
  rw [if_pos rfl, wv_1a, sb, wv_1b, sb, wv_2, sb, wv_3, sb, wv_4, sb, wv_5, sb]
  rcases j_word (u := 1) hn hD.1 hs hC hT (by decide) wv_1c with ⟨k1, x1, x2⟩ | ⟨x1, x2⟩
  · rw [x1, sb, x2, sb, if_neg (by decide), if_neg (by decide), sb, if_pos (by decide)]
    exact fin 0 5 _ s_X4_readCompartment (s_X8_readHold M) (by omega) rfl (by omega) r9 k1 (fun S5 => by rw [if_pos rfl]) (fun c S5 O d g h f => j_comp ht hn he.2 d g hM h c f) (fun z => full_9 hM z)
  rw [x1, sb, x2, sb, if_pos rfl, if_pos rfl]
  clear x1 x2
  rcases j_word (u := 2) hn hD.1 hs hC hT (by decide) rfl with ⟨k1, x1, x2⟩ | ⟨x1, x2⟩
  · rw [x1, sb, (show s_X8_isWord (wv 2) M = _ from x2), sb, if_neg (by decide), if_neg (by decide), sb, if_pos (by decide)]
    exact fin 1 6 _ s_X4_readLiquid (s_X8_readLiquid M) (by omega) rfl (by omega) r10 k1 (fun S5 => by rw [if_neg (by decide), if_pos rfl]) (fun c S5 O d g h f => j_liq ht hn he.2 d g hM h c f) (fun z => full_10 hM z)
  rw [x1, sb, (show s_X8_isWord (wv 2) M = _ from x2), sb, if_pos rfl, if_pos rfl]
  clear x1 x2
  rcases j_word (u := 3) hn hD.1 hs hC hT (by decide) rfl with ⟨k1, x1, x2⟩ | ⟨x1, x2⟩
  · rw [x1, sb, (show s_X8_isWord (wv 3) M = _ from x2), sb, if_neg (by decide), if_neg (by decide), sb, if_pos (by decide)]
    exact fin 2 36 _ s_X4_readBar (s_X8_readBar M) (by omega) rfl (by omega) r11 k1 (fun S5 => by rw [if_neg (by decide), if_neg (by decide), if_pos rfl]) (fun c S5 O d g h f => j_bar ht hn he.2 d g hM h c f) (fun z => full_11 hM z)
  rw [x1, sb, (show s_X8_isWord (wv 3) M = _ from x2), sb, if_pos rfl, if_pos rfl]
  clear x1 x2
  rcases j_word (u := 4) hn hD.1 hs hC hT (by decide) rfl with ⟨k1, x1, x2⟩ | ⟨x1, x2⟩
  · rw [x1, sb, (show s_X8_isWord (wv 4) M = _ from x2), sb, if_neg (by decide), if_neg (by decide), sb, if_pos (by decide)]
    exact fin 3 20 _ s_X4_readLast (s_X8_readLast M) (by omega) rfl (by omega) r12 k1 (fun S5 => by rw [if_neg (by decide), if_neg (by decide), if_neg (by decide), if_pos rfl]) (fun c S5 O d g h f => j_last ht hn he.2 d g hM h c f) (fun z => full_12 hM z)
  rw [x1, sb, (show s_X8_isWord (wv 4) M = _ from x2), sb, if_pos rfl, if_pos rfl]
  clear x1 x2
  rcases j_word (u := 5) hn hD.1 hs hC hT (by decide) rfl with ⟨k1, x1, x2⟩ | ⟨x1, x2⟩
  · rw [x1, sb, (show s_X8_isWord (wv 5) M = _ from x2), sb, if_neg (by decide), if_neg (by decide), sb, if_pos (by decide)]
    exact fin 4 4 _ s_X4_readDrop (s_X8_readDrop M) (by omega) rfl (by omega) r13 k1 (fun S5 => by rw [if_neg (by decide), if_neg (by decide), if_neg (by decide), if_neg (by decide)]) (fun c S5 O d g h f => j_drop ht hn he.2 d g hM h c f) (fun z => full_13 hM z)
  rw [x1, sb, (show s_X8_isWord (wv 5) M = _ from x2), sb, if_pos rfl, if_pos rfl, sb, if_neg (fun z => z rfl)]
  have h := j_bad1 (A0 := A) (sort := 9) (e := 0) 1 1 rfl (Or.inl rfl) ht hD hC hT f0
  rcases h with ⟨S1, M1, A1, e1, e2, e3, _⟩ | ⟨S1, M1, e2, e3, r⟩
  · rw [q_refuse, sb] at e2
    cases e2
  · exact Or.inr ⟨S1, M1, e2, e3, r⟩
theorem j_sign {S0 S M : HS} {t n l a : Nat} {B A O : Nat → Nat} (ht : isT t) (hn : n ≤ 740) (ha : a ≤ n) (hD : DJ S t n l B A O) (h3 : gf S 2 3 = nI a) (hM : MJ M n B A) (hT : TkM B n (tkS B n a) M) (f0 : Fr (wRt t) S0 S) : (∃ S1 M1 e1, s_X4_readSign S = some (1, S1) ∧ s_X8_readEnd M = some (1, M1) ∧ DJ S1 t n l B A O ∧ MJ M1 n B A ∧ gf S1 2 3 = nI e1 ∧ a + 1 ≤ e1 ∧ e1 ≤ n ∧ TkM B n (tkS B n e1) M1 ∧ Fr (wRt t) S0 S1) ∨ (∃ S1 M1, s_X4_readSign S = some (0, S1) ∧ s_X8_readEnd M = some (0, M1) ∧ gf S1 2 9 = gf M1 137 8 ∧ gf S1 2 10 = gf M1 137 9 ∧ IvT S1 t ∧ Fr (wRt t) S0 S1) := by
  obtain ⟨S1, eA, f1, cA⟩ := q_adv hn ha hD.1 h3
  have hs := tkS_rng (B := B) ha
  have he := tkE_rng (B := B) hs.2
  generalize tkS B n a = s at *
  have hk := tkK_le (B := B) (n := n) (s := s)
  have hD1 := hD.fr ht f1 (fun k j z => by unfold wA at z; unfold wF; omega)
  unfold s_X4_readSign s_X8_readEnd
  rw [eA, sb, cA.2.1, hT.1]
  by_cases c : tkK B n s = 3
  · have hlt := tkE_lt (B := B) hs.2 (by omega) (by omega)
    obtain ⟨M2, a2, b2, c2, _⟩ := go_next hn he.2 hM (hT.2.2.1 (by omega))
    rw [c, if_pos (show nI 3 = (3 : Int32) from rfl), if_pos (show nI (mk 3) = (4 : Int32) from rfl), a2, sb]
    exact Or.inl ⟨S1, M2, _, rfl, rfl, hD1, b2, cA.1, by omega, he.2, c2, fr_A f0 f1⟩
  · obtain ⟨M4, z1, z2, z3⟩ := q_bad (w := 1) hT
    have hb := bad_refuse (w := 1) (fr_rf (W := wA) (S := S1)) cA.2.2.1
    rw [if_neg (show ¬ nI (tkK B n s) = (3 : Int32) from fun z => c ((nI_eq (b := 3) (by omega) (by omega)).mp z)), if_neg (show ¬ nI (mk (tkK B n s)) = (4 : Int32) from fun y => c ((mk_eq (j := 3) hk (by omega)).mp y)), (show s_X8_bad 1 M = _ from z1), sb, q_refuse, sb]
    refine Or.inr ⟨_, M4, rfl, rfl, ?_, ?_, iv_dj (hD1.fr ht hb.1 (fun k j z => z)), fr_F (fr_A f0 f1) hb.1⟩
    · rw [z2]
      refine hb.2.1.trans ?_
      split <;> rfl
    · rw [z3]
      exact hb.2.2
theorem DJ.line {S : HS} {t n l : Nat} {B A O : Nat → Nat} (h : DJ S t n l B A O) (ht : isT t) : DJ (sf S 2 8 (nI (l + 1))) t n (l + 1) B A O := by
  have hn := isT_num ht
  obtain ⟨a, b, c, d, e, f, g, i, r⟩ := h
  refine ⟨a.sf (by omega), b, c.keep (fun j => ?_) rfl (fun i hi => rfl), d, ?_, f, g, ?_, r⟩
  · rw [gf_sf, if_neg (by omega)]
  · rw [gf_sf, if_neg (by omega)]
    exact e
  · rw [gf_sf, if_pos ⟨rfl, rfl⟩]
abbrev OutT (S0 M0 : HS) (t n : Nat) (B : Nat → Nat) (rs rm : Option (Int32 × HS)) : Prop :=
  (∃ S1 M1 A1 l1, rs = some (1, S1) ∧ rm = s_X8_text_L108 (nI l1) 800 0 M1 ∧ DJ S1 t n l1 B A1 (fun i => A1 (9 + i)) ∧ MJ M1 n B A1 ∧ Fr (wRt t) S0 S1 ∧ Fr wG M0 M1) ∨
  (∃ S1 M1, rs = some (0, S1) ∧ rm = some (-1 - gf M1 137 9, M1) ∧ gf S1 2 9 = gf M1 137 8 ∧ gf S1 2 10 = gf M1 137 9 ∧ IvT S1 t ∧ Fr (wRt t) S0 S1 ∧ Fr wG M0 M1)
theorem j_loop {S0 M0 : HS} {t n : Nat} {B : Nat → Nat} (ht : isT t) (hn : n ≤ 740) : ∀ (k a l : Nat) (S M : HS) (A : Nat → Nat) (K1 K2 : Nat), n - a ≤ k → 2 * l ≤ a → a ≤ n → DJ S t n l B A (fun i => A (9 + i)) → gf S 2 3 = nI a → MJ M n B A → TkM B n (tkS B n a) M → Fr (wRt t) S0 S → Fr wG M0 M → k < K1 → k < K2 → OutT S0 M0 t n B (s_X4_reads_L43 t K1 (nI l) S) (s_X8_text_L63 K2 (nI l) M) := by
  intro k
  induction k with
  | zero =>
    intro a l S M A K1 K2 h1 h2 ha hD h3 hM hT f0 fm hk1 hk2
    obtain ⟨K1, rfl⟩ : ∃ k, K1 = k + 1 := ⟨K1 - 1, by omega⟩
    obtain ⟨K2, rfl⟩ : ∃ k, K2 = k + 1 := ⟨K2 - 1, by omega⟩
    obtain ⟨S1, eA, f1, cA⟩ := q_adv hn ha hD.1 h3
    have hs := tkS_rng (B := B) ha
    have he := tkE_rng (B := B) hs.2
    generalize tkS B n a = s at *
    have hD1 := hD.fr ht f1 (fun k j z => by unfold wA at z; unfold wF; omega)
    have hk := tkK_le (B := B) (n := n) (s := s)
    rw [s_X4_reads_L43, s_X8_text_L63, if_neg (show ¬ (740 : Int32) ≤ nI l from nI_ge (b := 740) (by omega) (by omega)), eA, sb, cA.2.1, hT.1]
    by_cases c4 : tkK B n s = 4
    · rw [c4, if_neg (fun z => z rfl), if_pos (show nI (mk 4) = (0 : Int32) from rfl)]
      exact Or.inl ⟨S1, M, A, l, rfl, rfl, hD1, hM, fr_A f0 f1, fm⟩
    · have c0 : tkK B n s = 0 := by
        rcases Nat.eq_zero_or_pos (tkK B n s) with z | z
        · exact z
        · have := tkE_lt (B := B) hs.2 (by omega) c4
          omega
      have bd : ∀ {rs rm : Option (Int32 × HS)} {S1 M1 : HS}, rs = some (0, S1) → rm = some (-1 - gf M1 137 9, M1) → gf S1 2 9 = gf M1 137 8 ∧ gf S1 2 10 = gf M1 137 9 ∧ IvT S1 t ∧ Fr (wRt t) S0 S1 → Fr wG M0 M1 → OutT S0 M0 t n B rs rm := fun h1 h2 h f => Or.inr ⟨_, _, h1, h2, h.1, h.2.1, h.2.2.1, h.2.2.2, f⟩
      rw [if_pos (nI_nec (x := 4) 4 rfl (by omega) (by omega) c4), if_neg (show ¬ nI (mk (tkK B n s)) = (0 : Int32) from fun y => c4 ((mk_eq (j := 4) hk (by omega)).mp y)), hD1.2.2.2.2.2.2.2.1]
      by_cases l0 : l = 0
      · rw [l0, if_neg (fun z => z rfl), if_neg (fun z => z rfl)]
        unfold s_X8_text_J80
        have hl1 : s_X8_readLine 1 M = Option.bind (s_X8_readTanker M) fun q => Option.bind (gz q.1) fun _ => some (q.1, q.2) := by
          unfold s_X8_readLine
          rw [if_neg (by decide)]
        rcases out_t (s := s) (j_tank ht hn hs.2 hD1 cA hM hT (fr_A f0 f1)) (fun i hi => by rw [if_neg (by omega)]) (Nat.le_refl _) with ⟨S2, M2, A2, e2, x1, x2, hD2, hM2, g3, p1, p2, hT2, f2⟩ | ⟨S2, M2, x1, x2, r⟩
        · omega
        · rw [← hl1] at x2
          rw [x1, x2, sb, sb]
          exact bd rfl rfl r (fs_X8_readLine fm _ x2)
      · rw [if_pos (nI_ne0 (by omega) (by omega)), if_pos (nI_ne0 (by omega) (by omega))]
        unfold s_X8_text_J80
        rcases j_other ht hn hs.2 hD1 cA hM hT (fr_A f0 f1) with ⟨S2, M2, A2, e2, x1, x2, hD2, hM2, g3, p1, p2, hT2, f2⟩ | ⟨S2, M2, x1, x2, r⟩
        · omega
        · rw [x1, x2, sb, sb]
          exact bd rfl rfl r (fs_X8_readLine fm _ x2)
  | succ k ih =>
    intro a l S M A K1 K2 h1 h2 ha hD h3 hM hT f0 fm hk1 hk2
    obtain ⟨K1, rfl⟩ : ∃ k, K1 = k + 1 := ⟨K1 - 1, by omega⟩
    obtain ⟨K2, rfl⟩ : ∃ k, K2 = k + 1 := ⟨K2 - 1, by omega⟩
    obtain ⟨S1, eA, f1, cA⟩ := q_adv hn ha hD.1 h3
    have hs := tkS_rng (B := B) ha
    generalize tkS B n a = s at *
    have hD1 := hD.fr ht f1 (fun k j z => by unfold wA at z; unfold wF; omega)
    have hk := tkK_le (B := B) (n := n) (s := s)
    have bd : ∀ {rs rm : Option (Int32 × HS)} {S1 M1 : HS}, rs = some (0, S1) → rm = some (-1 - gf M1 137 9, M1) → gf S1 2 9 = gf M1 137 8 ∧ gf S1 2 10 = gf M1 137 9 ∧ IvT S1 t ∧ Fr (wRt t) S0 S1 → Fr wG M0 M1 → OutT S0 M0 t n B rs rm := fun h1 h2 h f => Or.inr ⟨_, _, h1, h2, h.1, h.2.1, h.2.2.1, h.2.2.2, f⟩
    have go : ∀ (S2 M2 : HS) (A2 : Nat → Nat) (e2 : Nat), DJ S2 t n l B A2 (fun i => A2 (9 + i)) → MJ M2 n B A2 → gf S2 2 3 = nI e2 → s + 1 ≤ e2 → e2 ≤ n → TkM B n (tkS B n e2) M2 → Fr (wRt t) S0 S2 → Fr wG M0 M2 → OutT S0 M0 t n B (s_X4_reads_J83 t (s_X4_reads_L43 t K1) (nI l) 1 S2) (Option.bind (s_X8_readEnd M2) fun q12 => if q12.1 ≠ (0 : Int32) then s_X8_text_L63 K2 (nI l + (1 : Int32)) q12.2 else some (((-1 : Int32) - (gf q12.2 137 9)), q12.2)) := by
      intro S2 M2 A2 e2 hD2 hM2 g3 p1 p2 hT2 f2 fm2
      unfold s_X4_reads_J83
      rw [if_neg (by decide)]
      rcases j_sign ht hn p2 hD2 g3 hM2 hT2 f2 with ⟨S3, M3, e3, y1, y2, hD3, hM3, g4, p3, p4, hT3, f3⟩ | ⟨S3, M3, y1, y2, r⟩
      · rw [y1, y2, sb, sb]
        dsimp only
        rw [if_pos (by decide), if_pos (by decide), hD3.2.2.2.2.2.2.2.1, pf_ok, sb, ← nI_succ]
        refine ih e3 (l + 1) _ M3 A2 K1 K2 (by omega) (by omega) p4 (hD3.line ht) ?_ hM3 hT3 (fr_sf f3 (Or.inl rfl)) (fs_X8_readEnd fm2 _ y2) (by omega) (by omega)
        rw [gf_sf, if_neg (by omega)]
        exact g4
      · rw [y1, y2, sb, sb]
        exact bd rfl rfl r (fs_X8_readEnd fm2 _ y2)
    rw [s_X4_reads_L43, s_X8_text_L63, if_neg (show ¬ (740 : Int32) ≤ nI l from nI_ge (b := 740) (by omega) (by omega)), eA, sb, cA.2.1, hT.1]
    by_cases c4 : tkK B n s = 4
    · rw [c4, if_neg (fun z => z rfl), if_pos (show nI (mk 4) = (0 : Int32) from rfl)]
      exact Or.inl ⟨S1, M, A, l, rfl, rfl, hD1, hM, fr_A f0 f1, fm⟩
    · rw [if_pos (nI_nec (x := 4) 4 rfl (by omega) (by omega) c4), if_neg (show ¬ nI (mk (tkK B n s)) = (0 : Int32) from fun y => c4 ((mk_eq (j := 4) hk (by omega)).mp y)), hD1.2.2.2.2.2.2.2.1]
      by_cases l0 : l = 0
      · subst l0
        rw [if_neg (fun z => z rfl), if_neg (fun z => z rfl)]
        unfold s_X8_text_J80
        have hl1 : s_X8_readLine 1 M = Option.bind (s_X8_readTanker M) fun q => Option.bind (gz q.1) fun _ => some (q.1, q.2) := by
          unfold s_X8_readLine
          rw [if_neg (by decide)]
        rcases out_t (s := s) (j_tank ht hn hs.2 hD1 cA hM hT (fr_A f0 f1)) (fun i hi => by rw [if_neg (by omega)]) (Nat.le_refl _) with ⟨S2, M2, A2, e2, x1, x2, hD2, hM2, g3, p1, p2, hT2, f2⟩ | ⟨S2, M2, x1, x2, r⟩
        · rw [← hl1] at x2
          rw [x1, x2, sb, sb]
          dsimp only
          rw [if_neg (by decide)]
          exact go S2 M2 A2 e2 hD2 hM2 g3 p1 p2 hT2 f2 (fs_X8_readLine fm _ x2)
        · rw [← hl1] at x2
          rw [x1, x2, sb, sb]
          exact bd rfl rfl r (fs_X8_readLine fm _ x2)
      · rw [if_pos (nI_ne0 (by omega) (by omega)), if_pos (nI_ne0 (by omega) (by omega))]
        unfold s_X8_text_J80
        rcases j_other ht hn hs.2 hD1 cA hM hT (fr_A f0 f1) with ⟨S2, M2, A2, e2, x1, x2, hD2, hM2, g3, p1, p2, hT2, f2⟩ | ⟨S2, M2, x1, x2, r⟩
        · rw [x1, x2, sb, sb]
          dsimp only
          rw [if_neg (by decide)]
          exact go S2 M2 A2 e2 hD2 hM2 g3 p1 p2 hT2 f2 (fs_X8_readLine fm _ x2)
        · rw [x1, x2, sb, sb]
          exact bd rfl rfl r (fs_X8_readLine fm _ x2)
