/-! the tape: feed and end, both sides; the desk begins anew -/
theorem sB_toInt {b : Nat} (h : b < 256) : (sB b).toInt = if b < 128 then (b : Int) else (b : Int) - 256 := by
  unfold sB
  by_cases c : b < 128
  · rw [if_pos c, if_pos c, nI_toInt (by omega)]
  · rw [if_neg c, if_neg c, pk_sub_toInt (by omega) (by omega)]
    rfl
theorem i8_of {x : Int32} {b : Nat} (hb : b < 256) (h : x.toInt % 256 = b) : x.toInt8.toInt32 = sB b := by
  apply Int32.toInt_inj.mp
  rw [Int8.toInt_toInt32, Int32.toInt_toInt8, sB_toInt hb, Int.bmod_def]
  have e : ((2 : Nat) ^ 8 : Nat) = 256 := rfl
  rw [e]
  rw [show x.toInt % ((256 : Nat) : Int) = b from h]
  by_cases c : b < 128
  · rw [if_pos c, if_pos (by omega)]
  · rw [if_neg c, if_neg (by omega)]
    rfl
theorem i8_sB {b : Nat} (hb : b < 256) : (sB b).toInt8.toInt32 = sB b := (by decide +kernel : ∀ b : Fin 256, (sB b.val).toInt8.toInt32 = sB b.val) ⟨b, hb⟩
theorem byte_k (v s : Int32) (k : Nat) (hk : k = 24 ∨ k = 16 ∨ k = 8 ∨ k = 0) (h1 : ((s &&& (31 : Int32)).toBitVec.smod 32).toNat = k) (h2 : ((s.toUInt32 &&& Int32.toUInt32 31).toBitVec % 32).toNat = k) : ∃ b, b < 256 ∧ ((v >>> (s &&& (31 : Int32))).toInt8.toInt32).toInt8.toInt32 = sB b ∧ ((v.toUInt32 >>> (s.toUInt32 &&& Int32.toUInt32 31)).toInt32) &&& (255 : Int32) = nI b := by
  have hN : v.toBitVec.toNat < 2 ^ 32 := v.toBitVec.isLt
  have hm : v.toBitVec.toNat / 2 ^ k % 256 < 256 := Nat.mod_lt _ (by decide)
  refine ⟨v.toBitVec.toNat / 2 ^ k % 256, hm, ?_, ?_⟩
  · have e : (v >>> (s &&& (31 : Int32))).toInt % 256 = ((v.toBitVec.toNat / 2 ^ k % 256 : Nat) : Int) := by
      have hi : v.toInt = if 2 * v.toBitVec.toNat < 2 ^ 32 then (v.toBitVec.toNat : Int) else (v.toBitVec.toNat : Int) - ((2 ^ 32 : Nat) : Int) := BitVec.toInt_eq_toNat_cond v.toBitVec
      rw [pk_shr v (s &&& (31 : Int32)) k h1, Int.shiftRight_eq_div_pow, hi]
      generalize v.toBitVec.toNat = N at *
      rcases hk with rfl | rfl | rfl | rfl
      · split <;> omega
      · split <;> omega
      · split <;> omega
      · split <;> omega
    rw [i8_of hm e, i8_sB hm]
  · rw [pk_and _ 8 (by decide), pk_ushr v s k h2]
def TRp (S M : HS) (B : Nat → Nat) (p : Nat) : Prop := LnD S ∧ LnM M ∧ gf S 0 1 = nI p ∧ gf M 137 2 = nI p ∧ DT S B ∧ MT M B
theorem j_byte {S M : HS} {B : Nat → Nat} {p k K1 K2 : Nat} {v s : Int32} (h : TRp S M B p) (hp : p < 740) (hk : k = 24 ∨ k = 16 ∨ k = 8 ∨ k = 0) (h0 : ¬ s < 0) (h1 : ((s &&& (31 : Int32)).toBitVec.smod 32).toNat = k) (h2 : ((s.toUInt32 &&& Int32.toUInt32 31).toBitVec % 32).toNat = k) : ∃ S' M' B', s_X7_tapeNumber_L3 v (K1 + 1) s S = s_X7_tapeNumber_L3 v K1 (s + (-8 : Int32)) S' ∧ s_X8_lays_L3 v (K2 + 1) s M = s_X8_lays_L3 v K2 (s + (-8 : Int32)) M' ∧ TRp S' M' B' (p + 1) := by
  obtain ⟨b, hb, eb, em⟩ := byte_k v s k hk h1 h2
  obtain ⟨hL, hM, t1, t2, d1, d2⟩ := h
  refine ⟨sf (st S 1 p (sB b)) 0 1 (nI (p + 1)), sf (st M 138 p (nI b)) 137 2 (nI (p + 1)), upA B p b, ?_, ?_, hL.st, hM.st, rfl, rfl, ?_, ?_⟩
  · rw [s_X7_tapeNumber_L3, if_neg h0, t1, if_neg (show ¬ (740 : Int32) ≤ nI p from nI_ge (b := 740) hp (by omega)), wa_st (nD1 hL) hp (by omega), sb, eb, gf_st, t1, pf_ok, sb, ← nI_succ]
  · rw [s_X8_lays_L3, if_neg h0, t2, wa_st (nM138 hM) hp (by omega), sb, em, gf_st, t2, pf_ok, sb, ← nI_succ]
  · intro i hi
    show upA B p b i < 256 ∧ (ga (st S 1 p (sB b)) 1).getD i 0 = _
    unfold upA
    by_cases z : i = p
    · subst z
      rw [if_pos rfl, gd_st_eq (nD1 hL) hi]
      exact ⟨hb, rfl⟩
    · rw [if_neg z, gd_st (by omega)]
      exact d1 i hi
  · intro i hi
    show upA B p b i < 256 ∧ (ga (st M 138 p (nI b)) 138).getD i 0 = _
    unfold upA
    by_cases z : i = p
    · subst z
      rw [if_pos rfl, gd_st_eq (nM138 hM) hi]
      exact ⟨hb, rfl⟩
    · rw [if_neg z, gd_st (by omega)]
      exact d2 i hi
theorem j_lays {S M : HS} {B : Nat → Nat} {p : Nat} {v : Int32} (h : TRp S M B p) (hp : p + 4 ≤ 740) : ∃ S' M' B', s_X7_tapeNumber v S = some S' ∧ s_X8_lays v M = some M' ∧ TRp S' M' B' (p + 4) := by
  obtain ⟨S1, M1, B1, a1, b1, c1⟩ := j_byte (k := 24) (K1 := 39) (K2 := 39) (v := v) (s := 24) h (by omega) (by omega) (by decide) (by decide) (by decide)
  obtain ⟨S2, M2, B2, a2, b2, c2⟩ := j_byte (k := 16) (K1 := 38) (K2 := 38) (v := v) (s := 24 + -8) c1 (by omega) (by omega) (by decide) (by decide) (by decide)
  obtain ⟨S3, M3, B3, a3, b3, c3⟩ := j_byte (k := 8) (K1 := 37) (K2 := 37) (v := v) (s := 24 + -8 + -8) c2 (by omega) (by omega) (by decide) (by decide) (by decide)
  obtain ⟨S4, M4, B4, a4, b4, c4⟩ := j_byte (k := 0) (K1 := 36) (K2 := 36) (v := v) (s := 24 + -8 + -8 + -8) c3 (by omega) (by omega) (by decide) (by decide) (by decide)
  refine ⟨S4, M4, B4, ?_, ?_, c4⟩
  · unfold s_X7_tapeNumber
    rw [(show s_X7_tapeNumber_L3 v 40 24 S = _ from a1), (show s_X7_tapeNumber_L3 v 39 (24 + -8) S1 = _ from a2), (show s_X7_tapeNumber_L3 v 38 (24 + -8 + -8) S2 = _ from a3), (show s_X7_tapeNumber_L3 v 37 (24 + -8 + -8 + -8) S3 = _ from a4), s_X7_tapeNumber_L3, if_pos (by decide)]
  · unfold s_X8_lays
    rw [(show s_X8_lays_L3 v 40 24 M = _ from b1), (show s_X8_lays_L3 v 39 (24 + -8) M1 = _ from b2), (show s_X8_lays_L3 v 38 (24 + -8 + -8) M2 = _ from b3), (show s_X8_lays_L3 v 37 (24 + -8 + -8 + -8) M3 = _ from b4), s_X8_lays_L3, if_pos (by decide)]
def TR (S M : HS) : Prop := ∃ B n, n ≤ 740 ∧ TRp S M B n
def wTm (k j : Nat) : Prop := k = 138 ∨ (k = 137 ∧ (j = 0 ∨ j = 2))
theorem iv_tape {S S1 : HS} {n : Nat} (h : IvD S) (f : Fr wTp S S1) (hn : n ≤ 740) (h1 : gf S1 0 1 = nI n) : IvD S1 := by
  obtain ⟨a, b, c, d, e, g, i, k⟩ := h
  have e1 : ∀ k j, k ≠ 0 → k ≠ 1 → gf S1 k j = gf S k j := fun k j hk hj => (f.1 k j (by unfold wTp; omega)).1
  refine ⟨a.fr f, ⟨n, hn, h1⟩, ?_, ?_, fun t ht => ?_, fun s hs => ?_, ?_, ?_⟩
  · rw [(f.1 0 4 (by unfold wTp; omega)).2]
    exact c
  · rw [(f.1 0 5 (by unfold wTp; omega)).2]
    exact d
  · have hn := isT_num ht
    unfold IvT
    rw [e1 _ _ (by omega) (by omega), e1 _ _ (by omega) (by omega), e1 _ _ (by omega) (by omega), f.2.2.1 (t + 7) (by unfold wTp; omega)]
    exact e t ht
  · rw [e1 _ _ (by have := isS_rng hs; omega) (by have := isS_rng hs; omega)]
    exact g s hs
  · rw [e1 _ _ (by omega) (by omega)]
    exact i
  · rw [e1 _ _ (by omega) (by omega)]
    exact k
theorem j_feed {S M : HS} {a b c d e : Int32} (hI : IvD S) (hT : TR S M) : ∃ v S1 M1, s_X7_feed a b c d e S = some (v, S1) ∧ s_X8_feed a b c d e M = some (v, M1) ∧ IvD S1 ∧ TR S1 M1 ∧ Fr wTp S S1 ∧ Fr wTm M M1 := by
  obtain ⟨B, n, hn, h⟩ := hT
  have h0 : TRp S (sf M 137 0 0) B n := by
    obtain ⟨x1, x2, x3, x4, x5, x6⟩ := h
    refine ⟨x1, x2, x3, ?_, x5, x6⟩
    rw [gf_sf, if_neg (by omega)]
    exact x4
  have f0 : Fr wTm M (sf M 137 0 0) := fr_sf fr_rf (by unfold wTm; omega)
  unfold s_X7_feed s_X8_feed
  rw [pf_ok, sb, h.2.2.1, h0.2.2.2.1, show nI n + 20 = nI (n + 20) from nI_add n 20]
  by_cases z : n + 20 ≤ 740
  · obtain ⟨S1, M1, B1, a1, b1, c1⟩ := j_lays (v := a) h0 (by omega)
    obtain ⟨S2, M2, B2, a2, b2, c2⟩ := j_lays (v := b) c1 (by omega)
    obtain ⟨S3, M3, B3, a3, b3, c3⟩ := j_lays (v := c) c2 (by omega)
    obtain ⟨S4, M4, B4, a4, b4, c4⟩ := j_lays (v := d) c3 (by omega)
    obtain ⟨S5, M5, B5, a5, b5, c5⟩ := j_lays (v := e) c4 (by omega)
    have fS := fs_X7_tapeNumber (fs_X7_tapeNumber (fs_X7_tapeNumber (fs_X7_tapeNumber (fs_X7_tapeNumber (fr_rf (S := S)) _ a1) _ a2) _ a3) _ a4) _ a5
    have fM := fs_X8_lays (fs_X8_lays (fs_X8_lays (fs_X8_lays (fs_X8_lays (fr_rf (S := sf M 137 0 0)) _ b1) _ b2) _ b3) _ b4) _ b5
    rw [if_pos (show nI (n + 20) ≤ (740 : Int32) from nI_le (b := 740) z (by omega)), if_pos (show nI (n + 20) ≤ (740 : Int32) from nI_le (b := 740) z (by omega)), a1, sb, a2, sb, a3, sb, a4, sb, a5, sb, b1, sb, b2, sb, b3, sb, b4, sb, b5, sb, c5.2.2.1, c5.2.2.2.1]
    exact ⟨_, S5, M5, rfl, rfl, iv_tape hI fS (by omega) c5.2.2.1, ⟨B5, _, by omega, c5⟩, fS, fr_tr f0 fM (fun k j z => by unfold wL at z; unfold wTm; omega)⟩
  · rw [if_neg (show ¬ nI (n + 20) ≤ (740 : Int32) from nI_ge (a := 740) (by omega) (by omega)), if_neg (show ¬ nI (n + 20) ≤ (740 : Int32) from nI_ge (a := 740) (by omega) (by omega))]
    exact ⟨_, S, _, rfl, rfl, hI, ⟨B, n, hn, h0⟩, fr_rf, f0⟩
theorem j_end {S M : HS} {v : Int32} (hI : IvD S) (hT : TR S M) : ∃ r S1 M1, s_X7_end v S = some (r, S1) ∧ s_X8_end v M = some (r, M1) ∧ IvD S1 ∧ TR S1 M1 ∧ Fr wTp S S1 ∧ Fr wTm M M1 := by
  obtain ⟨B, n, hn, h⟩ := hT
  have h0 : TRp S (sf M 137 0 0) B n := by
    obtain ⟨x1, x2, x3, x4, x5, x6⟩ := h
    refine ⟨x1, x2, x3, ?_, x5, x6⟩
    rw [gf_sf, if_neg (by omega)]
    exact x4
  have f0 : Fr wTm M (sf M 137 0 0) := fr_sf fr_rf (by unfold wTm; omega)
  unfold s_X7_end s_X8_end
  rw [pf_ok, sb, pf_ok, sb, h.2.2.1, h0.2.2.2.1]
  by_cases z : v < 0
  · rw [if_pos z, if_pos z]
    exact ⟨_, S, _, rfl, rfl, hI, ⟨B, n, hn, h0⟩, fr_rf, f0⟩
  · rw [if_neg z, if_neg z]
    by_cases z2 : v ≤ nI n
    · obtain ⟨j, hj, rfl⟩ := nI_of z
      have hjn : j ≤ n := (nI_leI hj (by omega)).mp z2
      rw [if_pos z2, if_pos z2, pf_ok, sb]
      obtain ⟨x1, x2, x3, x4, x5, x6⟩ := h0
      exact ⟨_, _, _, rfl, rfl, iv_tp hI (by omega), ⟨B, j, by omega, x1, x2, rfl, rfl, x5, x6⟩, fr_sf fr_rf (by unfold wTp; omega), fr_sf f0 (by unfold wTm; omega)⟩
    · rw [if_neg z2, if_neg z2]
      exact ⟨_, S, _, rfl, rfl, hI, ⟨B, n, hn, h0⟩, fr_rf, f0⟩
/-! the desk begins anew -/
theorem w_begin {S : HS} {t k : Nat} (hI : IvD S) (ht : isT t) (h9 : gf S t 9 = nI k) (hk : k ≤ 4) : ∃ S', s_X5_begin t S = some S' ∧ IvD S' ∧ Fr (wS 22) S S' ∧ (∀ c, c < 5 → (ga S' 24).getD c 0 = 0 ∧ (ga S' 27).getD c 0 = 0 ∧ (ga S' 25).getD c 0 = -1) ∧ ga S' 26 = ga S (t + 5) ∧ gf S' 22 1 = nI k ∧ (∀ d, d < k → (ga S' 28).getD d 0 = 0 ∧ (ga S' 29).getD d 0 = 0) ∧ gf S' 22 4 = 0 := by
  have hn := isT_num ht
  have h1 : IvD (sa S 24 (List.replicate 5 0)) := iv_sa hI (by rw [List.length_replicate]; rfl) (by omega) (by omega)
  have h2 : IvD (sa (sa S 24 (List.replicate 5 0)) 27 (List.replicate 5 0)) := iv_sa h1 (by rw [List.length_replicate]; rfl) (by omega) (by omega)
  have h3 : IvD (sa (sa (sa S 24 (List.replicate 5 0)) 27 (List.replicate 5 0)) 25 (List.replicate 5 (-1))) := iv_sa h2 (by rw [List.length_replicate]; rfl) (by omega) (by omega)
  have g5 : ga (sa (sa (sa S 24 (List.replicate 5 0)) 27 (List.replicate 5 0)) 25 (List.replicate 5 (-1))) (t + 5) = ga S (t + 5) := by
    rw [ga_sa, if_neg (by omega), ga_sa, if_neg (by omega), ga_sa, if_neg (by omega)]
  have h4 : IvD (sa (sa (sa (sa S 24 (List.replicate 5 0)) 27 (List.replicate 5 0)) 25 (List.replicate 5 (-1))) 26 (ga S (t + 5))) := iv_sa h3 (by rw [nT5 hI.1 ht]; rfl) (by omega) (by omega)
  have e0 : s_X0_begin 23 t S = some (sa (sa (sa (sa S 24 (List.replicate 5 0)) 27 (List.replicate 5 0)) 25 (List.replicate 5 (-1))) 26 (ga S (t + 5))) := by
    unfold s_X0_begin
    rw [wf_ok (c := 23 + 1) (n := 5) (nD24 hI.1) (by omega), sb, wf_ok (c := 23 + 4) (n := 5) (nD27 h1.1) (by omega), sb, wf_ok (c := 23 + 2) (n := 5) (nD25 h2.1) (by omega), sb]
    have ec := wc_ok (S := sa (sa (sa S 24 (List.replicate 5 0)) 27 (List.replicate 5 0)) 25 (List.replicate 5 (-1))) (c := 26) (c0 := t + 5) (n := 5) (nD26 h3.1) (nT5 h3.1 ht) (by omega)
    rw [g5] at ec
    rw [(show wc (sa (sa (sa S (23 + 1) (List.replicate 5 0)) (23 + 4) (List.replicate 5 0)) (23 + 2) (List.replicate 5 (-1))) (23 + 3) (t + 5) 5 = _ from ec), sb]
  generalize hS4 : sa (sa (sa (sa S 24 (List.replicate 5 0)) 27 (List.replicate 5 0)) 25 (List.replicate 5 (-1))) 26 (ga S (t + 5)) = S4 at *
  have c24 : ∀ c, c < 5 → (ga S4 24).getD c 0 = 0 := by
    intro c hc
    rw [← hS4, ga_sa, if_neg (by omega), ga_sa, if_neg (by omega), ga_sa, if_neg (by omega), ga_sa, if_pos rfl, rep_get hc]
  have c27 : ∀ c, c < 5 → (ga S4 27).getD c 0 = 0 := by
    intro c hc
    rw [← hS4, ga_sa, if_neg (by omega), ga_sa, if_neg (by omega), ga_sa, if_pos rfl, rep_get hc]
  have c25 : ∀ c, c < 5 → (ga S4 25).getD c 0 = -1 := by
    intro c hc
    rw [← hS4, ga_sa, if_neg (by omega), ga_sa, if_pos rfl, rep_get hc]
  have c26 : ga S4 26 = ga S (t + 5) := by
    rw [← hS4, ga_sa, if_pos rfl]
  have t9 : gf S4 t 9 = nI k := by
    rw [← hS4]
    exact h9
  have fB := fs_X5_begin (S0 := S) (t := t) (S := S) fr_rf
  have L : ∀ (m j : Nat) (S' : HS) (K : Nat), j + m = k → m < K → IvD S' → gf S' t 9 = nI k → gf S' 22 1 = nI j → (∀ a, a ≤ 27 → ga S' a = ga S4 a) → (∀ d, d < j → (ga S' 28).getD d 0 = 0 ∧ (ga S' 29).getD d 0 = 0) → ∃ S'', s_X5_begin_L15 t K (nI j) S' = some S'' ∧ IvD S'' ∧ (∀ a, a ≤ 27 → ga S'' a = ga S4 a) ∧ gf S'' 22 1 = nI k ∧ (∀ d, d < k → (ga S'' 28).getD d 0 = 0 ∧ (ga S'' 29).getD d 0 = 0) ∧ gf S'' 22 4 = 0 := by
    intro m
    induction m with
    | zero =>
      intro j S' K a1 a2 hI' a3 a4 a5 a6
      obtain ⟨K, rfl⟩ : ∃ k, K = k + 1 := ⟨K - 1, by omega⟩
      rw [s_X5_begin_L15, a3, if_pos (nI_le (by omega) (by omega)), pf_ok, sb]
      refine ⟨_, rfl, iv_sf hI' (by omega) (by omega) (by omega) (by omega), a5, ?_, ?_, rfl⟩
      · rw [gf_sf, if_neg (by omega), a4]
        congr 1
      · intro d hd
        exact a6 d (by omega)
    | succ m ih =>
      intro j S' K a1 a2 hI' a3 a4 a5 a6
      obtain ⟨K, rfl⟩ : ∃ k, K = k + 1 := ⟨K - 1, by omega⟩
      rw [s_X5_begin_L15, a3, if_neg (nI_ge (by omega) (by omega)), w_addDrop hI'.1 a4 (by omega), sb, if_neg (by omega), ← nI_succ]
      refine ih (j + 1) (adD S' j) K (by omega) (by omega) ?_ ?_ rfl ?_ ?_
      · unfold adD
        exact iv_sfS (iv_st (iv_st hI' (by omega) (by omega)) (by omega) (by omega)) mS22 (by omega)
      · unfold adD
        rw [gf_sf, if_neg (by omega)]
        exact a3
      · intro a ha
        unfold adD
        show ga (st (st S' 28 j 0) 29 j 0) a = _
        rw [ga_st_ne (by omega), ga_st_ne (by omega)]
        exact a5 a ha
      · intro d hd
        unfold adD
        show (ga (st (st S' 28 j 0) 29 j 0) 28).getD d 0 = 0 ∧ (ga (st (st S' 28 j 0) 29 j 0) 29).getD d 0 = 0
        by_cases z : d = j
        · subst z
          rw [gd_st (by omega), gd_st_eq (nD28 hI'.1) (by omega), gd_st_eq (nD29 hI'.1.st) (by omega)]
          exact ⟨rfl, rfl⟩
        · rw [gd_st (by omega), gd_st (by omega), gd_st (by omega), gd_st (by omega)]
          exact a6 d (by omega)
  have h5 : IvD (sf S4 22 1 (nI 0)) := iv_sfS h4 mS22 (by omega)
  obtain ⟨S'', x1, x2, x3, x4, x5, x6⟩ := L k 0 (sf S4 22 1 (nI 0)) 40 (by omega) (by omega) h5 (by rw [gf_sf, if_neg (by omega)]; exact t9) rfl (fun _ _ => rfl) (fun d hd => by omega)
  have e : s_X5_begin t S = some S'' := by
    unfold s_X5_begin
    rw [e0, sb, pf_ok, sb]
    exact x1
  refine ⟨S'', e, x2, fB _ e, fun c hc => ?_, ?_, x4, x5, x6⟩
  · rw [x3 24 (by omega), x3 27 (by omega), x3 25 (by omega)]
    exact ⟨c24 c hc, c27 c hc, c25 c hc⟩
  · rw [x3 26 (by omega), c26]
theorem iv_reads {S S1 : HS} {t : Nat} (h : IvD S) (ht : isT t) (f : Fr (wRt t) S S1) (hT : IvT S1 t) : IvD S1 := by
  have hn := isT_num ht
  obtain ⟨a, b, c, d, e, g, i, k⟩ := h
  have e1 : ∀ k j, ¬ wRt t k j → gf S1 k j = gf S k j := fun k j hk => (f.1 k j hk).1
  refine ⟨a.fr f, ?_, ?_, ?_, fun t' ht' => ?_, fun s hs => ?_, ?_, ?_⟩
  · rw [e1 _ _ (by unfold wRt; omega)]
    exact b
  · rw [(f.1 0 4 (by unfold wRt; omega)).2]
    exact c
  · rw [(f.1 0 5 (by unfold wRt; omega)).2]
    exact d
  · have hn' := isT_num ht'
    by_cases z : t' = t
    · rw [z]
      exact hT
    · unfold IvT
      rw [e1 _ _ (by unfold wRt; omega), e1 _ _ (by unfold wRt; omega), e1 _ _ (by unfold wRt; omega), f.2.2.1 (t' + 7) (by unfold wRt; omega)]
      exact e t' ht'
  · rw [e1 _ _ (by have := isS_rng hs; unfold wRt; omega)]
    exact g s hs
  · rw [e1 _ _ (by unfold wRt; omega)]
    exact i
  · rw [e1 _ _ (by unfold wRt; omega)]
    exact k
