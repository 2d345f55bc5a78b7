/-! a line's end, on both sides -/
theorem gd_st {S : HS} {k i a c : Nat} {x : Int32} (h : a ≠ k ∨ c ≠ i) : (ga (st S k i x) a).getD c 0 = (ga S a).getD c 0 := by
  rw [ga_st]
  by_cases e : a = k
  · rw [if_pos e, getD_set_ne (by omega), e]
  · rw [if_neg e]
theorem gd_st_eq {S : HS} {k i n : Nat} {x : Int32} (hn : (ga S k).length = n) (h : i < n) : (ga (st S k i x) k).getD i 0 = x := by
  rw [ga_st_eq, getD_set_eq (by omega)]
theorem RdI.st {S : HS} {B : Nat → Nat} {n k i : Nat} {x : Int32} (h : RdI S B n) (hk : k ≠ 1) : RdI (st S k i x) B n := by
  obtain ⟨a, b, c, d⟩ := h
  refine ⟨a.st, b, c, fun j hj => ?_⟩
  rw [gd_st (Or.inl (fun z => hk z.symm))]
  exact d j hj
def isQ (x : Int32) : Prop := ∃ q, q < 6 ∧ x = nI q
theorem DJ.free {S : HS} {t n l k i : Nat} {x : Int32} {B A O : Nat → Nat} (h : DJ S t n l B A O) (ht : isT t) (hk : (k = t + 2 ∨ k = t + 3 ∨ k = t + 4) ∧ A 9 ≤ i ∨ k = t + 6 ∧ A 10 ≤ i ∨ k = t + 7 ∧ A 13 ≤ i ∨ k = t + 8 ∧ A 13 ≤ i) (hq : k = t + 7 → isQ x) : DJ (st S k i x) t n l B A O := by
  have hn := isT_num ht
  obtain ⟨a, b, ⟨c1, c2, c3, c4, c5, c6, c7⟩, d, e, f, g, r⟩ := h
  refine ⟨a.st (by omega), b, ⟨c1, c2, ?_, ?_, ?_, c6, ?_⟩, ?_, e, ?_, ?_, r⟩
  · intro j hj
    rw [gd_st (Or.inl (by omega))]
    exact c3 j hj
  · intro j hj
    rw [gd_st (by omega), gd_st (by omega), gd_st (by omega)]
    exact c4 j hj
  · intro j hj
    rw [gd_st (by omega)]
    exact c5 j hj
  · intro j hj
    rw [gd_st (by omega), gd_st (by omega)]
    exact c7 j hj
  · intro j hj
    rw [gd_st (by omega)]
    exact d j hj
  · intro j hj
    by_cases e7 : t + 7 = k
    · by_cases ej : j = i
      · obtain ⟨q, hq6, rfl⟩ := hq e7.symm
        subst ej
        rw [← e7, gd_st_eq (nT7 a.1 ht) hj]
        exact ⟨q, hq6, rfl⟩
      · rw [gd_st (Or.inr ej)]
        exact f j hj
    · rw [gd_st (Or.inl e7)]
      exact f j hj
  · intro j hj
    rw [gd_st (by omega)]
    exact g j hj
theorem RgA.of {A A' : Nat → Nat} (h : RgA A) (h9 : A' 9 ≤ 5) (h10 : A' 10 ≤ 6 ∧ A 10 ≤ A' 10) (h11 : A' 11 ≤ 36) (h12 : A' 12 ≤ 20) (h13 : A' 13 ≤ 20) (h0 : ∀ i, i < 9 → A' i = A i) (hc : ∀ c, c < A' 9 → 1 ≤ A' (27 + 6 * c) ∧ A' (27 + 6 * c) ≤ 999 ∧ A' (28 + 6 * c) ≤ 99 ∧ A' (29 + 6 * c) ≤ 1) (hl : ∀ c, c < 5 → A' (32 + 6 * c) ≤ A' 10) (hb : ∀ a, a < 6 → A' (21 + a) < 64) (hd : ∀ d, d < A' 13 → A' (57 + 5 * d) < A' 10 ∧ 1 ≤ A' (58 + 5 * d) ∧ A' (58 + 5 * d) ≤ 4995) : RgA A' := by
  obtain ⟨a, b, c, d, e, f, g, i, _⟩ := h
  refine ⟨h9, h10.1, h11, h12, h13, ?_, ?_, ?_, hc, hl, hb, hd⟩
  · rw [h0 0 (by omega)]
    exact f
  · intro j hj
    rw [h0 j hj]
    exact g j hj
  · rw [h0 6 (by omega)]
    exact i
theorem Zs.of {A A' : Nat → Nat} (h : Zs A) (h0 : A' 14 = A 14) (h1 : ∀ c, c < 5 → A' (30 + 6 * c) = A (30 + 6 * c) ∧ A' (31 + 6 * c) = A (31 + 6 * c)) (h2 : ∀ d, d < 20 → A' (59 + 5 * d) = A (59 + 5 * d) ∧ A' (60 + 5 * d) = A (60 + 5 * d) ∧ A' (61 + 5 * d) = A (61 + 5 * d)) (h3 : ∀ d, d < 20 → A' (57 + 5 * d) < 6) : Zs A' := by
  refine ⟨h0.trans h.1, fun c hc => ?_, fun d hd => ?_, h3⟩
  · rw [(h1 c hc).1, (h1 c hc).2]
    exact h.2.1 c hc
  · rw [(h2 d hd).1, (h2 d hd).2.1, (h2 d hd).2.2]
    exact h.2.2.1 d hd
theorem DJ.comp {S : HS} {t n l v w o : Nat} {B A A' O : Nat → Nat} (h : DJ S t n l B A O) (ht : isT t) (hc : A 9 < 5) (hv : 1 ≤ v ∧ v ≤ 999) (hw : w ≤ 99) (ho : o ≤ 1) (e2 : (ga S (t + 2)).getD (A 9) 0 = nI v) (e3 : (ga S (t + 3)).getD (A 9) 0 = nI w) (e4 : (ga S (t + 4)).getD (A 9) 0 = nI o) (hA : A' = upA (upA (upA (upA A (27 + 6 * A 9) v) (28 + 6 * A 9) w) (29 + 6 * A 9) o) 9 (A 9 + 1)) : DJ (sf S t 1 (nI (A 9 + 1))) t n l B A' O := by
  have hn := isT_num ht
  have ae : ∀ i, i ≠ 9 → i ≠ 27 + 6 * A 9 → i ≠ 28 + 6 * A 9 → i ≠ 29 + 6 * A 9 → A' i = A i := by
    intro i a b c d
    rw [hA, upA_ne a, upA_ne d, upA_ne c, upA_ne b]
  have a9 : A' 9 = A 9 + 1 := by rw [hA, upA_eq]
  have a27 : A' (27 + 6 * A 9) = v := by rw [hA, upA_ne (by omega), upA_ne (by omega), upA_ne (by omega), upA_eq]
  have a28 : A' (28 + 6 * A 9) = w := by rw [hA, upA_ne (by omega), upA_ne (by omega), upA_eq]
  have a29 : A' (29 + 6 * A 9) = o := by rw [hA, upA_ne (by omega), upA_eq]
  clear hA
  obtain ⟨a, b, ⟨c1, c2, c3, c4, c5, c6, c7⟩, d, e, f, g, r1, r2, r3, r4⟩ := h
  have r2' := r2
  obtain ⟨g1, g2, g3, g4, g5, g6, g7, g8, g9, g10, g11, g12⟩ := r2
  have a10 : A' 10 = A 10 := ae _ (by omega) (by omega) (by omega) (by omega)
  have a13 : A' 13 = A 13 := ae _ (by omega) (by omega) (by omega) (by omega)
  refine ⟨⟨a.1, a.2.1, ?_, a.2.2.2⟩, b, ⟨?_, ?_, ?_, ?_, ?_, ?_, ?_⟩, ?_, ?_, f, g, ?_, ?_, by rw [a13]; exact r3, ?_⟩
  · rw [gf_sf, if_neg (by omega)]
    exact a.2.2.1
  · rw [gf_sf, if_pos ⟨rfl, rfl⟩, a9]
  · rw [gf_sf, if_neg (by omega), a10]
    exact c2
  · intro i hi
    rw [ae i (by omega) (by omega) (by omega) (by omega)]
    exact c3 i hi
  · intro c hcc
    rw [a9] at hcc
    by_cases z : c = A 9
    · subst z
      rw [a27, a28, a29]
      exact ⟨e2, e3, e4⟩
    · rw [ae _ (by omega) (by omega) (by omega) (by omega), ae _ (by omega) (by omega) (by omega) (by omega), ae _ (by omega) (by omega) (by omega) (by omega)]
      exact c4 c (by omega)
  · intro i hi
    rw [a10] at hi
    rw [ae _ (by omega) (by omega) (by omega) (by omega)]
    exact c5 i hi
  · obtain ⟨m, m1, m2, m3⟩ := c6
    unfold RBr
    refine ⟨m, m1, m2, fun x y hx hy => ?_⟩
    rw [ae _ (by omega) (by omega) (by omega) (by omega)]
    exact m3 x y hx hy
  · intro i hi
    rw [a13] at hi
    rw [ae _ (by omega) (by omega) (by omega) (by omega), ae _ (by omega) (by omega) (by omega) (by omega)]
    exact c7 i hi
  · intro c hcc
    rw [ae _ (by omega) (by omega) (by omega) (by omega)]
    exact d c hcc
  · rw [gf_sf, if_neg (by omega), a13]
    exact e
  · rw [gf_sf, if_neg (by omega)]
    exact r1
  · refine r2'.of (by omega) (by omega) (by rw [ae _ (by omega) (by omega) (by omega) (by omega)]; exact g3) (by rw [ae _ (by omega) (by omega) (by omega) (by omega)]; exact g4) (by omega) (fun i hi => ae _ (by omega) (by omega) (by omega) (by omega)) ?_ ?_ ?_ ?_
    · intro c hcc
      rw [a9] at hcc
      by_cases z : c = A 9
      · subst z
        rw [a27, a28, a29]
        exact ⟨hv.1, hv.2, hw, ho⟩
      · rw [ae _ (by omega) (by omega) (by omega) (by omega), ae _ (by omega) (by omega) (by omega) (by omega), ae _ (by omega) (by omega) (by omega) (by omega)]
        exact g9 c (by omega)
    · intro c hcc
      rw [a10, ae _ (by omega) (by omega) (by omega) (by omega)]
      exact g10 c hcc
    · intro c hcc
      rw [ae _ (by omega) (by omega) (by omega) (by omega)]
      exact g11 c hcc
    · intro i hi
      rw [a13] at hi
      rw [a10, ae _ (by omega) (by omega) (by omega) (by omega), ae _ (by omega) (by omega) (by omega) (by omega)]
      exact g12 i hi
  · refine r4.of (ae _ (by omega) (by omega) (by omega) (by omega)) (fun c hcc => ⟨ae _ (by omega) (by omega) (by omega) (by omega), ae _ (by omega) (by omega) (by omega) (by omega)⟩) (fun c hcc => ⟨ae _ (by omega) (by omega) (by omega) (by omega), ae _ (by omega) (by omega) (by omega) (by omega), ae _ (by omega) (by omega) (by omega) (by omega)⟩) (fun d hd => by
    rw [ae _ (by omega) (by omega) (by omega) (by omega)]
    exact r4.2.2.2 d hd)
theorem DJ.liq {S : HS} {t n l v : Nat} {B A A' O : Nat → Nat} (h : DJ S t n l B A O) (ht : isT t) (hc : A 10 < 6) (e2 : (ga S (t + 6)).getD (A 10) 0 = nI v) (hA : A' = upA (upA A (15 + A 10) v) 10 (A 10 + 1)) : DJ (sf S t 6 (nI (A 10 + 1))) t n l B A' O := by
  have hn := isT_num ht
  have ae : ∀ i, i ≠ 10 → i ≠ 15 + A 10 → A' i = A i := by
    intro i a b
    rw [hA, upA_ne a, upA_ne b]
  have a10 : A' 10 = A 10 + 1 := by rw [hA, upA_eq]
  have a15 : A' (15 + A 10) = v := by rw [hA, upA_ne (by omega), upA_eq]
  clear hA
  obtain ⟨a, b, ⟨c1, c2, c3, c4, c5, c6, c7⟩, d, e, f, g, r1, r2, r3, r4⟩ := h
  have r2' := r2
  obtain ⟨g1, g2, g3, g4, g5, g6, g7, g8, g9, g10, g11, g12⟩ := r2
  have a9 : A' 9 = A 9 := ae _ (by omega) (by omega)
  have a13 : A' 13 = A 13 := ae _ (by omega) (by omega)
  refine ⟨⟨a.1, a.2.1, ?_, a.2.2.2⟩, b, ⟨?_, ?_, ?_, ?_, ?_, ?_, ?_⟩, ?_, ?_, f, g, ?_, ?_, by rw [a13]; exact r3, ?_⟩
  · rw [gf_sf, if_neg (by omega)]
    exact a.2.2.1
  · rw [gf_sf, if_neg (by omega), a9]
    exact c1
  · rw [gf_sf, if_pos ⟨rfl, rfl⟩, a10]
  · intro i hi
    rw [ae i (by omega) (by omega)]
    exact c3 i hi
  · intro c hcc
    rw [a9] at hcc
    rw [ae _ (by omega) (by omega), ae _ (by omega) (by omega), ae _ (by omega) (by omega)]
    exact c4 c hcc
  · intro i hi
    rw [a10] at hi
    by_cases z : i = A 10
    · subst z
      rw [a15]
      exact e2
    · rw [ae _ (by omega) (by omega)]
      exact c5 i (by omega)
  · obtain ⟨m, m1, m2, m3⟩ := c6
    unfold RBr
    refine ⟨m, m1, m2, fun x y hx hy => ?_⟩
    rw [ae _ (by omega) (by omega)]
    exact m3 x y hx hy
  · intro i hi
    rw [a13] at hi
    rw [ae _ (by omega) (by omega), ae _ (by omega) (by omega)]
    exact c7 i hi
  · intro c hcc
    rw [ae _ (by omega) (by omega)]
    exact d c hcc
  · rw [gf_sf, if_neg (by omega), a13]
    exact e
  · rw [gf_sf, if_neg (by omega)]
    exact r1
  · refine r2'.of (by omega) (by omega) (by rw [ae _ (by omega) (by omega)]; exact g3) (by rw [ae _ (by omega) (by omega)]; exact g4) (by omega) (fun i hi => ae _ (by omega) (by omega)) ?_ ?_ ?_ ?_
    · intro c hcc
      rw [a9] at hcc
      rw [ae _ (by omega) (by omega), ae _ (by omega) (by omega), ae _ (by omega) (by omega)]
      exact g9 c hcc
    · intro c hcc
      rw [ae _ (by omega) (by omega)]
      have := g10 c hcc
      omega
    · intro c hcc
      rw [ae _ (by omega) (by omega)]
      exact g11 c hcc
    · intro i hi
      rw [a13] at hi
      rw [a10, ae _ (by omega) (by omega), ae _ (by omega) (by omega)]
      have := g12 i hi
      omega
  · exact r4.of (ae _ (by omega) (by omega)) (fun c hcc => ⟨ae _ (by omega) (by omega), ae _ (by omega) (by omega)⟩) (fun c hcc => ⟨ae _ (by omega) (by omega), ae _ (by omega) (by omega), ae _ (by omega) (by omega)⟩) (fun d hd => by
    rw [ae _ (by omega) (by omega)]
    exact r4.2.2.2 d hd)
theorem lN_tn {n : Nat} (h : n < 2 ^ 63) : (lN n).toBitVec.toNat = n := by
  show (BitVec.ofNat 64 n).toNat = n
  rw [BitVec.toNat_ofNat]
  exact Nat.mod_eq_of_lt (by omega)
theorem or_lN {a b : Nat} (ha : a < 2 ^ 63) (hb : b < 2 ^ 63) : lN a ||| lN b = lN (a ||| b) := by
  apply Int64.toBitVec_inj.mp
  apply BitVec.eq_of_toNat_eq
  have h := Nat.or_lt_two_pow ha hb
  rw [Int64.toBitVec_or, BitVec.toNat_or, lN_tn (by omega), lN_tn (by omega), lN_tn (by omega)]
theorem lsh {k : Nat} (h : k < 36) : (1 : Int64) <<< (lN k &&& (63 : Int64)) = lN (2 ^ k) := (by decide +kernel : ∀ k : Fin 36, (1 : Int64) <<< (lN k.val &&& (63 : Int64)) = lN (2 ^ k.val)) ⟨k, h⟩
theorem q_bar {S : HS} {t a b m : Nat} (ha : a < 6) (hb : b < 6) (hm : m < 2 ^ 36) (hg : gl S t = lN m) : s_X6_bar t (nI a) (nI b) S = some (sg S t (lN (m ||| 2 ^ (6 * a + b)))) := by
  have h2 : 2 ^ (6 * a + b) < 2 ^ 36 := Nat.pow_lt_pow_right (by decide) (by omega)
  unfold s_X6_bar
  rw [hg, show (6 : Int32) = nI 6 from rfl, pk_mul, nI_add, nI_l (by omega), lsh (by omega), or_lN (by omega) (by rw [show a * 6 + b = 6 * a + b by omega]; omega), pl_ok, sb, show a * 6 + b = 6 * a + b by omega]
theorem DJ.bar {S : HS} {t n l x y : Nat} {B A A' O : Nat → Nat} (h : DJ S t n l B A O) (ht : isT t) (hx : x < A 10) (hy : y < A 10) (h36 : A 11 < 36) (hA : A' = upA (upA A (21 + x) (A (21 + x) ||| 2 ^ y)) 11 (A 11 + 1)) : ∃ m, gl S t = lN m ∧ m < 2 ^ 36 ∧ DJ (sg S t (lN (m ||| 2 ^ (6 * x + y)))) t n l B A' O := by
  have hn := isT_num ht
  obtain ⟨a, b, ⟨c1, c2, c3, c4, c5, ⟨m, m1, m2, m3⟩, c7⟩, d, e, f, g, r1, r2, r3, r4⟩ := h
  have r2' := r2
  obtain ⟨g1, g2, g3, g4, g5, g6, g7, g8, g9, g10, g11, g12⟩ := r2
  have ae : ∀ i, i ≠ 11 → i ≠ 21 + x → A' i = A i := by
    intro i a b
    rw [hA, upA_ne a, upA_ne b]
  have a11 : A' 11 = A 11 + 1 := by rw [hA, upA_eq]
  have a21 : A' (21 + x) = A (21 + x) ||| 2 ^ y := by rw [hA, upA_ne (by omega), upA_eq]
  clear hA
  have a9 : A' 9 = A 9 := ae _ (by omega) (by omega)
  have a10 : A' 10 = A 10 := ae _ (by omega) (by omega)
  have a13 : A' 13 = A 13 := ae _ (by omega) (by omega)
  have h2 : 2 ^ (6 * x + y) < 2 ^ 36 := Nat.pow_lt_pow_right (by decide) (by omega)
  have h3 : 2 ^ y < 2 ^ 6 := Nat.pow_lt_pow_right (by decide) (by omega)
  refine ⟨m, m2, m1, a, b, ⟨?_, ?_, ?_, ?_, ?_, ?_, ?_⟩, ?_, ?_, f, g, r1, ?_, by rw [a13]; exact r3, ?_⟩
  · rw [a9]
    exact c1
  · rw [a10]
    exact c2
  · intro i hi
    rw [ae i (by omega) (by omega)]
    exact c3 i hi
  · intro c hcc
    rw [a9] at hcc
    rw [ae _ (by omega) (by omega), ae _ (by omega) (by omega), ae _ (by omega) (by omega)]
    exact c4 c hcc
  · intro i hi
    rw [a10] at hi
    rw [ae _ (by omega) (by omega)]
    exact c5 i hi
  · unfold RBr
    refine ⟨m ||| 2 ^ (6 * x + y), Nat.or_lt_two_pow m1 h2, by rw [gl_sg, if_pos rfl], ?_⟩
    intro p q hp hq
    rw [Nat.testBit_or, m3 p q hp hq, Nat.testBit_two_pow]
    by_cases z : p = x
    · subst z
      rw [a21, Nat.testBit_or, Nat.testBit_two_pow]
      congr 1
      apply decide_eq_decide.mpr
      omega
    · rw [ae _ (by omega) (by omega), decide_eq_false (by omega), Bool.or_false]
  · intro i hi
    rw [a13] at hi
    rw [ae _ (by omega) (by omega), ae _ (by omega) (by omega)]
    exact c7 i hi
  · intro c hcc
    rw [ae _ (by omega) (by omega)]
    exact d c hcc
  · rw [a13]
    exact e
  · refine r2'.of (by omega) (by omega) (by omega) (by rw [ae _ (by omega) (by omega)]; exact g4) (by omega) (fun i hi => ae _ (by omega) (by omega)) ?_ ?_ ?_ ?_
    · intro c hcc
      rw [a9] at hcc
      rw [ae _ (by omega) (by omega), ae _ (by omega) (by omega), ae _ (by omega) (by omega)]
      exact g9 c hcc
    · intro c hcc
      rw [a10, ae _ (by omega) (by omega)]
      exact g10 c hcc
    · intro c hcc
      by_cases z : c = x
      · subst z
        rw [a21]
        exact Nat.or_lt_two_pow (n := 6) (g11 c hcc) h3
      · rw [ae _ (by omega) (by omega)]
        exact g11 c hcc
    · intro i hi
      rw [a13] at hi
      rw [a10, ae _ (by omega) (by omega), ae _ (by omega) (by omega)]
      exact g12 i hi
  · exact r4.of (ae _ (by omega) (by omega)) (fun c hcc => ⟨ae _ (by omega) (by omega), ae _ (by omega) (by omega)⟩) (fun c hcc => ⟨ae _ (by omega) (by omega), ae _ (by omega) (by omega), ae _ (by omega) (by omega)⟩) (fun d hd => by
    rw [ae _ (by omega) (by omega)]
    exact r4.2.2.2 d hd)
theorem DJ.last {S : HS} {t n l x y : Nat} {B A A' O : Nat → Nat} (h : DJ S t n l B A O) (ht : isT t) (hx : x < A 9) (hy : y < A 10) (h20 : A 12 < 20) (hA : A' = upA (upA A (32 + 6 * x) (y + 1)) 12 (A 12 + 1)) : DJ (st S (t + 5) x (nI y)) t n l B A' O := by
  have hn := isT_num ht
  obtain ⟨a, b, ⟨c1, c2, c3, c4, c5, c6, c7⟩, d, e, f, g, r1, r2, r3, r4⟩ := h
  have r2' := r2
  obtain ⟨g1, g2, g3, g4, g5, g6, g7, g8, g9, g10, g11, g12⟩ := r2
  have ae : ∀ i, i ≠ 12 → i ≠ 32 + 6 * x → A' i = A i := by
    intro i a b
    rw [hA, upA_ne a, upA_ne b]
  have a12 : A' 12 = A 12 + 1 := by rw [hA, upA_eq]
  have a32 : A' (32 + 6 * x) = y + 1 := by rw [hA, upA_ne (by omega), upA_eq]
  clear hA
  have a9 : A' 9 = A 9 := ae _ (by omega) (by omega)
  have a10 : A' 10 = A 10 := ae _ (by omega) (by omega)
  have a13 : A' 13 = A 13 := ae _ (by omega) (by omega)
  refine ⟨a.st (by omega), b, ⟨?_, ?_, ?_, ?_, ?_, ?_, ?_⟩, ?_, ?_, ?_, ?_, r1, ?_, by rw [a13]; exact r3, ?_⟩
  · rw [a9]
    exact c1
  · rw [a10]
    exact c2
  · intro i hi
    rw [gd_st (by omega), ae i (by omega) (by omega)]
    exact c3 i hi
  · intro c hcc
    rw [a9] at hcc
    rw [gd_st (by omega), gd_st (by omega), gd_st (by omega), ae _ (by omega) (by omega), ae _ (by omega) (by omega), ae _ (by omega) (by omega)]
    exact c4 c hcc
  · intro i hi
    rw [a10] at hi
    rw [gd_st (by omega), ae _ (by omega) (by omega)]
    exact c5 i hi
  · obtain ⟨m, m1, m2, m3⟩ := c6
    unfold RBr
    refine ⟨m, m1, m2, fun x y hx hy => ?_⟩
    rw [ae _ (by omega) (by omega)]
    exact m3 x y hx hy
  · intro i hi
    rw [a13] at hi
    rw [gd_st (by omega), gd_st (by omega), ae _ (by omega) (by omega), ae _ (by omega) (by omega)]
    exact c7 i hi
  · intro c hcc
    by_cases z : c = x
    · subst z
      rw [gd_st_eq (nT5 a.1 ht) hcc, a32, dn_s]
    · rw [gd_st (by omega), ae _ (by omega) (by omega)]
      exact d c hcc
  · rw [a13]
    exact e
  · intro i hi
    rw [gd_st (by omega)]
    exact f i hi
  · intro i hi
    rw [gd_st (by omega)]
    exact g i hi
  · refine r2'.of (by omega) (by omega) (by rw [ae _ (by omega) (by omega)]; exact g3) (by omega) (by omega) (fun i hi => ae _ (by omega) (by omega)) ?_ ?_ ?_ ?_
    · intro c hcc
      rw [a9] at hcc
      rw [ae _ (by omega) (by omega), ae _ (by omega) (by omega), ae _ (by omega) (by omega)]
      exact g9 c hcc
    · intro c hcc
      by_cases z : c = x
      · subst z
        omega
      · rw [a10, ae _ (by omega) (by omega)]
        exact g10 c hcc
    · intro c hcc
      rw [ae _ (by omega) (by omega)]
      exact g11 c hcc
    · intro i hi
      rw [a13] at hi
      rw [a10, ae _ (by omega) (by omega), ae _ (by omega) (by omega)]
      exact g12 i hi
  · exact r4.of (ae _ (by omega) (by omega)) (fun c hcc => ⟨ae _ (by omega) (by omega), ae _ (by omega) (by omega)⟩) (fun c hcc => ⟨ae _ (by omega) (by omega), ae _ (by omega) (by omega), ae _ (by omega) (by omega)⟩) (fun d hd => by
    rw [ae _ (by omega) (by omega)]
    exact r4.2.2.2 d hd)
theorem DJ.drp {S : HS} {t n l q v : Nat} {B A A' O : Nat → Nat} (h : DJ S t n l B A O) (ht : isT t) (hc : A 13 < 4) (hq : q < A 10) (hv : 1 ≤ v ∧ v ≤ 4995) (e7 : (ga S (t + 7)).getD (A 13) 0 = nI q) (e8 : (ga S (t + 8)).getD (A 13) 0 = nI v) (hA : A' = upA (upA (upA A (57 + 5 * A 13) q) (58 + 5 * A 13) v) 13 (A 13 + 1)) : DJ (sf S t 9 (nI (A 13 + 1))) t n l B A' O := by
  have hn := isT_num ht
  have ae : ∀ i, i ≠ 13 → i ≠ 57 + 5 * A 13 → i ≠ 58 + 5 * A 13 → A' i = A i := by
    intro i a b c
    rw [hA, upA_ne a, upA_ne c, upA_ne b]
  have a13 : A' 13 = A 13 + 1 := by rw [hA, upA_eq]
  have a57 : A' (57 + 5 * A 13) = q := by rw [hA, upA_ne (by omega), upA_ne (by omega), upA_eq]
  have a58 : A' (58 + 5 * A 13) = v := by rw [hA, upA_ne (by omega), upA_eq]
  clear hA
  obtain ⟨a, b, ⟨c1, c2, c3, c4, c5, c6, c7⟩, d, e, f, g, r1, r2, r3, r4⟩ := h
  have r2' := r2
  obtain ⟨g1, g2, g3, g4, g5, g6, g7, g8, g9, g10, g11, g12⟩ := r2
  have a9 : A' 9 = A 9 := ae _ (by omega) (by omega) (by omega)
  have a10 : A' 10 = A 10 := ae _ (by omega) (by omega) (by omega)
  refine ⟨⟨a.1, a.2.1, ?_, a.2.2.2⟩, b, ⟨?_, ?_, ?_, ?_, ?_, ?_, ?_⟩, ?_, ?_, f, g, ?_, ?_, by omega, ?_⟩
  · rw [gf_sf, if_neg (by omega)]
    exact a.2.2.1
  · rw [gf_sf, if_neg (by omega), a9]
    exact c1
  · rw [gf_sf, if_neg (by omega), a10]
    exact c2
  · intro i hi
    rw [ae i (by omega) (by omega) (by omega)]
    exact c3 i hi
  · intro c hcc
    rw [a9] at hcc
    rw [ae _ (by omega) (by omega) (by omega), ae _ (by omega) (by omega) (by omega), ae _ (by omega) (by omega) (by omega)]
    exact c4 c hcc
  · intro i hi
    rw [a10] at hi
    rw [ae _ (by omega) (by omega) (by omega)]
    exact c5 i hi
  · obtain ⟨m, m1, m2, m3⟩ := c6
    unfold RBr
    refine ⟨m, m1, m2, fun x y hx hy => ?_⟩
    rw [ae _ (by omega) (by omega) (by omega)]
    exact m3 x y hx hy
  · intro i hi
    rw [a13] at hi
    by_cases z : i = A 13
    · subst z
      rw [a57, a58]
      exact ⟨e7, e8⟩
    · rw [ae _ (by omega) (by omega) (by omega), ae _ (by omega) (by omega) (by omega)]
      exact c7 i (by omega)
  · intro c hcc
    rw [ae _ (by omega) (by omega) (by omega)]
    exact d c hcc
  · rw [gf_sf, if_pos ⟨rfl, rfl⟩, a13]
  · rw [gf_sf, if_neg (by omega)]
    exact r1
  · refine r2'.of (by omega) (by omega) (by rw [ae _ (by omega) (by omega) (by omega)]; exact g3) (by rw [ae _ (by omega) (by omega) (by omega)]; exact g4) (by omega) (fun i hi => ae _ (by omega) (by omega) (by omega)) ?_ ?_ ?_ ?_
    · intro c hcc
      rw [a9] at hcc
      rw [ae _ (by omega) (by omega) (by omega), ae _ (by omega) (by omega) (by omega), ae _ (by omega) (by omega) (by omega)]
      exact g9 c hcc
    · intro c hcc
      rw [a10, ae _ (by omega) (by omega) (by omega)]
      exact g10 c hcc
    · intro c hcc
      rw [ae _ (by omega) (by omega) (by omega)]
      exact g11 c hcc
    · intro i hi
      rw [a13] at hi
      by_cases z : i = A 13
      · subst z
        rw [a57, a58, a10]
        exact ⟨hq, hv⟩
      · rw [a10, ae _ (by omega) (by omega) (by omega), ae _ (by omega) (by omega) (by omega)]
        exact g12 i (by omega)
  · exact r4.of (ae _ (by omega) (by omega) (by omega)) (fun c hcc => ⟨ae _ (by omega) (by omega) (by omega), ae _ (by omega) (by omega) (by omega)⟩) (fun c hcc => ⟨ae _ (by omega) (by omega) (by omega), ae _ (by omega) (by omega) (by omega), ae _ (by omega) (by omega) (by omega)⟩) (fun d hd => by
    by_cases z : d = A 13
    · subst z
      rw [a57]
      omega
    · rw [ae _ (by omega) (by omega) (by omega)]
      exact r4.2.2.2 d hd)
theorem DJ.head {S : HS} {t n l i v : Nat} {B A A' O : Nat → Nat} (h : DJ S t n l B A O) (ht : isT t) (hi : i < 9) (hv : v ≤ 9999) (h0 : i = 0 → 1 ≤ v ∧ v ≤ 99) (h6 : i = 6 → v ≤ 100) (hA : A' = upA A i v) : DJ (st S (t + 1) i (nI v)) t n l B A' O := by
  have hn := isT_num ht
  obtain ⟨a, b, ⟨c1, c2, c3, c4, c5, c6, c7⟩, d, e, f, g, r1, r2, r3, r4⟩ := h
  obtain ⟨g1, g2, g3, g4, g5, g6, g7, g8, g9, g10, g11, g12⟩ := r2
  have ae : ∀ j, j ≠ i → A' j = A j := by
    intro j a
    rw [hA, upA_ne a]
  have ai : A' i = v := by rw [hA, upA_eq]
  clear hA
  have a9 : A' 9 = A 9 := ae _ (by omega)
  have a10 : A' 10 = A 10 := ae _ (by omega)
  have a13 : A' 13 = A 13 := ae _ (by omega)
  refine ⟨a.st (by omega), b, ⟨?_, ?_, ?_, ?_, ?_, ?_, ?_⟩, ?_, ?_, ?_, ?_, r1, ⟨by omega, by omega, by rw [ae _ (by omega)]; exact g3, by rw [ae _ (by omega)]; exact g4, by omega, ?_, ?_, ?_, ?_, ?_, ?_, ?_⟩, by rw [a13]; exact r3, ?_⟩
  · rw [a9]
    exact c1
  · rw [a10]
    exact c2
  · intro j hj
    by_cases z : j = i
    · subst z
      rw [gd_st_eq (nT1 a.1 ht) hj, ai]
    · rw [gd_st (by omega), ae j z]
      exact c3 j hj
  · intro c hcc
    rw [a9] at hcc
    rw [gd_st (by omega), gd_st (by omega), gd_st (by omega), ae _ (by omega), ae _ (by omega), ae _ (by omega)]
    exact c4 c hcc
  · intro j hj
    rw [a10] at hj
    rw [gd_st (by omega), ae _ (by omega)]
    exact c5 j hj
  · obtain ⟨m, m1, m2, m3⟩ := c6
    unfold RBr
    refine ⟨m, m1, m2, fun x y hx hy => ?_⟩
    rw [ae _ (by omega)]
    exact m3 x y hx hy
  · intro j hj
    rw [a13] at hj
    rw [gd_st (by omega), gd_st (by omega), ae _ (by omega), ae _ (by omega)]
    exact c7 j hj
  · intro c hcc
    rw [gd_st (by omega), ae _ (by omega)]
    exact d c hcc
  · rw [a13]
    exact e
  · intro j hj
    rw [gd_st (by omega)]
    exact f j hj
  · intro j hj
    rw [gd_st (by omega)]
    exact g j hj
  · by_cases z : 0 = i
    · subst z
      rw [ai]
      exact h0 rfl
    · rw [ae _ z]
      exact g6
  · intro j hj
    by_cases z : j = i
    · subst z
      omega
    · rw [ae _ z]
      exact g7 j hj
  · by_cases z : 6 = i
    · subst z
      rw [ai]
      exact h6 rfl
    · rw [ae _ z]
      exact g8
  · intro c hcc
    rw [a9] at hcc
    rw [ae _ (by omega), ae _ (by omega), ae _ (by omega)]
    exact g9 c hcc
  · intro c hcc
    rw [a10, ae _ (by omega)]
    exact g10 c hcc
  · intro c hcc
    rw [ae _ (by omega)]
    exact g11 c hcc
  · intro j hj
    rw [a13] at hj
    rw [a10, ae _ (by omega), ae _ (by omega)]
    exact g12 j hj
  · exact r4.of (ae _ (by omega)) (fun c hcc => ⟨ae _ (by omega), ae _ (by omega)⟩) (fun c hcc => ⟨ae _ (by omega), ae _ (by omega), ae _ (by omega)⟩) (fun d hd => by
    rw [ae _ (by omega)]
    exact r4.2.2.2 d hd)
