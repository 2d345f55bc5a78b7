/-! what is told, on both sides -/
def upA (A : Nat → Nat) (i v : Nat) : Nat → Nat := fun j => if j = i then v else A j
theorem upA_eq {A : Nat → Nat} {i v : Nat} : upA A i v i = v := if_pos rfl
theorem upA_ne {A : Nat → Nat} {i v j : Nat} (h : j ≠ i) : upA A i v j = A j := if_neg h
def RMt (M : HS) (k : Nat) (A : Nat → Nat) : Prop := ∀ i, i < 157 → (ga M k).getD i 0 = nI (A i)
def RBr (S : HS) (t : Nat) (A : Nat → Nat) : Prop := ∃ m, m < 2 ^ 36 ∧ gl S t = lN m ∧ ∀ a b, a < 6 → b < 6 → m.testBit (6 * a + b) = (A (21 + a)).testBit b
def RDt (S : HS) (t : Nat) (A : Nat → Nat) : Prop :=
  gf S t 1 = nI (A 9) ∧ gf S t 6 = nI (A 10) ∧
  (∀ i, i < 9 → (ga S (t + 1)).getD i 0 = nI (A i)) ∧
  (∀ c, c < A 9 → (ga S (t + 2)).getD c 0 = nI (A (27 + 6 * c)) ∧ (ga S (t + 3)).getD c 0 = nI (A (28 + 6 * c)) ∧ (ga S (t + 4)).getD c 0 = nI (A (29 + 6 * c))) ∧
  (∀ i, i < A 10 → (ga S (t + 6)).getD i 0 = nI (A (15 + i))) ∧
  RBr S t A ∧
  (∀ d, d < A 13 → (ga S (t + 7)).getD d 0 = nI (A (57 + 5 * d)) ∧ (ga S (t + 8)).getD d 0 = nI (A (58 + 5 * d)))
def RLs (S : HS) (t : Nat) (A : Nat → Nat) : Prop := ∀ c, c < 5 → (ga S (t + 5)).getD c 0 = dn (A (32 + 6 * c))
def RgA (A : Nat → Nat) : Prop :=
  A 9 ≤ 5 ∧ A 10 ≤ 6 ∧ A 11 ≤ 36 ∧ A 12 ≤ 20 ∧ A 13 ≤ 20 ∧ (1 ≤ A 0 ∧ A 0 ≤ 99) ∧ (∀ i, i < 9 → A i ≤ 9999) ∧ A 6 ≤ 100 ∧
  (∀ c, c < A 9 → 1 ≤ A (27 + 6 * c) ∧ A (27 + 6 * c) ≤ 999 ∧ A (28 + 6 * c) ≤ 99 ∧ A (29 + 6 * c) ≤ 1) ∧
  (∀ c, c < 5 → A (32 + 6 * c) ≤ A 10) ∧ (∀ a, a < 6 → A (21 + a) < 64) ∧
  (∀ d, d < A 13 → A (57 + 5 * d) < A 10 ∧ 1 ≤ A (58 + 5 * d) ∧ A (58 + 5 * d) ≤ 4995)
def Zs (A : Nat → Nat) : Prop := A 14 = 0 ∧ (∀ c, c < 5 → A (30 + 6 * c) = 0 ∧ A (31 + 6 * c) = 0) ∧ (∀ d, d < 20 → A (59 + 5 * d) = 0 ∧ A (60 + 5 * d) = 0 ∧ A (61 + 5 * d) = 0) ∧ ∀ d, d < 20 → A (57 + 5 * d) < 6
def Lq (S : HS) (t : Nat) : Prop := ∀ i, i < 20 → ∃ q, q < 6 ∧ (ga S (t + 7)).getD i 0 = nI q
/-- the desk in the midst of reading -/
def DJ (S : HS) (t n l : Nat) (B A O : Nat → Nat) : Prop :=
  RdI S B n ∧ gr S 2 7 = .ref t ∧ RDt S t A ∧ RLs S t A ∧ gf S t 9 = nI (A 13) ∧ Lq S t ∧ (∀ i, i < 5 → (ga S 3).getD i 0 = nI (O i)) ∧ gf S 2 8 = nI l ∧ RgA A ∧ A 13 ≤ 4 ∧ Zs A
def MJ (M : HS) (n : Nat) (B A : Nat → Nat) : Prop := MdI M B n ∧ RMt M 140 A ∧ gf M 137 8 = 0
theorem RMt.st {M : HS} {k i v : Nat} {A : Nat → Nat} (h : RMt M k A) (hl : (ga M k).length = 157) (hi : i < 157) : RMt (st M k i (nI v)) k (upA A i v) := by
  intro j hj
  rw [ga_st_eq, gset (by omega)]
  unfold upA
  by_cases e : j = i
  · rw [if_pos e, if_pos e]
  · rw [if_neg e, if_neg e]
    exact h j hj
theorem RMt.fr {W : Nat → Nat → Prop} {M M1 : HS} {k : Nat} {A : Nat → Nat} (h : RMt M k A) (f : Fr W M M1) (hw : ¬ W k 99) : RMt M1 k A := by
  intro i hi
  rw [f.2.2.1 k hw]
  exact h i hi
theorem MJ.fr {M M1 : HS} {n : Nat} {B A : Nat → Nat} (h : MJ M n B A) (f : Fr wg M M1) : MJ M1 n B A := ⟨h.1.fr f (fun k j z => z), h.2.1.fr f (by unfold wg; omega), (f.1 137 8 (by unfold wg; omega)).1.trans h.2.2⟩
theorem MJ.st {M : HS} {n i v : Nat} {B A : Nat → Nat} (h : MJ M n B A) (hi : i < 157) : MJ (st M 140 i (nI v)) n B (upA A i v) := by
  refine ⟨⟨h.1.1.st, h.1.2.1, ?_⟩, h.2.1.st (nM140 h.1.1) hi, h.2.2⟩
  intro j hj
  rw [ga_st_ne (by omega)]
  exact h.1.2.2 j hj
theorem MJ.sf {M : HS} {n j : Nat} {x : Int32} {B A : Nat → Nat} (h : MJ M n B A) (hj : j ≠ 3 ∧ j ≠ 8) : MJ (sf M 137 j x) n B A := ⟨h.1.sf hj.1, h.2.1, by rw [gf_sf, if_neg (by omega)]; exact h.2.2⟩
theorem r_ag {M : HS} {n i : Nat} {B A : Nat → Nat} (h : MJ M n B A) (hi : i < 157) : ag (ga M 140) (nI i) = some (nI (A i)) := by
  rw [ag_ok (nM140 h.1.1) hi (by omega), h.2.1 i hi]
/-- cells of the told alone -/
theorem RDt.keep {S S1 : HS} {t : Nat} {A : Nat → Nat} (h : RDt S t A) (h1 : ∀ j, gf S1 t j = gf S t j) (h2 : gl S1 t = gl S t) (h3 : ∀ i, i ≤ 8 → ga S1 (t + i) = ga S (t + i)) : RDt S1 t A := by
  unfold RDt RBr at h ⊢
  rw [h1, h1, h2, h3 1 (by omega), h3 2 (by omega), h3 3 (by omega), h3 4 (by omega), h3 6 (by omega), h3 7 (by omega), h3 8 (by omega)]
  exact h
theorem DJ.keep {S S1 : HS} {t n l : Nat} {B A O : Nat → Nat} (h : DJ S t n l B A O) (hR : RdI S1 B n) (h7 : gr S1 2 7 = gr S 2 7) (h8 : gf S1 2 8 = gf S 2 8) (h1 : ∀ j, gf S1 t j = gf S t j) (h2 : gl S1 t = gl S t) (h3 : ∀ i, i ≤ 8 → ga S1 (t + i) = ga S (t + i)) (h4 : ga S1 3 = ga S 3) : DJ S1 t n l B A O := by
  obtain ⟨a, b, c, d, e, f, g, i, j⟩ := h
  refine ⟨hR, by rw [h7]; exact b, c.keep h1 h2 h3, ?_, by rw [h1]; exact e, ?_, by rw [h4]; exact g, by rw [h8]; exact i, j⟩
  · unfold RLs
    rw [h3 5 (by omega)]
    exact d
  · unfold Lq
    rw [h3 7 (by omega)]
    exact f
def wF (k j : Nat) : Prop := k = 2 ∧ (3 ≤ j ∧ j ≤ 6 ∨ j = 9 ∨ j = 10)
theorem DJ.fr {W : Nat → Nat → Prop} {S S1 : HS} {t n l : Nat} {B A O : Nat → Nat} (h : DJ S t n l B A O) (ht : isT t) (f : Fr W S S1) (hw : ∀ k j, W k j → wF k j) : DJ S1 t n l B A O := by
  have hn := isT_num ht
  refine h.keep ⟨h.1.1.fr f, ?_, ?_, ?_⟩ (f.1 2 7 ?_).2 (f.1 2 8 ?_).1 (fun j => (f.1 t j ?_).1) (f.2.1 t ?_) (fun i hi => f.2.2.1 _ ?_) (f.2.2.1 _ ?_)
  · rw [(f.1 2 1 (fun z => by have := hw _ _ z; unfold wF at this; omega)).2]
    exact h.1.2.1
  · rw [(f.1 2 2 (fun z => by have := hw _ _ z; unfold wF at this; omega)).1]
    exact h.1.2.2.1
  · intro i hi
    rw [f.2.2.1 1 (fun z => by have := hw _ _ z; unfold wF at this; omega)]
    exact h.1.2.2.2 i hi
  all_goals
    intro z
    have := hw _ _ z
    unfold wF at this
    omega
theorem iv_dj {S : HS} {t n l : Nat} {B A O : Nat → Nat} (h : DJ S t n l B A O) : IvT S t := ⟨⟨A 9, h.2.2.2.2.2.2.2.2.1.1, h.2.2.1.1⟩, ⟨A 10, h.2.2.2.2.2.2.2.2.1.2.1, h.2.2.1.2.1⟩, ⟨A 13, h.2.2.2.2.2.2.2.2.2.1, h.2.2.2.2.1⟩, h.2.2.2.2.2.1⟩
/-! steps of both readers -/
abbrev CurD (S1 : HS) (B : Nat → Nat) (n s : Nat) : Prop := gf S1 2 3 = nI (tkE B n s) ∧ gf S1 2 4 = nI (tkK B n s) ∧ gf S1 2 5 = nI (tkP n s) ∧ (tkK B n s = 2 → gf S1 2 6 = nI (dvn B s (tkE B n s - s)))
theorem q_refuse {S : HS} {x : Int32} : s_X4_refuse x S = some (0, sf (sf S 2 9 x) 2 10 (gf S 2 5)) := by
  unfold s_X4_refuse
  rw [pf_ok, sb, pf_ok, sb, gf_sf, if_neg (by omega)]
abbrev BadD (S S1 : HS) (w p : Nat) : Prop := Fr wF S S1 ∧ gf S1 2 9 = nI w ∧ gf S1 2 10 = nI p
theorem bad_refuse {S0 S : HS} {w p : Nat} (f : Fr wA S0 S) (h5 : gf S 2 5 = nI p) : BadD S0 (sf (sf S 2 9 (nI w)) 2 10 (gf S 2 5)) w p := by
  refine ⟨fr_sf (fr_sf (fr_tr fr_rf f (fun k j z => by unfold wA at z; unfold wF; omega)) (by unfold wF; omega)) (by unfold wF; omega), ?_, ?_⟩
  · rw [gf_sf, if_neg (by omega), gf_sf, if_pos ⟨rfl, rfl⟩]
  · rw [gf_sf, if_pos ⟨rfl, rfl⟩]
    exact h5
theorem q_num {S : HS} {B : Nat → Nat} {n a : Nat} {v1 v2 : Int32} (hn : n ≤ 740) (ha : a ≤ n) (hR : RdI S B n) (h3 : gf S 2 3 = nI a) : (tkK B n (tkS B n a) = 2 ∧ ¬ nI (dvn B (tkS B n a) (tkE B n (tkS B n a) - tkS B n a)) < v1 ∧ nI (dvn B (tkS B n a) (tkE B n (tkS B n a) - tkS B n a)) ≤ v2 ∧ ∃ S1, s_X4_readNumber v1 v2 S = some (1, S1) ∧ Fr wA S S1 ∧ CurD S1 B n (tkS B n a)) ∨ (¬ (tkK B n (tkS B n a) = 2 ∧ ¬ nI (dvn B (tkS B n a) (tkE B n (tkS B n a) - tkS B n a)) < v1 ∧ nI (dvn B (tkS B n a) (tkE B n (tkS B n a) - tkS B n a)) ≤ v2) ∧ ∃ S1, s_X4_readNumber v1 v2 S = some (0, S1) ∧ BadD S S1 (if tkK B n (tkS B n a) = 2 then 2 else 1) (tkP n (tkS B n a))) := by
  obtain ⟨S1, e, f, c3, c4, c5, c6⟩ := q_adv hn ha hR h3
  generalize tkS B n a = s at *
  have hk := tkK_le (B := B) (n := n) (s := s)
  have J : ∃ S2, s_X4_readNumber_J34 S1 = some (0, S2) ∧ BadD S S2 2 (tkP n s) := by
    unfold s_X4_readNumber_J34
    rw [q_refuse, sb, if_pos rfl]
    exact ⟨_, rfl, bad_refuse (w := 2) f c5⟩
  unfold s_X4_readNumber
  rw [e, sb, c4]
  by_cases h2 : tkK B n s = 2
  · rw [h2, if_pos (show nI 2 = (2 : Int32) from rfl), if_pos (show 2 = 2 from rfl), c6 h2]
    by_cases z1 : nI (dvn B s (tkE B n s - s)) < v1
    · rw [if_pos z1]
      exact Or.inr ⟨fun z => z.2.1 z1, J⟩
    · rw [if_neg z1]
      by_cases z2 : nI (dvn B s (tkE B n s - s)) ≤ v2
      · rw [if_pos z2]
        exact Or.inl ⟨rfl, z1, z2, S1, rfl, f, c3, by rw [c4, h2], c5, fun _ => c6 h2⟩
      · rw [if_neg z2]
        exact Or.inr ⟨fun z => z2 z.2.2, J⟩
  · rw [if_neg (show ¬ nI (tkK B n s) = (2 : Int32) from fun z => h2 ((nI_eq (b := 2) (by omega) (by omega)).mp z)), if_neg h2, q_refuse, sb]
    refine Or.inr ⟨fun z => h2 z.1, _, rfl, bad_refuse (w := 1) f c5⟩
theorem mk_eq {k j : Nat} (hk : k ≤ 4) (hj : j ≤ 4) : nI (mk k) = nI (mk j) ↔ k = j := (by decide : ∀ k j : Fin 5, nI (mk k.val) = nI (mk j.val) ↔ k.val = j.val) ⟨k, by omega⟩ ⟨j, by omega⟩
theorem q_bad {M : HS} {B : Nat → Nat} {n s w : Nat} (hT : TkM B n s M) : ∃ M1, s_X8_bad (nI w) M = some (0, M1) ∧ gf M1 137 8 = nI (if tkK B n s = 0 then 1 else w) ∧ gf M1 137 9 = nI (tkP n s) := by
  have hk := tkK_le (B := B) (n := n) (s := s)
  unfold s_X8_bad
  rw [hT.1, show (1 : Int32) = nI (mk 0) from rfl]
  simp only [pf_ok, sb]
  by_cases z : tkK B n s = 0
  · rw [z, if_neg (fun z => z rfl), if_pos rfl]
    refine ⟨_, rfl, ?_, ?_⟩
    · rw [gf_sf, if_neg (by omega), gf_sf, if_pos ⟨rfl, rfl⟩]
      rfl
    · rw [gf_sf, if_pos ⟨rfl, rfl⟩, gf_sf, if_neg (by omega), hT.2.1]
  · rw [if_pos (show nI (mk (tkK B n s)) ≠ nI (mk 0) from fun y => z ((mk_eq hk (by omega)).mp y)), if_neg z]
    refine ⟨_, rfl, ?_, ?_⟩
    · rw [gf_sf, if_neg (by omega), gf_sf, if_pos ⟨rfl, rfl⟩]
    · rw [gf_sf, if_pos ⟨rfl, rfl⟩, gf_sf, if_neg (by omega), hT.2.1]
abbrev BadM (M1 : HS) (w p : Nat) : Prop := gf M1 137 8 = nI w ∧ gf M1 137 9 = nI p
theorem q_isInM {x v1 v2 : Int32} : s_X8_isIn x v1 v2 = some (if ¬ x < v1 ∧ ¬ v2 < x then 1 else 0) := by
  unfold s_X8_isIn
  by_cases a : x < v1
  · rw [if_pos a, if_neg (fun z => z.1 a)]
  · rw [if_neg a]
    by_cases b : v2 < x
    · rw [if_pos b, if_neg (fun z => z.2 b)]
    · rw [if_neg b, if_pos ⟨a, b⟩]
theorem go_next {M : HS} {n e : Nat} {B A : Nat → Nat} (hn : n ≤ 740) (he : e ≤ n) (hM : MJ M n B A) (h4 : gf M 137 4 = nI e) : ∃ M1, s_X8_go M = some M1 ∧ MJ M1 n B A ∧ TkM B n (tkS B n e) M1 ∧ gf M1 137 15 = gf M 137 15 := by
  obtain ⟨M1, a, b, c⟩ := q_go hn he hM.1 h4
  exact ⟨M1, a, hM.fr b, c, (b.1 137 15 (by unfold wg; omega)).1⟩
theorem q_told {M : HS} {n s i : Nat} {B A : Nat → Nat} {v1 v2 : Int32} (hn : n ≤ 740) (hs : s ≤ n) (hM : MJ M n B A) (hT : TkM B n s M) (hi : i < 157) : (tkK B n s = 2 ∧ ¬ nI (dvn B s (tkE B n s - s)) < v1 ∧ ¬ v2 < nI (dvn B s (tkE B n s - s)) ∧ ∃ M1, s_X8_told (nI i) v1 v2 M = some (1, M1) ∧ MJ M1 n B (upA A i (dvn B s (tkE B n s - s))) ∧ TkM B n (tkS B n (tkE B n s)) M1 ∧ gf M1 137 15 = gf M 137 15) ∨ (¬ (tkK B n s = 2 ∧ ¬ nI (dvn B s (tkE B n s - s)) < v1 ∧ ¬ v2 < nI (dvn B s (tkE B n s - s))) ∧ ∃ M1, s_X8_told (nI i) v1 v2 M = some (0, M1) ∧ BadM M1 (if tkK B n s = 2 then 2 else 1) (tkP n s)) := by
  have hk := tkK_le (B := B) (n := n) (s := s)
  have he := tkE_rng (B := B) hs
  unfold s_X8_told
  rw [hT.1, show (3 : Int32) = nI (mk 2) from rfl]
  by_cases h2 : tkK B n s = 2
  · rw [h2, if_pos rfl, if_pos rfl, hT.2.2.2.1 h2, q_isInM, sb]
    generalize hv : dvn B s (tkE B n s - s) = v at *
    by_cases z : ¬ nI v < v1 ∧ ¬ v2 < nI v
    · have h4 : gf (st M 140 i (nI v)) 137 4 = nI (tkE B n s) := hT.2.2.1 (by omega)
      obtain ⟨M1, a, b, c, d⟩ := go_next hn he.2 (hM.st (v := v) hi) h4
      rw [if_pos z, if_pos (by decide), wa_st (nM140 hM.1.1) hi (by omega), sb, a, sb]
      exact Or.inl ⟨rfl, z.1, z.2, M1, rfl, b, c, d⟩
    · obtain ⟨M1, a, b, c⟩ := q_bad (w := 2) hT
      rw [if_neg z, if_neg (by decide), show (2 : Int32) = nI 2 from rfl, a, sb]
      refine Or.inr ⟨fun y => z y.2, M1, rfl, ?_, c⟩
      rw [b, if_neg (by omega)]
  · obtain ⟨M1, a, b, c⟩ := q_bad (w := 1) hT
    rw [if_neg (show ¬ nI (mk (tkK B n s)) = nI (mk 2) from fun y => h2 ((mk_eq hk (by omega)).mp y)), show (1 : Int32) = nI 1 from rfl, a, sb, if_neg h2]
    refine Or.inr ⟨fun y => h2 y.1, M1, rfl, ?_, c⟩
    rw [b]
    split <;> rfl
theorem q_oneOf {M : HS} {n s N : Nat} {B A : Nat → Nat} (hn : n ≤ 740) (hs : s ≤ n) (hN : N ≤ 100) (hM : MJ M n B A) (hT : TkM B n s M) : (tkK B n s = 2 ∧ dvn B s (tkE B n s - s) < N ∧ ∃ M1, s_X8_oneOf (nI N) M = some (1, M1) ∧ MJ M1 n B A ∧ TkM B n (tkS B n (tkE B n s)) M1 ∧ gf M1 137 15 = nI (dvn B s (tkE B n s - s))) ∨ (¬ (tkK B n s = 2 ∧ dvn B s (tkE B n s - s) < N) ∧ ∃ M1, s_X8_oneOf (nI N) M = some (0, M1) ∧ BadM M1 (if tkK B n s = 2 then 2 else 1) (tkP n s)) := by
  have hk := tkK_le (B := B) (n := n) (s := s)
  have he := tkE_rng (B := B) hs
  unfold s_X8_oneOf
  rw [hT.1, show (3 : Int32) = nI (mk 2) from rfl]
  by_cases h2 : tkK B n s = 2
  · have h9 := dv_9999 h2
    rw [h2, if_pos rfl, if_pos rfl, hT.2.2.2.1 h2]
    generalize hv : dvn B s (tkE B n s - s) = v at *
    by_cases z : v < N
    · have h4 : gf (sf M 137 15 (nI v)) 137 4 = nI (tkE B n s) := by
        rw [gf_sf, if_neg (by omega)]
        exact hT.2.2.1 (by omega)
      obtain ⟨M1, a, b, c, d⟩ := go_next hn he.2 (hM.sf (j := 15) (x := nI v) (by omega)) h4
      rw [if_pos (nI_lt z (by omega)), pf_ok, sb, a, sb]
      exact Or.inl ⟨rfl, z, M1, rfl, b, c, d⟩
    · obtain ⟨M1, a, b, c⟩ := q_bad (w := 2) hT
      rw [if_neg (nI_nlt (by omega) (by omega)), show (2 : Int32) = nI 2 from rfl, a, sb]
      refine Or.inr ⟨fun y => z y.2, M1, rfl, ?_, c⟩
      rw [b, if_neg (by omega)]
  · obtain ⟨M1, a, b, c⟩ := q_bad (w := 1) hT
    rw [if_neg (show ¬ nI (mk (tkK B n s)) = nI (mk 2) from fun y => h2 ((mk_eq hk (by omega)).mp y)), show (1 : Int32) = nI 1 from rfl, a, sb, if_neg h2]
    refine Or.inr ⟨fun y => h2 y.1, M1, rfl, ?_, c⟩
    rw [b]
    split <;> rfl
/-- a number on both sides, within bounds -/
theorem j_num {S M : HS} {t n l a i lo hi : Nat} {B A A' O : Nat → Nat} (ht : isT t) (hn : n ≤ 740) (ha : a ≤ n) (hl : lo ≤ hi + 1) (hh : hi ≤ 9999) (hD : DJ S t n l B A O) (h3 : gf S 2 3 = nI a) (hM : MJ M n B A') (hT : TkM B n (tkS B n a) M) (hi9 : i < 157) : (∃ S1 M1 v e, s_X4_readNumber (nI lo) (nI hi) S = some (1, S1) ∧ s_X8_told (nI i) (nI lo) (nI hi) M = some (1, M1) ∧ lo ≤ v ∧ v ≤ hi ∧ a ≤ e ∧ e ≤ n ∧ DJ S1 t n l B A O ∧ gf S1 2 3 = nI e ∧ gf S1 2 6 = nI v ∧ MJ M1 n B (upA A' i v) ∧ TkM B n (tkS B n e) M1 ∧ Fr wA S S1) ∨ (∃ S1 M1, s_X4_readNumber (nI lo) (nI hi) S = some (0, S1) ∧ s_X8_told (nI i) (nI lo) (nI hi) M = some (0, M1) ∧ gf S1 2 9 = gf M1 137 8 ∧ gf S1 2 10 = gf M1 137 9 ∧ DJ S1 t n l B A O ∧ Fr wF S S1) := by
  have hs := tkS_rng (B := B) ha
  have he := tkE_rng (B := B) hs.2
  rcases q_num (v1 := nI lo) (v2 := nI hi) hn ha hD.1 h3 with ⟨k2, z1, z2, S1, eS, f, c3, _, _, c6⟩ | ⟨z, S1, eS, f, b1, b2⟩
  · have h9 := dv_9999 k2
    have y1 := (Nat.not_lt.mp (fun y => z1 (nI_lt y (by omega))))
    have y2 := (nI_leI (by omega) (by omega)).mp z2
    rcases q_told (v1 := nI lo) (v2 := nI hi) hn hs.2 hM hT hi9 with ⟨_, _, _, M1, eM, m1, m2, _⟩ | ⟨z, _⟩
    · exact Or.inl ⟨S1, M1, _, _, eS, eM, y1, y2, by omega, he.2, hD.fr ht f (fun k j z => by unfold wA at z; unfold wF; omega), c3, c6 k2, m1, m2, f⟩
    · exact absurd ⟨k2, z1, nI_nlt y2 (by omega)⟩ z
  · rcases q_told (v1 := nI lo) (v2 := nI hi) hn hs.2 hM hT hi9 with ⟨k2, y1, y2, _⟩ | ⟨_, M1, eM, m1, m2⟩
    · have h9 := dv_9999 k2
      exact absurd ⟨k2, y1, nI_le (Nat.not_lt.mp (fun y => y2 (nI_lt y (by omega)))) (by omega)⟩ z
    · exact Or.inr ⟨S1, M1, eS, eM, by rw [b1, m1], by rw [b2, m2], hD.fr ht f (fun k j z => z), f⟩
theorem dn_le {v N : Nat} (hv : v ≤ 9999) (hN : N ≤ 100) : nI v ≤ nI N - 1 ↔ v < N := by
  cases N with
  | zero =>
    constructor
    · intro z
      exfalso
      have e : (nI 0 : Int32) - 1 = -1 := by decide
      rw [e] at z
      have h0 : ¬ nI v ≤ (-1 : Int32) := by
        intro y
        have h1 := Int32.le_iff_toInt_le.mp y
        rw [nI_toInt (by omega)] at h1
        have h2 : (-1 : Int32).toInt = -1 := by decide
        omega
      exact h0 z
    · intro z
      omega
  | succ N =>
    rw [nI_pred, nI_leI (by omega) (by omega)]
    omega
/-- the number of a told one, on both sides -/
theorem j_one {S M : HS} {t n l a N : Nat} {B A A' O : Nat → Nat} (ht : isT t) (hn : n ≤ 740) (ha : a ≤ n) (hN : N ≤ 100) (hD : DJ S t n l B A O) (h3 : gf S 2 3 = nI a) (hM : MJ M n B A') (hT : TkM B n (tkS B n a) M) : (∃ S1 M1 v e, s_X4_readNumber 0 (nI N - 1) S = some (1, S1) ∧ s_X8_oneOf (nI N) M = some (1, M1) ∧ v < N ∧ a ≤ e ∧ e ≤ n ∧ DJ S1 t n l B A O ∧ gf S1 2 3 = nI e ∧ gf S1 2 6 = nI v ∧ MJ M1 n B A' ∧ TkM B n (tkS B n e) M1 ∧ gf M1 137 15 = nI v ∧ Fr wA S S1) ∨ (∃ S1 M1, s_X4_readNumber 0 (nI N - 1) S = some (0, S1) ∧ s_X8_oneOf (nI N) M = some (0, M1) ∧ gf S1 2 9 = gf M1 137 8 ∧ gf S1 2 10 = gf M1 137 9 ∧ DJ S1 t n l B A O ∧ Fr wF S S1) := by
  have hs := tkS_rng (B := B) ha
  have he := tkE_rng (B := B) hs.2
  rcases q_num (v1 := 0) (v2 := nI N - 1) hn ha hD.1 h3 with ⟨k2, z1, z2, S1, eS, f, c3, _, _, c6⟩ | ⟨z, S1, eS, f, b1, b2⟩
  · have h9 := dv_9999 k2
    have y2 := (dn_le h9 hN).mp z2
    rcases q_oneOf hn hs.2 hN hM hT with ⟨_, _, M1, eM, m1, m2, m3⟩ | ⟨z, _⟩
    · exact Or.inl ⟨S1, M1, _, _, eS, eM, y2, by omega, he.2, hD.fr ht f (fun k j z => by unfold wA at z; unfold wF; omega), c3, c6 k2, m1, m2, m3, f⟩
    · exact absurd ⟨k2, y2⟩ z
  · rcases q_oneOf hn hs.2 hN hM hT with ⟨k2, y2, _⟩ | ⟨_, M1, eM, m1, m2⟩
    · have h9 := dv_9999 k2
      exact absurd ⟨k2, nI_pos (by omega), (dn_le h9 hN).mpr y2⟩ z
    · exact Or.inr ⟨S1, M1, eS, eM, by rw [b1, m1], by rw [b2, m2], hD.fr ht f (fun k j z => z), f⟩
