/-! one place of a row set -/
def st (S : HS) (k i : Nat) (x : Int32) : HS := sa S k ((ga S k).set i x)
theorem gf_st {S : HS} {k i a j : Nat} {x : Int32} : gf (st S k i x) a j = gf S a j := rfl
theorem gl_st {S : HS} {k i a : Nat} {x : Int32} : gl (st S k i x) a = gl S a := rfl
theorem gr_st {S : HS} {k i a j : Nat} {x : Int32} : gr (st S k i x) a j = gr S a j := rfl
theorem ga_st {S : HS} {k i a : Nat} {x : Int32} : ga (st S k i x) a = if a = k then (ga S k).set i x else ga S a := rfl
theorem ga_st_ne {S : HS} {k i a : Nat} {x : Int32} (h : a ≠ k) : ga (st S k i x) a = ga S a := if_neg h
theorem ga_st_eq {S : HS} {k i : Nat} {x : Int32} : ga (st S k i x) k = (ga S k).set i x := if_pos rfl
theorem len_st {S : HS} {k i a : Nat} {x : Int32} : (ga (st S k i x) a).length = (ga S a).length := by
  rw [ga_st]
  by_cases h : a = k
  · rw [if_pos h, List.length_set, h]
  · rw [if_neg h]
theorem wa_st {S : HS} {c k n : Nat} {x : Int32} (hn : (ga S c).length = n) (hk : k < n) (h9 : n < 2 ^ 31) : wa S c (nI k) x = some (st S c k x) := wa_ok hn hk h9
theorem LnD.st {S : HS} {k i : Nat} {x : Int32} (h : LnD S) : LnD (st S k i x) := fun a b => len_st.trans (h a b)
theorem LnM.st {S : HS} {k i : Nat} {x : Int32} (h : LnM S) : LnM (st S k i x) := fun a b c => len_st.trans (h a b c)
theorem LnD.sf {S : HS} {k j : Nat} {x : Int32} (h : LnD S) : LnD (sf S k j x) := h
theorem LnM.sf {S : HS} {k j : Nat} {x : Int32} (h : LnM S) : LnM (sf S k j x) := h
theorem LnD.sg {S : HS} {k : Nat} {x : Int64} (h : LnD S) : LnD (sg S k x) := h
theorem LnM.sg {S : HS} {k : Nat} {x : Int64} (h : LnM S) : LnM (sg S k x) := h
theorem LnD.sr {S : HS} {k j : Nat} {x : Value} (h : LnD S) : LnD (sr S k j x) := h
theorem LnD.sa {S : HS} {k : Nat} {x : List Int32} (h : LnD S) (hx : x.length = ln k) : LnD (sa S k x) := by
  intro a b
  rw [ga_sa]
  by_cases e : a = k
  · rw [if_pos e, hx, e]
  · rw [if_neg e, h a b]
theorem pf_ok {S : HS} {k j : Nat} {x : Int32} : pf S k j x = some (sf S k j x) := rfl
theorem pr_ok {S : HS} {k j : Nat} {x : Value} : pr S k j x = some (sr S k j x) := rfl
theorem pl_ok {S : HS} {k : Nat} {x : Int64} : pl S k x = some (sg S k x) := rfl
theorem pz0 {S : HS} {k j : Nat} : pz S k j 0 = some (sf S k j 0) := rfl
theorem pz1 {S : HS} {k j : Nat} : pz S k j 1 = some (sf S k j 1) := rfl
theorem gz_ok {x : Int32} (h : x = 0 ∨ x = 1) : gz x = some x := if_pos h
/-! writers of the desk -/
theorem isC_sep {b c : Nat} (hb : isC b) (hc : isC c) : b = c ∨ b + 5 ≤ c ∨ c + 5 ≤ b := (by decide : ∀ b ∈ [23, 33, 41, 49, 57, 65, 73, 81, 89, 97, 105, 112, 126], ∀ c ∈ [23, 33, 41, 49, 57, 65, 73, 81, 89, 97, 105, 112, 126], b = c ∨ b + 5 ≤ c ∨ c + 5 ≤ b) b hb c hc
theorem isC_ge {b : Nat} (hb : isC b) : 23 ≤ b := (by decide : ∀ b ∈ [23, 33, 41, 49, 57, 65, 73, 81, 89, 97, 105, 112, 126], 23 ≤ b) b hb
def cpC (S : HS) (b c : Nat) : HS := sa (sa (sa (sa S (b + 1) (ga S (c + 1))) (b + 4) (ga S (c + 4))) (b + 2) (ga S (c + 2))) (b + 3) (ga S (c + 3))
theorem w_copyC {S : HS} {b c : Nat} (hL : LnD S) (hb : isC b) (hc : isC c) (hn : b ≠ c) : s_X0_copyFrom b c S = some (cpC S b c) := by
  have hsep : b + 5 ≤ c ∨ c + 5 ≤ b := (isC_sep hb hc).resolve_left hn
  unfold s_X0_copyFrom cpC
  have e1 : wc S (b + 1) (c + 1) (5 : Int32) = some (sa S (b + 1) (ga S (c + 1))) := wc_ok (n := 5) (nC1 hL hb) (nC1 hL hc) (by omega)
  rw [e1, sb]
  generalize hS1 : sa S (b + 1) (ga S (c + 1)) = S1
  have g1 : ∀ a, a ≠ b + 1 → ga S1 a = ga S a := by
    intro a ha
    rw [← hS1, ga_sa, if_neg ha]
  have e2 : wc S1 (b + 4) (c + 4) (5 : Int32) = some (sa S1 (b + 4) (ga S (c + 4))) := by
    rw [← g1 (c + 4) (by omega)]
    exact wc_ok (n := 5) (by rw [g1 _ (by omega)]; exact nC4 hL hb) (by rw [g1 _ (by omega)]; exact nC4 hL hc) (by omega)
  rw [e2, sb]
  generalize hS2 : sa S1 (b + 4) (ga S (c + 4)) = S2
  have g2 : ∀ a, a ≠ b + 1 → a ≠ b + 4 → ga S2 a = ga S a := by
    intro a ha hb
    rw [← hS2, ga_sa, if_neg hb, g1 a ha]
  have e3 : wc S2 (b + 2) (c + 2) (5 : Int32) = some (sa S2 (b + 2) (ga S (c + 2))) := by
    rw [← g2 (c + 2) (by omega) (by omega)]
    exact wc_ok (n := 5) (by rw [g2 _ (by omega) (by omega)]; exact nC2 hL hb) (by rw [g2 _ (by omega) (by omega)]; exact nC2 hL hc) (by omega)
  rw [e3, sb]
  generalize hS3 : sa S2 (b + 2) (ga S (c + 2)) = S3
  have g3 : ∀ a, a ≠ b + 1 → a ≠ b + 4 → a ≠ b + 2 → ga S3 a = ga S a := by
    intro a ha hb hc
    rw [← hS3, ga_sa, if_neg hc, g2 a ha hb]
  have e4 : wc S3 (b + 3) (c + 3) (5 : Int32) = some (sa S3 (b + 3) (ga S (c + 3))) := by
    rw [← g3 (c + 3) (by omega) (by omega) (by omega)]
    exact wc_ok (n := 5) (by rw [g3 _ (by omega) (by omega) (by omega)]; exact nC3 hL hb) (by rw [g3 _ (by omega) (by omega) (by omega)]; exact nC3 hL hc) (by omega)
  rw [e4, sb]
def layC (S : HS) (b t c : Nat) (v : Int32) (q : Nat) (x : Int32) : HS := st (st (st (st S (b + 1) c x) (b + 4) c (x * (ga S (t + 6)).getD q 0)) (b + 2) c v) (b + 3) c (nI q)
theorem w_lay {S : HS} {b t c q : Nat} {v x : Int32} (hL : LnD S) (hb : isC b) (ht : isT t) (hc : c < 5) (hq : q < 6) : s_X0_lay b t (nI c) v (nI q) x S = some (layC S b t c v q x) := by
  have hg := isC_ge hb
  unfold s_X0_lay layC
  rw [wa_st (nC1 hL hb) hc (by omega), sb, ga_st_ne (by rcases ht with rfl | rfl <;> omega), ag_ok (nT6 hL ht) hq (by omega), sb, wa_st (nC4 hL.st hb) hc (by omega), sb, wa_st (nC2 hL.st.st hb) hc (by omega), sb, wa_st (nC3 hL.st.st.st hb) hc (by omega), sb]
def toC (S : HS) (b c : Nat) : HS := st (st (st S (b + 1) c 0) (b + 4) c 0) (b + 2) c (-1)
theorem w_takeOut {S : HS} {b c : Nat} (hL : LnD S) (hb : isC b) (hc : c < 5) : s_X0_takeOut b (nI c) S = some (toC S b c) := by
  unfold s_X0_takeOut toC
  rw [wa_st (nC1 hL hb) hc (by omega), sb, wa_st (nC4 hL.st hb) hc (by omega), sb, wa_st (nC2 hL.st.st hb) hc (by omega), sb]
theorem LnD.toC {S : HS} {b c : Nat} (h : LnD S) : LnD (toC S b c) := h.st.st.st
theorem LnD.layC {S : HS} {b t c q : Nat} {v x : Int32} (h : LnD S) : LnD (layC S b t c v q x) := h.st.st.st.st
theorem w_takeAll {S : HS} {b : Nat} {v : Int32} (hL : LnD S) (hb : isC b) : s_X0_takeOutAll b v S = some (up (fun j S => if bt v j then toC S b j else S) 5 0 S) := by
  have L : ∀ (m j : Nat) (S : HS) (K : Nat), LnD S → j + m = 5 → m < K → s_X0_takeOutAll_L2 b v K (nI j) S = some (up (fun j S => if bt v j then toC S b j else S) m j S) := by
    intro m
    induction m with
    | zero =>
      intro j S K hL h3 h4
      obtain ⟨K, rfl⟩ : ∃ k, K = k + 1 := ⟨K - 1, by omega⟩
      rw [s_X0_takeOutAll_L2, if_pos (show (5 : Int32) ≤ nI j from nI_le (a := 5) (by omega) (by omega))]
      rfl
    | succ m ih =>
      intro j S K hL h3 h4
      obtain ⟨K, rfl⟩ : ∃ k, K = k + 1 := ⟨K - 1, by omega⟩
      rw [s_X0_takeOutAll_L2, if_neg (show ¬ (5 : Int32) ≤ nI j from nI_ge (b := 5) (by omega) (by omega)), q_isIn, sb, w_takeOut hL hb (by omega), sb, ← nI_succ, ih _ _ _ hL (by omega) (by omega), ih _ _ _ hL.toC (by omega) (by omega), up]
      by_cases e : bt v j = true
      · rw [if_pos e, if_neg (by decide), if_pos e]
      · rw [if_neg e, if_pos rfl, if_neg e]
  exact L 5 0 S 40 hL rfl (by omega)
theorem LnD.up {f : Nat → HS → HS} (hf : ∀ j S, LnD S → LnD (f j S)) : ∀ (m j : Nat) (S : HS), LnD S → LnD (up f m j S) := by
  intro m
  induction m with
  | zero =>
    intro j S h
    exact h
  | succ m ih =>
    intro j S h
    exact ih _ _ (hf j S h)
def adD (S : HS) (D : Nat) : HS := sf (st (st S 28 D 0) 29 D 0) 22 1 (nI (D + 1))
theorem w_addDrop {S : HS} {D : Nat} (hL : LnD S) (hD : gf S 22 1 = nI D) (h : D ≤ 20) : s_X5_addDrop S = some (if D = 20 then S else adD S D) := by
  unfold s_X5_addDrop adD
  rw [hD, show (20 : Int32) = nI 20 from rfl]
  by_cases e : D = 20
  · rw [if_pos e, if_pos (nI_le (by omega) (by omega))]
  · rw [if_neg e, if_neg (nI_ge (by omega) (by omega)), wa_st (nD28 hL) (by omega) (by omega), sb, gf_st, hD, wa_st (nD29 hL.st) (by omega) (by omega), sb, gf_st, gf_st, hD, pf_ok, sb, nI_succ]
theorem isS_C {s : Nat} (h : isS s) : isC (s + 1) := mSC h
theorem isS_sep {b c : Nat} (hb : isS b) (hc : isS c) : b = c ∨ b + 8 ≤ c ∨ c + 8 ≤ b := (by decide : ∀ b ∈ [22, 32, 40, 48, 56, 64, 72, 80, 88, 96, 104], ∀ c ∈ [22, 32, 40, 48, 56, 64, 72, 80, 88, 96, 104], b = c ∨ b + 8 ≤ c ∨ c + 8 ≤ b) b hb c hc
def cpS (S : HS) (s r : Nat) : HS := sf (sa (sa (sf (cpC S (s + 1) (r + 1)) s 1 (gf S r 1)) (s + 6) (ga S (r + 6))) (s + 7) (ga S (r + 7))) s 4 (gf S r 4)
theorem ga_cpC {S : HS} {b c a : Nat} (h : a < b ∨ b + 4 < a) : ga (cpC S b c) a = ga S a := by
  unfold cpC
  rw [ga_sa, if_neg (by omega), ga_sa, if_neg (by omega), ga_sa, if_neg (by omega), ga_sa, if_neg (by omega)]
theorem w_copyS {S : HS} {s r : Nat} (hL : LnD S) (hs : isS s) (hr : isS r) (hn : s ≠ r) : s_X5_copyFrom s r S = some (cpS S s r) := by
  have hsep : s + 8 ≤ r ∨ r + 8 ≤ s := (isS_sep hs hr).resolve_left hn
  unfold s_X5_copyFrom cpS
  rw [w_copyC hL (isS_C hs) (isS_C hr) (by omega), sb, pf_ok, sb]
  have e0 : gf (cpC S (s + 1) (r + 1)) r 1 = gf S r 1 := rfl
  rw [e0]
  generalize hS1 : sf (cpC S (s + 1) (r + 1)) s 1 (gf S r 1) = S1
  have g1 : ∀ a, (a < s + 1 ∨ s + 5 < a) → ga S1 a = ga S a := by
    intro a ha
    rw [← hS1, ga_sf, ga_cpC (by omega)]
  have e1 : wc S1 (s + 6) (r + 6) (20 : Int32) = some (sa S1 (s + 6) (ga S (r + 6))) := by
    rw [← g1 (r + 6) (by omega)]
    exact wc_ok (n := 20) (by rw [g1 _ (by omega)]; exact nS6 hL hs) (by rw [g1 _ (by omega)]; exact nS6 hL hr) (by omega)
  rw [e1, sb]
  generalize hS2 : sa S1 (s + 6) (ga S (r + 6)) = S2
  have g2 : ∀ a, (a < s + 1 ∨ s + 6 < a) → ga S2 a = ga S a := by
    intro a ha
    rw [← hS2, ga_sa, if_neg (by omega), g1 a (by omega)]
  have e2 : wc S2 (s + 7) (r + 7) (20 : Int32) = some (sa S2 (s + 7) (ga S (r + 7))) := by
    rw [← g2 (r + 7) (by omega)]
    exact wc_ok (n := 20) (by rw [g2 _ (by omega)]; exact nS7 hL hs) (by rw [g2 _ (by omega)]; exact nS7 hL hr) (by omega)
  rw [e2, sb, pf_ok, sb]
  have e3 : gf (sa S2 (s + 7) (ga S (r + 7))) r 4 = gf S r 4 := by
    rw [gf_sa, ← hS2, gf_sa, ← hS1, gf_sf, if_neg (by omega)]
    rfl
  rw [e3]
