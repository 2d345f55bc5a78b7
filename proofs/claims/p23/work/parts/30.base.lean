/-! a partial answer that is there -/
def Ok {α : Type} (Q : α → Prop) (X : Option α) : Prop := ∃ r, X = some r ∧ Q r
section Oks
variable {α β : Type} {Q : α → Prop}
theorem sb {a : β} {f : β → Option α} : Option.bind (some a) f = f a := rfl
theorem ok_some {r : α} (h : Q r) : Ok Q (some r) := ⟨r, rfl, h⟩
theorem ok_bind {A : Option β} {K : β → Option α} {P : β → Prop} (h : Ok P A) (g : ∀ q, P q → Ok Q (K q)) : Ok Q (Option.bind A K) := by
  obtain ⟨q, e, hq⟩ := h
  rw [e]
  exact g q hq
theorem ok_at {A : Option β} {K : β → Option α} {r : β} (h : A = some r) (g : Ok Q (K r)) : Ok Q (Option.bind A K) := by
  rw [h]
  exact g
theorem ok_call {A : Option β} {K : β → Option α} {P F : β → Prop} (h : Ok P A) (f : Pm F A) (g : ∀ q, P q → F q → Ok Q (K q)) : Ok Q (Option.bind A K) := by
  obtain ⟨q, e, hq⟩ := h
  rw [e]
  exact g q hq (f q e)
theorem ok_ite {c : Prop} [hd : Decidable c] {A B : Option α} (g1 : c → Ok Q A) (g2 : ¬ c → Ok Q B) : Ok Q (if c then A else B) := by
  by_cases h : c
  · rw [if_pos h]
    exact g1 h
  · rw [if_neg h]
    exact g2 h
theorem ok_mono {P : α → Prop} {X : Option α} (h : Ok P X) (g : ∀ r, P r → Q r) : Ok Q X := by
  obtain ⟨r, e, hr⟩ := h
  exact ⟨r, e, g r hr⟩
theorem ok_and {P : α → Prop} {X : Option α} (h : Ok P X) (f : Pm Q X) : Ok (fun r => P r ∧ Q r) X := by
  obtain ⟨r, e, hr⟩ := h
  exact ⟨r, e, hr, f r e⟩
end Oks
/-! rows by small naturals -/
theorem ag_ok {xs : List Int32} {k n : Nat} (hn : xs.length = n) (hk : k < n) (h9 : n < 2 ^ 31) : ag xs (nI k) = some (xs.getD k 0) := by
  unfold ag
  rw [if_neg (nI_pos (by omega)), nI_clamp (by omega), List.getD_eq_getElem?_getD, List.getElem?_eq_getElem (by omega)]
  rfl
theorem wa_ok {S : HS} {c k n : Nat} {x : Int32} (hn : (ga S c).length = n) (hk : k < n) (h9 : n < 2 ^ 31) : wa S c (nI k) x = some (sa S c ((ga S c).set k x)) := by
  unfold wa
  rw [if_neg, nI_clamp (by omega)]
  rw [nI_clamp (by omega)]
  intro z
  rcases z with z | z
  · exact nI_pos (by omega) z
  · omega
theorem wf_ok {S : HS} {c n : Nat} {x : Int32} (hn : (ga S c).length = n) (h9 : n ≤ 10000) : wf S c x = some (sa S c (List.replicate n x)) := by
  unfold wf
  rw [hn, if_pos h9]
theorem wc_ok {S : HS} {c c0 n : Nat} (hn : (ga S c).length = n) (h0 : (ga S c0).length = n) (h9 : n < 2 ^ 31) : wc S c c0 (nI n) = some (sa S c (ga S c0)) := by
  unfold wc
  rw [if_pos]
  rw [nI_clamp h9]
  exact ⟨nI_pos h9, h0.symm, hn.symm⟩
theorem getD_set_eq {xs : List Int32} {k : Nat} {x : Int32} (h : k < xs.length) : (xs.set k x).getD k 0 = x := by
  rw [List.getD_eq_getElem?_getD, List.getElem?_set_self h]
  rfl
theorem getD_set_ne {xs : List Int32} {k i : Nat} {x : Int32} (h : k ≠ i) : (xs.set k x).getD i 0 = xs.getD i 0 := by
  rw [List.getD_eq_getElem?_getD, List.getElem?_set_ne h, ← List.getD_eq_getElem?_getD]
theorem gset {xs : List Int32} {k i : Nat} {x : Int32} (h : k < xs.length) : (xs.set k x).getD i 0 = if i = k then x else xs.getD i 0 := by
  by_cases e : i = k
  · rw [if_pos e, e, getD_set_eq h]
  · rw [if_neg e, getD_set_ne (fun z => e z.symm)]
theorem grep_ {n i : Nat} {x : Int32} (h : i < n) : (List.replicate n x).getD i 0 = x := by
  rw [List.getD_eq_getElem?_getD, List.getElem?_replicate, if_pos h]
  rfl
theorem rw_ok {a : Nat} (h : a < 10) : rw_ (nI a) = some (32 + 8 * a) := by
  match a, h with
  | 0, _ => rfl
  | 1, _ => rfl
  | 2, _ => rfl
  | 3, _ => rfl
  | 4, _ => rfl
  | 5, _ => rfl
  | 6, _ => rfl
  | 7, _ => rfl
  | 8, _ => rfl
  | 9, _ => rfl
  | a + 10, h => exact absurd h (by omega)
theorem tl_ok {v : Value} {t : Nat} (h : v = .ref t) (ht : isT t) : tl v = some t := by
  rw [h]
  exact if_pos ht
theorem rc_ok {v : Value} {c : Nat} (h : v = .ref c) : rc v c = some c := by
  rw [h]
  exact if_pos rfl
theorem c_le {α : Type} {a b : Nat} {A B : α} (ha : a < 2 ^ 31) (hb : b < 2 ^ 31) : (if nI a ≤ nI b then A else B) = if a ≤ b then A else B := by
  by_cases h : a ≤ b
  · rw [if_pos h, if_pos ((nI_leI ha hb).mpr h)]
  · rw [if_neg h, if_neg (fun z => h ((nI_leI ha hb).mp z))]
theorem c_lt {α : Type} {a b : Nat} {A B : α} (ha : a < 2 ^ 31) (hb : b < 2 ^ 31) : (if nI a < nI b then A else B) = if a < b then A else B := by
  by_cases h : a < b
  · rw [if_pos h, if_pos ((nI_ltI ha hb).mpr h)]
  · rw [if_neg h, if_neg (fun z => h ((nI_ltI ha hb).mp z))]
/-! lengths -/
def lnL : List Nat := [0, 740, 0, 5, 0, 9, 5, 5, 5, 5, 6, 20, 20, 0, 9, 5, 5, 5, 5, 6, 20, 20, 0, 0, 5, 5, 5, 5, 20, 20, 0, 0, 0, 0, 5, 5, 5, 5, 20, 20, 0, 0, 5, 5, 5, 5, 20, 20, 0, 0, 5, 5, 5, 5, 20, 20, 0, 0, 5, 5, 5, 5, 20, 20, 0, 0, 5, 5, 5, 5, 20, 20, 0, 0, 5, 5, 5, 5, 20, 20, 0, 0, 5, 5, 5, 5, 20, 20, 0, 0, 5, 5, 5, 5, 20, 20, 0, 0, 5, 5, 5, 5, 20, 20, 0, 0, 5, 5, 5, 5, 20, 20, 0, 5, 5, 5, 5, 0, 5, 5, 32, 0, 0, 5, 5, 32, 0, 5, 5, 5, 5, 4, 4, 4, 6, 5, 5, 0, 740, 157, 157, 1570, 5, 5, 5, 5, 5, 5, 5, 5, 5, 0]
def ln (k : Nat) : Nat := lnL.getD k 0
def LnD (S : HS) : Prop := ∀ k, k < 137 → (ga S k).length = ln k
def LnM (S : HS) : Prop := ∀ k, 137 ≤ k → k < 152 → (ga S k).length = ln k
theorem nT1 {S : HS} {t : Nat} (hL : LnD S) (h : isT t) : (ga S (t + 1)).length = 9 := ((by decide : ∀ t ∈ [4, 13], t + 1 < 137 ∧ ln (t + 1) = 9) t (by rcases h with rfl | rfl <;> decide)).elim (fun a b => (hL _ a).trans b)
theorem nT2 {S : HS} {t : Nat} (hL : LnD S) (h : isT t) : (ga S (t + 2)).length = 5 := ((by decide : ∀ t ∈ [4, 13], t + 2 < 137 ∧ ln (t + 2) = 5) t (by rcases h with rfl | rfl <;> decide)).elim (fun a b => (hL _ a).trans b)
theorem nT3 {S : HS} {t : Nat} (hL : LnD S) (h : isT t) : (ga S (t + 3)).length = 5 := ((by decide : ∀ t ∈ [4, 13], t + 3 < 137 ∧ ln (t + 3) = 5) t (by rcases h with rfl | rfl <;> decide)).elim (fun a b => (hL _ a).trans b)
theorem nT4 {S : HS} {t : Nat} (hL : LnD S) (h : isT t) : (ga S (t + 4)).length = 5 := ((by decide : ∀ t ∈ [4, 13], t + 4 < 137 ∧ ln (t + 4) = 5) t (by rcases h with rfl | rfl <;> decide)).elim (fun a b => (hL _ a).trans b)
theorem nT5 {S : HS} {t : Nat} (hL : LnD S) (h : isT t) : (ga S (t + 5)).length = 5 := ((by decide : ∀ t ∈ [4, 13], t + 5 < 137 ∧ ln (t + 5) = 5) t (by rcases h with rfl | rfl <;> decide)).elim (fun a b => (hL _ a).trans b)
theorem nT6 {S : HS} {t : Nat} (hL : LnD S) (h : isT t) : (ga S (t + 6)).length = 6 := ((by decide : ∀ t ∈ [4, 13], t + 6 < 137 ∧ ln (t + 6) = 6) t (by rcases h with rfl | rfl <;> decide)).elim (fun a b => (hL _ a).trans b)
theorem nT7 {S : HS} {t : Nat} (hL : LnD S) (h : isT t) : (ga S (t + 7)).length = 20 := ((by decide : ∀ t ∈ [4, 13], t + 7 < 137 ∧ ln (t + 7) = 20) t (by rcases h with rfl | rfl <;> decide)).elim (fun a b => (hL _ a).trans b)
theorem nT8 {S : HS} {t : Nat} (hL : LnD S) (h : isT t) : (ga S (t + 8)).length = 20 := ((by decide : ∀ t ∈ [4, 13], t + 8 < 137 ∧ ln (t + 8) = 20) t (by rcases h with rfl | rfl <;> decide)).elim (fun a b => (hL _ a).trans b)
theorem nC1 {S : HS} {t : Nat} (hL : LnD S) (h : isC t) : (ga S (t + 1)).length = 5 := ((by decide : ∀ t ∈ [23, 33, 41, 49, 57, 65, 73, 81, 89, 97, 105, 112, 126], t + 1 < 137 ∧ ln (t + 1) = 5) t h).elim (fun a b => (hL _ a).trans b)
theorem nC2 {S : HS} {t : Nat} (hL : LnD S) (h : isC t) : (ga S (t + 2)).length = 5 := ((by decide : ∀ t ∈ [23, 33, 41, 49, 57, 65, 73, 81, 89, 97, 105, 112, 126], t + 2 < 137 ∧ ln (t + 2) = 5) t h).elim (fun a b => (hL _ a).trans b)
theorem nC3 {S : HS} {t : Nat} (hL : LnD S) (h : isC t) : (ga S (t + 3)).length = 5 := ((by decide : ∀ t ∈ [23, 33, 41, 49, 57, 65, 73, 81, 89, 97, 105, 112, 126], t + 3 < 137 ∧ ln (t + 3) = 5) t h).elim (fun a b => (hL _ a).trans b)
theorem nC4 {S : HS} {t : Nat} (hL : LnD S) (h : isC t) : (ga S (t + 4)).length = 5 := ((by decide : ∀ t ∈ [23, 33, 41, 49, 57, 65, 73, 81, 89, 97, 105, 112, 126], t + 4 < 137 ∧ ln (t + 4) = 5) t h).elim (fun a b => (hL _ a).trans b)
theorem nO1 {S : HS} {t : Nat} (hL : LnD S) (h : isO t) : (ga S (t + 1)).length = 5 := ((by decide : ∀ t ∈ [117, 122], t + 1 < 137 ∧ ln (t + 1) = 5) t (by rcases h with rfl | rfl <;> decide)).elim (fun a b => (hL _ a).trans b)
theorem nO2 {S : HS} {t : Nat} (hL : LnD S) (h : isO t) : (ga S (t + 2)).length = 5 := ((by decide : ∀ t ∈ [117, 122], t + 2 < 137 ∧ ln (t + 2) = 5) t (by rcases h with rfl | rfl <;> decide)).elim (fun a b => (hL _ a).trans b)
theorem nO3 {S : HS} {t : Nat} (hL : LnD S) (h : isO t) : (ga S (t + 3)).length = 32 := ((by decide : ∀ t ∈ [117, 122], t + 3 < 137 ∧ ln (t + 3) = 32) t (by rcases h with rfl | rfl <;> decide)).elim (fun a b => (hL _ a).trans b)
theorem nS2 {S : HS} {t : Nat} (hL : LnD S) (h : isS t) : (ga S (t + 2)).length = 5 := ((by decide : ∀ t ∈ [22, 32, 40, 48, 56, 64, 72, 80, 88, 96, 104], t + 2 < 137 ∧ ln (t + 2) = 5) t h).elim (fun a b => (hL _ a).trans b)
theorem nS3 {S : HS} {t : Nat} (hL : LnD S) (h : isS t) : (ga S (t + 3)).length = 5 := ((by decide : ∀ t ∈ [22, 32, 40, 48, 56, 64, 72, 80, 88, 96, 104], t + 3 < 137 ∧ ln (t + 3) = 5) t h).elim (fun a b => (hL _ a).trans b)
theorem nS4 {S : HS} {t : Nat} (hL : LnD S) (h : isS t) : (ga S (t + 4)).length = 5 := ((by decide : ∀ t ∈ [22, 32, 40, 48, 56, 64, 72, 80, 88, 96, 104], t + 4 < 137 ∧ ln (t + 4) = 5) t h).elim (fun a b => (hL _ a).trans b)
theorem nS5 {S : HS} {t : Nat} (hL : LnD S) (h : isS t) : (ga S (t + 5)).length = 5 := ((by decide : ∀ t ∈ [22, 32, 40, 48, 56, 64, 72, 80, 88, 96, 104], t + 5 < 137 ∧ ln (t + 5) = 5) t h).elim (fun a b => (hL _ a).trans b)
theorem nS6 {S : HS} {t : Nat} (hL : LnD S) (h : isS t) : (ga S (t + 6)).length = 20 := ((by decide : ∀ t ∈ [22, 32, 40, 48, 56, 64, 72, 80, 88, 96, 104], t + 6 < 137 ∧ ln (t + 6) = 20) t h).elim (fun a b => (hL _ a).trans b)
theorem nS7 {S : HS} {t : Nat} (hL : LnD S) (h : isS t) : (ga S (t + 7)).length = 20 := ((by decide : ∀ t ∈ [22, 32, 40, 48, 56, 64, 72, 80, 88, 96, 104], t + 7 < 137 ∧ ln (t + 7) = 20) t h).elim (fun a b => (hL _ a).trans b)
theorem nD1 {S : HS} (hL : LnD S) : (ga S 1).length = 740 := hL _ (by decide)
theorem nD3 {S : HS} (hL : LnD S) : (ga S 3).length = 5 := hL _ (by decide)
theorem nD24 {S : HS} (hL : LnD S) : (ga S 24).length = 5 := hL _ (by decide)
theorem nD25 {S : HS} (hL : LnD S) : (ga S 25).length = 5 := hL _ (by decide)
theorem nD26 {S : HS} (hL : LnD S) : (ga S 26).length = 5 := hL _ (by decide)
theorem nD27 {S : HS} (hL : LnD S) : (ga S 27).length = 5 := hL _ (by decide)
theorem nD28 {S : HS} (hL : LnD S) : (ga S 28).length = 20 := hL _ (by decide)
theorem nD29 {S : HS} (hL : LnD S) : (ga S 29).length = 20 := hL _ (by decide)
theorem nD113 {S : HS} (hL : LnD S) : (ga S 113).length = 5 := hL _ (by decide)
theorem nD114 {S : HS} (hL : LnD S) : (ga S 114).length = 5 := hL _ (by decide)
theorem nD115 {S : HS} (hL : LnD S) : (ga S 115).length = 5 := hL _ (by decide)
theorem nD116 {S : HS} (hL : LnD S) : (ga S 116).length = 5 := hL _ (by decide)
theorem nD118 {S : HS} (hL : LnD S) : (ga S 118).length = 5 := hL _ (by decide)
theorem nD119 {S : HS} (hL : LnD S) : (ga S 119).length = 5 := hL _ (by decide)
theorem nD120 {S : HS} (hL : LnD S) : (ga S 120).length = 32 := hL _ (by decide)
theorem nD123 {S : HS} (hL : LnD S) : (ga S 123).length = 5 := hL _ (by decide)
theorem nD124 {S : HS} (hL : LnD S) : (ga S 124).length = 5 := hL _ (by decide)
theorem nD125 {S : HS} (hL : LnD S) : (ga S 125).length = 32 := hL _ (by decide)
theorem nD127 {S : HS} (hL : LnD S) : (ga S 127).length = 5 := hL _ (by decide)
theorem nD128 {S : HS} (hL : LnD S) : (ga S 128).length = 5 := hL _ (by decide)
theorem nD129 {S : HS} (hL : LnD S) : (ga S 129).length = 5 := hL _ (by decide)
theorem nD130 {S : HS} (hL : LnD S) : (ga S 130).length = 5 := hL _ (by decide)
theorem nD131 {S : HS} (hL : LnD S) : (ga S 131).length = 4 := hL _ (by decide)
theorem nD132 {S : HS} (hL : LnD S) : (ga S 132).length = 4 := hL _ (by decide)
theorem nD133 {S : HS} (hL : LnD S) : (ga S 133).length = 4 := hL _ (by decide)
theorem nD134 {S : HS} (hL : LnD S) : (ga S 134).length = 6 := hL _ (by decide)
theorem nD135 {S : HS} (hL : LnD S) : (ga S 135).length = 5 := hL _ (by decide)
theorem nD136 {S : HS} (hL : LnD S) : (ga S 136).length = 5 := hL _ (by decide)
theorem nM138 {S : HS} (hL : LnM S) : (ga S 138).length = 740 := hL _ (by decide) (by decide)
theorem nM139 {S : HS} (hL : LnM S) : (ga S 139).length = 157 := hL _ (by decide) (by decide)
theorem nM140 {S : HS} (hL : LnM S) : (ga S 140).length = 157 := hL _ (by decide) (by decide)
theorem nM141 {S : HS} (hL : LnM S) : (ga S 141).length = 1570 := hL _ (by decide) (by decide)
theorem nM142 {S : HS} (hL : LnM S) : (ga S 142).length = 5 := hL _ (by decide) (by decide)
theorem nM143 {S : HS} (hL : LnM S) : (ga S 143).length = 5 := hL _ (by decide) (by decide)
theorem nM144 {S : HS} (hL : LnM S) : (ga S 144).length = 5 := hL _ (by decide) (by decide)
theorem nM145 {S : HS} (hL : LnM S) : (ga S 145).length = 5 := hL _ (by decide) (by decide)
theorem nM146 {S : HS} (hL : LnM S) : (ga S 146).length = 5 := hL _ (by decide) (by decide)
theorem nM147 {S : HS} (hL : LnM S) : (ga S 147).length = 5 := hL _ (by decide) (by decide)
theorem nM148 {S : HS} (hL : LnM S) : (ga S 148).length = 5 := hL _ (by decide) (by decide)
theorem nM149 {S : HS} (hL : LnM S) : (ga S 149).length = 5 := hL _ (by decide) (by decide)
theorem nM150 {S : HS} (hL : LnM S) : (ga S 150).length = 5 := hL _ (by decide) (by decide)
theorem LnD.fr {W : Nat → Nat → Prop} {S S1 : HS} (h : LnD S) (f : Fr W S S1) : LnD S1 := fun k hk => (f.2.2.2 k).trans (h k hk)
theorem LnM.fr {W : Nat → Nat → Prop} {S S1 : HS} (h : LnM S) (f : Fr W S S1) : LnM S1 := fun k a b => (f.2.2.2 k).trans (h k a b)
/-! a counted loop -/
def up {α : Type} (f : Nat → α → α) : Nat → Nat → α → α
  | 0, _, a => a
  | m + 1, j, a => up f m (j + 1) (f j a)
/-! queries of the desk -/
def bt (x : Int32) (j : Nat) : Bool := decide (((x >>> ((nI j) &&& (31 : Int32))) &&& (1 : Int32)) ≠ 0)
theorem q_isIn {x : Int32} {j : Nat} : s_X0_isIn x (nI j) = some (if bt x j then 1 else 0) := by
  unfold s_X0_isIn bt
  by_cases h : ((x >>> ((nI j) &&& (31 : Int32))) &&& (1 : Int32)) = 0
  · rw [if_pos h, if_neg]
    simp [h]
  · rw [if_neg h, if_pos]
    simp [h]
theorem q_loaded {b : Nat} {v : Int32} {S : HS} (h1 : (ga S (b + 1)).length = 5) (h2 : (ga S (b + 2)).length = 5) : s_X0_loaded b v S = some (up (fun j a => if (ga S (b + 2)).getD j 0 = v then a + (ga S (b + 1)).getD j 0 else a) 5 0 0) := by
  have L : ∀ (m j : Nat) (a : Int32) (K : Nat), j + m = 5 → m < K → s_X0_loaded_L4 b v S K a (nI j) = some (up (fun j a => if (ga S (b + 2)).getD j 0 = v then a + (ga S (b + 1)).getD j 0 else a) m j a) := by
    intro m
    induction m with
    | zero =>
      intro j a K h3 h4
      obtain ⟨K, rfl⟩ : ∃ k, K = k + 1 := ⟨K - 1, by omega⟩
      rw [s_X0_loaded_L4, if_pos (show (5 : Int32) ≤ nI j from nI_le (a := 5) (by omega) (by omega))]
      rfl
    | succ m ih =>
      intro j a K h3 h4
      obtain ⟨K, rfl⟩ : ∃ k, K = k + 1 := ⟨K - 1, by omega⟩
      rw [s_X0_loaded_L4, if_neg (show ¬ (5 : Int32) ≤ nI j from nI_ge (b := 5) (by omega) (by omega)), ag_ok h2 (by omega) (by omega), sb, ag_ok h1 (by omega) (by omega), sb, ← nI_succ, up]
      by_cases e : (ga S (b + 2)).getD j 0 = v
      · rw [if_neg (fun z => z e), ih _ _ _ (by omega) (by omega), if_pos e]
      · rw [if_pos e, ih _ _ _ (by omega) (by omega), if_neg e]
  exact L 5 0 0 40 rfl (by omega)
