/-! frames: what a function leaves as it was -/
abbrev Pm {α : Type} (Q : α → Prop) (X : Option α) : Prop := ∀ r, X = some r → Q r
theorem pm_none {α : Type} {Q : α → Prop} : Pm Q none := fun _ h => by cases h
theorem pm_some {α : Type} {Q : α → Prop} {r : α} (h : Q r) : Pm Q (some r) := fun _ z => by
  cases z
  exact h
theorem pm_bind {α β : Type} {Q : α → Prop} {A : Option β} {K : β → Option α} (g : ∀ q, A = some q → Pm Q (K q)) : Pm Q (Option.bind A K) := by
  intro r hr
  obtain ⟨q, hq, hk⟩ := Option.bind_eq_some_iff.mp hr
  exact g q hq r hk
theorem pm_ite {α : Type} {Q : α → Prop} {c : Prop} [hd : Decidable c] {A B : Option α} (g1 : c → Pm Q A) (g2 : ¬ c → Pm Q B) : Pm Q (if c then A else B) := by
  by_cases h : c
  · rw [if_pos h]
    exact g1 h
  · rw [if_neg h]
    exact g2 h
def Fr (W : Nat → Nat → Prop) (S S' : HS) : Prop := (∀ k j, ¬ W k j → gf S' k j = gf S k j ∧ gr S' k j = gr S k j) ∧ (∀ k, ¬ W k 98 → gl S' k = gl S k) ∧ (∀ k, ¬ W k 99 → ga S' k = ga S k) ∧ ∀ k, (ga S' k).length = (ga S k).length
theorem fr_rf {W : Nat → Nat → Prop} {S : HS} : Fr W S S := ⟨fun _ _ _ => ⟨rfl, rfl⟩, fun _ _ => rfl, fun _ _ => rfl, fun _ => rfl⟩
theorem fr_tr {W W2 : Nat → Nat → Prop} {S S1 S2 : HS} (f : Fr W S S1) (g : Fr W2 S1 S2) (h : ∀ k j, W2 k j → W k j) : Fr W S S2 := by
  refine ⟨fun k j z => ?_, fun k z => ?_, fun k z => ?_, fun k => (g.2.2.2 k).trans (f.2.2.2 k)⟩
  · have a := g.1 k j (fun y => z (h k j y))
    have b := f.1 k j z
    exact ⟨a.1.trans b.1, a.2.trans b.2⟩
  · exact (g.2.1 k (fun y => z (h k 98 y))).trans (f.2.1 k z)
  · exact (g.2.2.1 k (fun y => z (h k 99 y))).trans (f.2.2.1 k z)
theorem fr_sf {W : Nat → Nat → Prop} {S0 S : HS} {k j : Nat} {x : Int32} (f : Fr W S0 S) (w : W k j) : Fr W S0 (sf S k j x) := by
  refine ⟨fun a b z => ⟨?_, (f.1 a b z).2⟩, f.2.1, f.2.2.1, f.2.2.2⟩
  rw [gf_sf, if_neg]
  · exact (f.1 a b z).1
  · rintro ⟨rfl, rfl⟩
    exact z w
theorem fr_sr {W : Nat → Nat → Prop} {S0 S : HS} {k j : Nat} {x : Value} (f : Fr W S0 S) (w : W k j) : Fr W S0 (sr S k j x) := by
  refine ⟨fun a b z => ⟨(f.1 a b z).1, ?_⟩, f.2.1, f.2.2.1, f.2.2.2⟩
  rw [gr_sr, if_neg]
  · exact (f.1 a b z).2
  · rintro ⟨rfl, rfl⟩
    exact z w
theorem fr_sg {W : Nat → Nat → Prop} {S0 S : HS} {k : Nat} {x : Int64} (f : Fr W S0 S) (w : W k 98) : Fr W S0 (sg S k x) := by
  refine ⟨f.1, fun a z => ?_, f.2.2.1, f.2.2.2⟩
  rw [gl_sg, if_neg]
  · exact f.2.1 a z
  · rintro rfl
    exact z w
theorem fr_sa {W : Nat → Nat → Prop} {S0 S : HS} {k : Nat} {x : List Int32} (f : Fr W S0 S) (w : W k 99) (hx : x.length = (ga S k).length) : Fr W S0 (sa S k x) := by
  refine ⟨f.1, f.2.1, fun a z => ?_, fun a => ?_⟩
  · rw [ga_sa, if_neg]
    · exact f.2.2.1 a z
    · rintro rfl
      exact z w
  · rw [ga_sa]
    by_cases e : a = k
    · rw [if_pos e, hx, e]
      exact f.2.2.2 k
    · rw [if_neg e]
      exact f.2.2.2 a
theorem fr_pf {W : Nat → Nat → Prop} {S0 S S1 : HS} {k j : Nat} {x : Int32} (f : Fr W S0 S) (w : W k j) (h : pf S k j x = some S1) : Fr W S0 S1 := by
  cases h
  exact fr_sf f w
theorem fr_pz {W : Nat → Nat → Prop} {S0 S S1 : HS} {k j : Nat} {x : Int32} (f : Fr W S0 S) (w : W k j) (h : pz S k j x = some S1) : Fr W S0 S1 := by
  unfold pz at h
  split at h
  · cases h
    exact fr_sf f w
  · cases h
theorem fr_pl {W : Nat → Nat → Prop} {S0 S S1 : HS} {k : Nat} {x : Int64} (f : Fr W S0 S) (w : W k 98) (h : pl S k x = some S1) : Fr W S0 S1 := by
  cases h
  exact fr_sg f w
theorem fr_pr {W : Nat → Nat → Prop} {S0 S S1 : HS} {k j : Nat} {x : Value} (f : Fr W S0 S) (w : W k j) (h : pr S k j x = some S1) : Fr W S0 S1 := by
  cases h
  exact fr_sr f w
theorem fr_wa {W : Nat → Nat → Prop} {S0 S S1 : HS} {k : Nat} {i x : Int32} (f : Fr W S0 S) (w : W k 99) (h : wa S k i x = some S1) : Fr W S0 S1 := by
  unfold wa at h
  split at h
  · cases h
  · cases h
    exact fr_sa f w (List.length_set)
theorem fr_wf {W : Nat → Nat → Prop} {S0 S S1 : HS} {k : Nat} {x : Int32} (f : Fr W S0 S) (w : W k 99) (h : wf S k x = some S1) : Fr W S0 S1 := by
  unfold wf at h
  split at h
  · cases h
    exact fr_sa f w (List.length_replicate)
  · cases h
theorem fr_wc {W : Nat → Nat → Prop} {S0 S S1 : HS} {k k0 : Nat} {n : Int32} (f : Fr W S0 S) (w : W k 99) (h : wc S k k0 n = some S1) : Fr W S0 S1 := by
  unfold wc at h
  split at h
  · next q =>
    cases h
    exact fr_sa f w (q.2.1.symm.trans q.2.2)
  · cases h
theorem tl_is {v : Value} {t : Nat} (h : tl v = some t) : t = 4 ∨ t = 13 := by
  unfold tl at h
  split at h
  · split at h
    · next q =>
      cases h
      exact q
    · cases h
  · cases h
theorem rw_is {i : Int32} {s : Nat} (h : rw_ i = some s) : 32 ≤ s ∧ s ≤ 104 := by
  unfold rw_ at h
  split at h
  · cases h
  · split at h
    · next k hk =>
      cases h
      have hm := List.mem_of_getElem? hk
      unfold rowL at hm
      simp only [List.mem_cons, Option.some.injEq, List.not_mem_nil, or_false] at hm
      omega
    · cases h
def wD (k j : Nat) : Prop := True
def wTp (k j : Nat) : Prop := k = 1 ∨ (k = 0 ∧ j = 1)
def wTt (t : Nat) (k j : Nat) : Prop := t ≤ k ∧ k ≤ t + 8
def w2 (k j : Nat) : Prop := k = 2
def wR (k j : Nat) : Prop := 2 ≤ k ∧ k ≤ 21
def wC (b : Nat) (k j : Nat) : Prop := b ≤ k ∧ k ≤ b + 4
def wS (s : Nat) (k j : Nat) : Prop := s ≤ k ∧ k ≤ s + 7
def wH (k j : Nat) : Prop := 30 ≤ k ∧ k ≤ 111
def wB (k j : Nat) : Prop := 22 ≤ k ∧ k ≤ 30
def wO (o : Nat) (k j : Nat) : Prop := o ≤ k ∧ k ≤ o + 3
def wP (k j : Nat) : Prop := 121 ≤ k ∧ k ≤ 136
def wL (k j : Nat) : Prop := k = 138 ∨ (k = 137 ∧ j = 2)
def wg (k j : Nat) : Prop := k = 137 ∧ (4 ≤ j ∧ j ≤ 7 ∨ j = 98)
def wG (k j : Nat) : Prop := k = 140 ∨ (k = 137 ∧ (4 ≤ j ∧ j ≤ 9 ∨ j = 15 ∨ j = 98))
def wN (k j : Nat) : Prop := 142 ≤ k ∧ k ≤ 144
def wQ (k j : Nat) : Prop := k = 145 ∨ k = 146 ∨ (k = 137 ∧ j = 21)
def wU (k j : Nat) : Prop := k = 148
def wM (k j : Nat) : Prop := 142 ≤ k ∧ k ≤ 150 ∨ (k = 137 ∧ (j = 21 ∨ j = 26 ∨ j = 27))
def wZ (k j : Nat) : Prop := k = 141 ∨ (k = 137 ∧ j = 14)
def w9 (k j : Nat) : Prop := k = 139
