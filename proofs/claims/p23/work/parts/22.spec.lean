/-! the typed picture of the heap: fields, longs, references, rows, by cell -/
abbrev HS : Type := (Nat → Nat → Int32) × ((Nat → Int64) × ((Nat → Nat → Value) × (Nat → List Int32)))
def gf (S : HS) (k j : Nat) : Int32 := S.1 k j
def gl (S : HS) (k : Nat) : Int64 := S.2.1 k
def gr (S : HS) (k j : Nat) : Value := S.2.2.1 k j
def ga (S : HS) (k : Nat) : List Int32 := S.2.2.2 k
def sf (S : HS) (k j : Nat) (x : Int32) : HS := (fun a b => if a = k ∧ b = j then x else S.1 a b, S.2)
def sg (S : HS) (k : Nat) (x : Int64) : HS := (S.1, (fun a => if a = k then x else S.2.1 a, S.2.2))
def sr (S : HS) (k j : Nat) (x : Value) : HS := (S.1, (S.2.1, (fun a b => if a = k ∧ b = j then x else S.2.2.1 a b, S.2.2.2)))
def sa (S : HS) (k : Nat) (x : List Int32) : HS := (S.1, (S.2.1, (S.2.2.1, fun a => if a = k then x else S.2.2.2 a)))
def fv (S : HS) (k c j : Nat) : Value := match c with
  | 0 => .int (gf S k j)
  | 1 => .long (gl S k)
  | 2 => gr S k j
  | n + 3 => .ref (k + n)
def fl (S : HS) (k : Nat) : List Nat → Nat → List Value
  | [], _ => []
  | c :: r, j => fv S k c j :: fl S k r (j + 1)
def kdL : List (List Nat) := [[4, 5, 6, 7], [4, 0, 0], [0, 4, 5, 6], [4, 8, 2, 2, 0, 0, 13, 14, 15, 16, 0, 0, 0, 0, 0, 0, 17, 18], [4, 2, 0, 0, 0, 0, 0, 2, 0, 0, 0], [4, 0, 9, 10, 0], [4, 0, 5, 6, 7, 8, 0, 9, 1, 0, 10, 11], [4, 0, 0, 5, 2, 2, 25, 33, 115, 120, 124], [0, 4, 0, 0, 0, 0, 0, 0, 0, 0, 1, 5, 6, 7, 0, 0, 8, 9, 10, 11, 12, 0, 13, 14, 15, 16, 0, 0]]
def kd (ci : Nat) : List Nat := kdL.getD ci []
def fo (ci : Nat) (S : HS) (k : Nat) : List Value := fl S k (kd ci) 0
def layL : List Nat := [11, 1, 8, 0, 10, 0, 0, 0, 0, 0, 0, 0, 0, 10, 0, 0, 0, 0, 0, 0, 0, 0, 9, 4, 0, 0, 0, 0, 0, 0, 5, 3, 9, 4, 0, 0, 0, 0, 0, 0, 9, 4, 0, 0, 0, 0, 0, 0, 9, 4, 0, 0, 0, 0, 0, 0, 9, 4, 0, 0, 0, 0, 0, 0, 9, 4, 0, 0, 0, 0, 0, 0, 9, 4, 0, 0, 0, 0, 0, 0, 9, 4, 0, 0, 0, 0, 0, 0, 9, 4, 0, 0, 0, 0, 0, 0, 9, 4, 0, 0, 0, 0, 0, 0, 9, 4, 0, 0, 0, 0, 0, 0, 4, 0, 0, 0, 0, 6, 0, 0, 0, 7, 6, 0, 0, 0, 4, 0, 0, 0, 0, 0, 0, 0, 0, 0, 0, 12, 0, 0, 0, 0, 0, 0, 0, 0, 0, 0, 0, 0, 0, 2]
def lay (k : Nat) : Nat := layL.getD k 99
def rowL : List (Option Nat) := [some 32, some 40, some 48, some 56, some 64, some 72, some 80, some 88, some 96, some 104]
def cellW (L : Nat) (S : HS) (k : Nat) : AC := match L with
  | 0 => .inr (0, .inl (ga S k))
  | 1 => .inr (1, .inl (ga S k))
  | 2 => .inr (2, .inr (.inl [gl S k]))
  | 3 => .inr (3, .inr (.inr rowL))
  | n + 4 => .inl (n, fo n S k)
def cellOf (S : HS) (k : Nat) : AC := cellW (lay k) S k
def en (b : Bool) (O S : HS) : List AC := (List.range 152).map (fun k => cellOf (if decide (137 ≤ k) = b then S else O) k)
def sd (k : Nat) (b : Bool) : Prop := decide (137 ≤ k) = b ∧ k < 152
theorem en_get {b : Bool} {O S : HS} {k L : Nat} (hs : sd k b) (hL : lay k = L) : (en b O S)[k]? = some (cellW L S k) := by
  unfold en
  rw [List.getElem?_map, List.getElem?_range hs.2]
  simp only [Option.map_some, hs.1, if_true, cellOf, hL]
theorem en_set {b : Bool} {O S S' : HS} {k L : Nat} {c : AC} (hs : sd k b) (hL : lay k = L) (hc : cellW L S' k = c) (ho : ∀ a, a ≠ k → cellOf S' a = cellOf S a) : (en b O S).set k c = en b O S' := by
  apply List.ext_getElem?
  intro i
  unfold en
  rw [List.getElem?_set, List.getElem?_map, List.getElem?_map, List.length_map, List.length_range]
  by_cases hi : k = i
  · subst hi
    rw [if_pos rfl, if_pos hs.2, List.getElem?_range hs.2]
    simp only [Option.map_some, hs.1, if_true, cellOf, hL, hc]
  · rw [if_neg hi]
    by_cases hl : i < 152
    · rw [List.getElem?_range hl]
      simp only [Option.map_some]
      by_cases hb : decide (137 ≤ i) = b
      · rw [if_pos hb, if_pos hb, ho i (fun z => hi z.symm)]
      · rw [if_neg hb, if_neg hb]
    · rw [List.getElem?_eq_none (by rw [List.length_range]; omega)]
      rfl
theorem fl_get {S : HS} {k : Nat} : ∀ (cs : List Nat) (j0 j : Nat), (fl S k cs j0)[j]? = (cs[j]?).map (fun c => fv S k c (j0 + j)) := by
  intro cs
  induction cs with
  | nil => intro j0 j; simp [fl]
  | cons c r ih =>
    intro j0 j
    cases j with
    | zero => rfl
    | succ j =>
      show (fl S k r (j0 + 1))[j]? = _
      rw [ih, List.getElem?_cons_succ, show j0 + 1 + j = j0 + (j + 1) by omega]
theorem fo_get {S : HS} {ci k j c : Nat} (h : (kd ci)[j]? = some c) : (fo ci S k)[j]? = some (fv S k c j) := by
  unfold fo
  rw [fl_get, h, Option.map_some, Nat.zero_add]
theorem fo_len {S : HS} {ci k j c : Nat} (h : (kd ci)[j]? = some c) : j < (fo ci S k).length := lt_at (fo_get h)
theorem fo_set {S S' : HS} {ci k j : Nat} {v : Value} (h : ∃ c, (kd ci)[j]? = some c ∧ fv S' k c j = v) (ho : ∀ j' c, j' ≠ j → (kd ci)[j']? = some c → fv S' k c j' = fv S k c j') : (fo ci S k).set j v = fo ci S' k := by
  obtain ⟨c, hc, hv⟩ := h
  apply List.ext_getElem?
  intro i
  rw [List.getElem?_set]
  by_cases hi : j = i
  · subst hi
    rw [if_pos rfl, if_pos (fo_len hc), fo_get hc, hv]
  · rw [if_neg hi]
    unfold fo
    rw [fl_get, fl_get]
    cases hq : (kd ci)[i]? with
    | none => rfl
    | some c' =>
      simp only [Option.map_some, Nat.zero_add]
      rw [ho i c' (fun z => hi z.symm) hq]
theorem cell_ne {S S' : HS} {a : Nat} (h1 : ∀ j, gf S' a j = gf S a j) (h2 : gl S' a = gl S a) (h3 : ∀ j, gr S' a j = gr S a j) (h4 : ga S' a = ga S a) : cellOf S' a = cellOf S a := by
  have e : ∀ (cs : List Nat) (j : Nat), fl S' a cs j = fl S a cs j := by
    intro cs
    induction cs with
    | nil => intro j; rfl
    | cons c r ih =>
      intro j
      show fv S' a c j :: fl S' a r (j + 1) = fv S a c j :: fl S a r (j + 1)
      rw [ih]
      congr 1
      unfold fv
      split
      · rw [h1]
      · rw [h2]
      · rw [h3]
      · rfl
  unfold cellOf cellW
  split
  · rw [h4]
  · rw [h4]
  · rw [h2]
  · rfl
  · unfold fo
    rw [e]
theorem gf_sf {S : HS} {k j a b : Nat} {x : Int32} : gf (sf S k j x) a b = if a = k ∧ b = j then x else gf S a b := rfl
theorem ga_sf {S : HS} {k j a : Nat} {x : Int32} : ga (sf S k j x) a = ga S a := rfl
theorem gl_sf {S : HS} {k j a : Nat} {x : Int32} : gl (sf S k j x) a = gl S a := rfl
theorem gr_sf {S : HS} {k j a b : Nat} {x : Int32} : gr (sf S k j x) a b = gr S a b := rfl
theorem gf_sa {S : HS} {k a b : Nat} {x : List Int32} : gf (sa S k x) a b = gf S a b := rfl
theorem ga_sa {S : HS} {k a : Nat} {x : List Int32} : ga (sa S k x) a = if a = k then x else ga S a := rfl
theorem gl_sa {S : HS} {k a : Nat} {x : List Int32} : gl (sa S k x) a = gl S a := rfl
theorem gr_sa {S : HS} {k a b : Nat} {x : List Int32} : gr (sa S k x) a b = gr S a b := rfl
theorem gf_sg {S : HS} {k a b : Nat} {x : Int64} : gf (sg S k x) a b = gf S a b := rfl
theorem ga_sg {S : HS} {k a : Nat} {x : Int64} : ga (sg S k x) a = ga S a := rfl
theorem gl_sg {S : HS} {k a : Nat} {x : Int64} : gl (sg S k x) a = if a = k then x else gl S a := rfl
theorem gr_sg {S : HS} {k a b : Nat} {x : Int64} : gr (sg S k x) a b = gr S a b := rfl
theorem gf_sr {S : HS} {k j a b : Nat} {x : Value} : gf (sr S k j x) a b = gf S a b := rfl
theorem ga_sr {S : HS} {k j a : Nat} {x : Value} : ga (sr S k j x) a = ga S a := rfl
theorem gl_sr {S : HS} {k j a : Nat} {x : Value} : gl (sr S k j x) a = gl S a := rfl
theorem gr_sr {S : HS} {k j a b : Nat} {x : Value} : gr (sr S k j x) a b = if a = k ∧ b = j then x else gr S a b := rfl
theorem inl_c {ci : Nat} {a b : List Value} (h : a = b) : (.inl (ci, a) : AC) = .inl (ci, b) := by rw [h]
theorem en_sf {b : Bool} {O S : HS} {k ci j : Nat} {x : Int32} (hs : sd k b) (hL : lay k = ci + 4) (hk : (kd ci)[j]? = some 0) : (en b O S).set k (.inl (ci, (fo ci S k).set j (.int x))) = en b O (sf S k j x) := by
  refine en_set hs hL ?_ (fun a ha => cell_ne (fun j' => ?_) rfl (fun _ => rfl) rfl)
  · refine inl_c (fo_set ⟨0, hk, ?_⟩ (fun j' c hj hc => ?_)).symm
    · show Value.int (gf (sf S k j x) k j) = _
      rw [gf_sf, if_pos ⟨rfl, rfl⟩]
    · unfold fv
      split
      · rw [gf_sf, if_neg (fun z => hj z.2)]
      · rfl
      · rfl
      · rfl
  · rw [gf_sf, if_neg (fun z => ha z.1)]
theorem en_sr {b : Bool} {O S : HS} {k ci j : Nat} {x : Value} (hs : sd k b) (hL : lay k = ci + 4) (hk : (kd ci)[j]? = some 2) : (en b O S).set k (.inl (ci, (fo ci S k).set j x)) = en b O (sr S k j x) := by
  refine en_set hs hL ?_ (fun a ha => cell_ne (fun _ => rfl) rfl (fun j' => ?_) rfl)
  · refine inl_c (fo_set ⟨2, hk, ?_⟩ (fun j' c hj hc => ?_)).symm
    · show gr (sr S k j x) k j = _
      rw [gr_sr, if_pos ⟨rfl, rfl⟩]
    · unfold fv
      split
      · rfl
      · rfl
      · rw [gr_sr, if_neg (fun z => hj z.2)]
      · rfl
  · rw [gr_sr, if_neg (fun z => ha z.1)]
theorem en_sg {b : Bool} {O S : HS} {k ci j : Nat} {x : Int64} (hs : sd k b) (hL : lay k = ci + 4) (hk : (kd ci)[j]? = some 1) (ho : ∀ j', j' ≠ j → (kd ci)[j']? ≠ some 1) : (en b O S).set k (.inl (ci, (fo ci S k).set j (.long x))) = en b O (sg S k x) := by
  refine en_set hs hL ?_ (fun a ha => cell_ne (fun _ => rfl) ?_ (fun _ => rfl) rfl)
  · refine inl_c (fo_set ⟨1, hk, ?_⟩ (fun j' c hj hc => ?_)).symm
    · show Value.long (gl (sg S k x) k) = _
      rw [gl_sg, if_pos rfl]
    · unfold fv
      split
      · rfl
      · exact absurd hc (ho j' hj)
      · rfl
      · rfl
  · rw [gl_sg, if_neg ha]
theorem en_sa {b : Bool} {O S : HS} {k t : Nat} {x : List Int32} (hs : sd k b) (ht : t = 0 ∨ t = 1) (hL : lay k = t) : (en b O S).set k (.inr (t, .inl x)) = en b O (sa S k x) := by
  refine en_set hs hL ?_ (fun a ha => cell_ne (fun _ => rfl) rfl (fun _ => rfl) ?_)
  · rcases ht with rfl | rfl
    · show (.inr (0, .inl (ga (sa S k x) k)) : AC) = _
      rw [ga_sa, if_pos rfl]
    · show (.inr (1, .inl (ga (sa S k x) k)) : AC) = _
      rw [ga_sa, if_pos rfl]
  · rw [ga_sa, if_neg ha]
/-! the steps of the picture -/
def ag (xs : List Int32) (i : Int32) : Option Int32 := if i < 0 then none else xs[i.toNatClampNeg]?
def pf (S : HS) (k j : Nat) (x : Int32) : Option HS := some (sf S k j x)
def pz (S : HS) (k j : Nat) (x : Int32) : Option HS := if x = 0 ∨ x = 1 then some (sf S k j x) else none
def pl (S : HS) (k : Nat) (x : Int64) : Option HS := some (sg S k x)
def pr (S : HS) (k j : Nat) (x : Value) : Option HS := some (sr S k j x)
def wa (S : HS) (k : Nat) (i x : Int32) : Option HS := if i < 0 ∨ (ga S k).length ≤ i.toNatClampNeg then none else some (sa S k ((ga S k).set i.toNatClampNeg x))
def wf (S : HS) (k : Nat) (x : Int32) : Option HS := if (ga S k).length ≤ 10000 then some (sa S k (List.replicate (ga S k).length x)) else none
def wc (S : HS) (k k0 : Nat) (n : Int32) : Option HS := if ¬ n < 0 ∧ n.toNatClampNeg = (ga S k0).length ∧ n.toNatClampNeg = (ga S k).length then some (sa S k (ga S k0)) else none
def tl (v : Value) : Option Nat := match v with
  | .ref n => if n = 4 ∨ n = 13 then some n else none
  | _ => none
def rc (v : Value) (c : Nat) : Option Nat := match v with
  | .ref n => if n = c then some n else none
  | _ => none
def rw_ (i : Int32) : Option Nat := if i < 0 then none else match rowL[i.toNatClampNeg]? with
  | some (some k) => some k
  | _ => none
def tb (j : Nat) (i : Int32) : Option Int32 := if i < 0 then none else (tabL.getD j [])[i.toNatClampNeg]?
def mn (x y : Int32) : Int32 := if y < x then y else x
def gz (x : Int32) : Option Int32 := if x = 0 ∨ x = 1 then some x else none
def isT (t : Nat) : Prop := t = 4 ∨ t = 13
def isC (b : Nat) : Prop := b ∈ [23, 33, 41, 49, 57, 65, 73, 81, 89, 97, 105, 112, 126]
def isS (s : Nat) : Prop := s ∈ [22, 32, 40, 48, 56, 64, 72, 80, 88, 96, 104]
def isO (o : Nat) : Prop := o = 117 ∨ o = 122
