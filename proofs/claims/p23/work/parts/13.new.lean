/-! making cells -/
/-- where a new cell lies: behind all the others -/
theorem new_q {l : Launch} {p : Program} {e : Env} {R : Room} {s : State} {m : MethodId} {args : Array Value} {below : List Frame} {meth : Method} {c : Code} {D : va_G} {cA : Nat → ClassId} {B : BB} {h : List AC} {H1 : Heap} {locs : List Loc} {q c0 x0 slots : Nat} {x : va_E} {T : State} (hP : va_P D vC (wo B cA h ++ [(q, x)]) H1) (hD : va_D (fun q => B.1 ≤ q) (wo B cA h ++ [(q, x)])) (hT : T.heap = H1) (X : Stand p l e R s m args below meth c T locs (x0 + (h.length - c0) + 1) slots) (hs : x0 = 0 ∧ s.heap.size = B.1 + c0) (hc : c0 ≤ h.length) : q = B.1 + h.length := by
  have hl : (wo B cA h).length = h.length := by unfold wo; simp
  have hg : (wo B cA h ++ [(q, x)])[h.length]? = some (q, x) := by
    rw [List.getElem?_append_right (by omega), hl]
    simp
  have h1 : q < H1.size := (hP _ _ hg).lt
  have h2 : T.heap.size ≤ s.heap.size + (x0 + (h.length - c0) + 1) := X.same.2.2.1
  obtain ⟨hx0, hs⟩ := hs
  have h3 : B.1 ≤ q := hD.2 _ _ hg
  rw [hT] at h2
  by_cases hq : q < B.1 + h.length
  · have hk : q - B.1 < h.length := by omega
    have hg2 : (wo B cA h ++ [(q, x)])[q - B.1]? = some (B.1 + (q - B.1), dc B cA h[q - B.1]) := by
      rw [List.getElem?_append_left (by omega)]
      exact wo_get (List.getElem?_eq_getElem hk)
    have := hD.1 _ _ _ _ hg2 hg (by show B.1 + (q - B.1) = q; omega)
    omega
  · omega
def eNew (md : Bool) (pc ci : Nat) (fs : List Value) : Ent := (pc, fun _ lv st h => if md = true then some (.inl (pc + 3, lv, .ref h.length :: st, h ++ [.inl (ci, fs)])) else none)
def allNoRef (fs : List Value) : Bool := fs.all (fun v => match v with
  | .ref _ => false
  | .retAddr _ => false
  | .float _ => false
  | _ => true)
theorem noRef {B : BB} {fs : List Value} (h : allNoRef fs = true) : fs.map (dv B) = fs := by
  induction fs with
  | nil => rfl
  | cons v r ih =>
    simp only [allNoRef, List.all_cons, Bool.and_eq_true] at h
    rw [List.map_cons, ih h.2]
    cases v <;> first | rfl | (cases h.1)
theorem ok_new {l : Launch} {own : String} {cc : ByteArray} {nL : Nat} {ret : Option FieldType} {ini : Bool} {D : va_G} {cA : Nat → ClassId} {B : BB} {G : State → Prop} {md : Bool} {d : Nat} {call : Call} {pc ci N idx : Nat} {C : String} {T : u_T} {ty0 : Nat → FieldType} {fs : List Value} (hc : vC[ci]? = some (C, T, N)) (hin : ∀ w ∈ u_ws C T N, w ∈ tT) (hty : ∀ k, k < N → parseFieldDescriptor (T k).2.2.1 = some (ty0 k)) (hw : Cond.classLink own idx C ∈ tT) (hw2 : Cond.instantiable C N ∈ tT) (hw3 : Cond.initialized C ∈ tT) (hfs : ∀ j, j < N → defaultValue (ty0 j) = vp_V fs j) (hnr : allNoRef fs = true) (hlen : fs.length = N) (hd : decode cc pc = .ok (.new idx, 3)) : EOk l own cc nL ret ini D cA B G md d call (eNew md pc ci fs) := by
  intro lv st h out ho
  simp only [eNew] at ho
  split at ho
  · next hmd =>
    cases ho
    have e2 : sl (h ++ [.inl (ci, fs)]) = sl h + N := by rw [sl_push]; simp [sl1, hlen]
    refine ⟨by simp, by omega, ?_⟩
    intro p e R s m args below meth c Q Cx _ _ H locs ls c0 s0 x0 y0 hW hl hm h1 h2 h3 h4 kk
    have e1 : x0 + ((h ++ [.inl (ci, fs)] : List AC).length - c0) = x0 + (h.length - c0) + 1 := by simp; omega
    have e3 : y0 + (sl (h ++ [.inl (ci, fs)]) - s0) = y0 + (sl h - s0) + N := by omega
    rw [e1] at h3
    rw [e3] at h4
    rw [e1, e3] at kk
    refine va_new (D := D) Cx.1 Cx.2.1 Cx.2.2.2.2.1 hin ty0 hty Cx.2.2.2.1 (Cx.2.2.2.2.1 _ hw) (Cx.2.2.2.2.1 _ hw2) (Cx.2.2.2.2.1 _ hw3) Cx.2.2.2.2.2.2.2.2.1 hW.1 (wo_D B cA h) hW.2 (fun q hq => Nat.le_trans Cx.2.2.2.2.2.2.2.2.2.2 hq) hc hfs h3 h4 hd (fun q H1 hP1 hD1 hS1 => ?_)
    intro T hT X
    have hq := new_q hP1 hD1 hT X (hm hmd) h1
    subst hq
    refine kk H1 locs ls ⟨?_, hS1⟩ hl T hT X
    rw [← wo_push]
    simp only [dc]
    rw [noRef hnr]
    exact hP1
  · cases ho
/-- rows of ints, bytes, longs -/
def eNewI (md : Bool) (pc t : Nat) : Ent := (pc, fun _ lv st h => match st with
  | .int n :: r => if md = true ∧ ¬ n < 0 ∧ n.toNatClampNeg ≤ 100000 then some (.inl (pc + 2, lv, .ref h.length :: r, h ++ [.inr (t, .inl (List.replicate n.toNatClampNeg 0))])) else none
  | _ => none)
def eNewJ (md : Bool) (pc : Nat) : Ent := (pc, fun _ lv st h => match st with
  | .int n :: r => if md = true ∧ ¬ n < 0 ∧ n.toNatClampNeg ≤ 100000 then some (.inl (pc + 2, lv, .ref h.length :: r, h ++ [.inr (2, .inr (.inl (List.replicate n.toNatClampNeg 0)))])) else none
  | _ => none)
def eNewA (md : Bool) (pc : Nat) : Ent := (pc, fun _ lv st h => match st with
  | .int n :: r => if md = true ∧ ¬ n < 0 ∧ n.toNatClampNeg ≤ 100000 then some (.inl (pc + 3, lv, .ref h.length :: r, h ++ [.inr (3, .inr (.inr (List.replicate n.toNatClampNeg none)))])) else none
  | _ => none)
theorem getD_rep {α : Type} (n j : Nat) (a : α) : (List.replicate n a).getD j a = a := by
  rw [List.getD_eq_getElem?_getD, List.getElem?_replicate]
  split <;> rfl
theorem cA_one {U : State} {a b : ClassId} {ty : FieldType} (hty : ty = .int ∨ ty = .byte ∨ ty = .long) (h1 : va_RA U a ty) (h2 : va_RA U b ty) : a = b := by
  rcases hty with rfl | rfl | rfl <;> exact Option.some.inj (h1.symm.trans h2)
theorem cA_oneA {U : State} {a b : ClassId} {C : String} (h1 : va_RA U a (.object C)) (h2 : va_RA U b (.object C)) : a = b := by
  obtain ⟨_, _, _, _, _, h1⟩ := h1
  obtain ⟨_, _, _, _, _, h2⟩ := h2
  exact Option.some.inj (h1.symm.trans h2)
theorem ok_newi {l : Launch} {own : String} {cc : ByteArray} {nL : Nat} {ret : Option FieldType} {ini : Bool} {D : va_G} {cA : Nat → ClassId} {B : BB} {G : State → Prop} {md : Bool} {d : Nat} {call : Call} {pc : Nat} (hw : Cond.arrayClass .int ∈ tT) (hd : decode cc pc = .ok (.newarray .int, 2)) : EOk l own cc nL ret ini D cA B G md d call (eNewI md pc 0) := by
  intro lv st h out ho
  simp only [eNewI] at ho
  split at ho
  · next n r =>
    split at ho
    · next hg =>
      obtain ⟨hmd, hn, hb⟩ := hg
      cases ho
      have e2 : sl (h ++ [.inr (0, .inl (List.replicate n.toNatClampNeg 0))]) = sl h + n.toNatClampNeg := by rw [sl_push]; simp [sl1]
      refine ⟨by simp, by omega, ?_⟩
      intro p e R s m args below meth c Q Cx _ _ H locs ls c0 s0 x0 y0 hW hl hm h1 h2 h3 h4 kk
      have e1 : x0 + ((h ++ [.inr (0, .inl (List.replicate n.toNatClampNeg 0))] : List AC).length - c0) = x0 + (h.length - c0) + 1 := by simp; omega
      have e3 : y0 + (sl (h ++ [.inr (0, .inl (List.replicate n.toNatClampNeg 0))]) - s0) = y0 + (sl h - s0) + n.toNatClampNeg := by omega
      rw [e1] at h3
      rw [e3] at h4
      rw [e1, e3] at kk
      refine va_newa (D := D) (atype := .int) (a0 := (n.toNatClampNeg, .inl (fun j => (List.replicate n.toNatClampNeg 0).getD j 0))) Cx.1 Cx.2.1 (Cx.2.2.2.2.1 _ hw) rfl Cx.2.2.2.2.2.2.2.2.1 hW.1 (wo_D B cA h) hW.2 (fun q hq => Nat.le_trans Cx.2.2.2.2.2.2.2.2.2.2 hq) (fun cA => ?_) hn rfl ?_ h3 h4 hd (fun q cB H1 hK1 hP1 hD1 hS1 => ?_)
      · rw [vp_cell_i]
        congr 1
        funext j
        rw [getD_rep]
        rfl
      · show n.toNatClampNeg * 4 ≤ 536870912
        omega
      · have hcB : cB = cA 0 := cA_one (Or.inl rfl) (hK1.2 4 (cB, .int) rfl).2 (Cx.2.2.2.2.2.2.2.2.1.2 0 (cA 0, .int) rfl).2
        subst hcB
        intro T hT X
        have hq := new_q hP1 hD1 hT X (hm hmd) h1
        subst hq
        refine kk H1 locs ls ⟨?_, hS1⟩ hl T hT X
        rw [← wo_push]
        simp only [dc, List.length_replicate]
        exact hP1
    · cases ho
  · cases ho
theorem ok_newb {l : Launch} {own : String} {cc : ByteArray} {nL : Nat} {ret : Option FieldType} {ini : Bool} {D : va_G} {cA : Nat → ClassId} {B : BB} {G : State → Prop} {md : Bool} {d : Nat} {call : Call} {pc : Nat} (hw : Cond.arrayClass .byte ∈ tT) (hd : decode cc pc = .ok (.newarray .byte, 2)) : EOk l own cc nL ret ini D cA B G md d call (eNewI md pc 1) := by
  intro lv st h out ho
  simp only [eNewI] at ho
  split at ho
  · next n r =>
    split at ho
    · next hg =>
      obtain ⟨hmd, hn, hb⟩ := hg
      cases ho
      have e2 : sl (h ++ [.inr (1, .inl (List.replicate n.toNatClampNeg 0))]) = sl h + n.toNatClampNeg := by rw [sl_push]; simp [sl1]
      refine ⟨by simp, by omega, ?_⟩
      intro p e R s m args below meth c Q Cx _ _ H locs ls c0 s0 x0 y0 hW hl hm h1 h2 h3 h4 kk
      have e1 : x0 + ((h ++ [.inr (1, .inl (List.replicate n.toNatClampNeg 0))] : List AC).length - c0) = x0 + (h.length - c0) + 1 := by simp; omega
      have e3 : y0 + (sl (h ++ [.inr (1, .inl (List.replicate n.toNatClampNeg 0))]) - s0) = y0 + (sl h - s0) + n.toNatClampNeg := by omega
      rw [e1] at h3
      rw [e3] at h4
      rw [e1, e3] at kk
      refine va_newa (D := D) (atype := .byte) (a0 := (n.toNatClampNeg, .inl (fun j => (List.replicate n.toNatClampNeg 0).getD j 0))) Cx.1 Cx.2.1 (Cx.2.2.2.2.1 _ hw) rfl Cx.2.2.2.2.2.2.2.2.1 hW.1 (wo_D B cA h) hW.2 (fun q hq => Nat.le_trans Cx.2.2.2.2.2.2.2.2.2.2 hq) (fun cA => ?_) hn rfl ?_ h3 h4 hd (fun q cB H1 hK1 hP1 hD1 hS1 => ?_)
      · rw [vp_cell_i]
        congr 1
        funext j
        rw [getD_rep]
        rfl
      · show n.toNatClampNeg * 1 ≤ 536870912
        omega
      · have hcB : cB = cA 1 := cA_one (Or.inr (Or.inl rfl)) (hK1.2 4 (cB, .byte) rfl).2 (Cx.2.2.2.2.2.2.2.2.1.2 1 (cA 1, .byte) rfl).2
        subst hcB
        intro T hT X
        have hq := new_q hP1 hD1 hT X (hm hmd) h1
        subst hq
        refine kk H1 locs ls ⟨?_, hS1⟩ hl T hT X
        rw [← wo_push]
        simp only [dc, List.length_replicate]
        exact hP1
    · cases ho
  · cases ho
theorem ok_newj {l : Launch} {own : String} {cc : ByteArray} {nL : Nat} {ret : Option FieldType} {ini : Bool} {D : va_G} {cA : Nat → ClassId} {B : BB} {G : State → Prop} {md : Bool} {d : Nat} {call : Call} {pc : Nat} (hw : Cond.arrayClass .long ∈ tT) (hd : decode cc pc = .ok (.newarray .long, 2)) : EOk l own cc nL ret ini D cA B G md d call (eNewJ md pc) := by
  intro lv st h out ho
  simp only [eNewJ] at ho
  split at ho
  · next n r =>
    split at ho
    · next hg =>
      obtain ⟨hmd, hn, hb⟩ := hg
      cases ho
      have e2 : sl (h ++ [.inr (2, .inr (.inl (List.replicate n.toNatClampNeg 0)))]) = sl h + n.toNatClampNeg := by rw [sl_push]; simp [sl1]
      refine ⟨by simp, by omega, ?_⟩
      intro p e R s m args below meth c Q Cx _ _ H locs ls c0 s0 x0 y0 hW hl hm h1 h2 h3 h4 kk
      have e1 : x0 + ((h ++ [.inr (2, .inr (.inl (List.replicate n.toNatClampNeg 0)))] : List AC).length - c0) = x0 + (h.length - c0) + 1 := by simp; omega
      have e3 : y0 + (sl (h ++ [.inr (2, .inr (.inl (List.replicate n.toNatClampNeg 0)))]) - s0) = y0 + (sl h - s0) + n.toNatClampNeg := by omega
      rw [e1] at h3
      rw [e3] at h4
      rw [e1, e3] at kk
      refine va_newa (D := D) (atype := .long) (a0 := (n.toNatClampNeg, .inr (.inl (fun j => (List.replicate n.toNatClampNeg 0).getD j 0)))) Cx.1 Cx.2.1 (Cx.2.2.2.2.1 _ hw) rfl Cx.2.2.2.2.2.2.2.2.1 hW.1 (wo_D B cA h) hW.2 (fun q hq => Nat.le_trans Cx.2.2.2.2.2.2.2.2.2.2 hq) (fun cA => ?_) hn rfl ?_ h3 h4 hd (fun q cB H1 hK1 hP1 hD1 hS1 => ?_)
      · rw [vp_cell_l]
        congr 1
        funext j
        rw [getD_rep]
        rfl
      · show n.toNatClampNeg * 8 ≤ 536870912
        omega
      · have hcB : cB = cA 2 := cA_one (Or.inr (Or.inr rfl)) (hK1.2 4 (cB, .long) rfl).2 (Cx.2.2.2.2.2.2.2.2.1.2 2 (cA 2, .long) rfl).2
        subst hcB
        intro T hT X
        have hq := new_q hP1 hD1 hT X (hm hmd) h1
        subst hq
        refine kk H1 locs ls ⟨?_, hS1⟩ hl T hT X
        rw [← wo_push]
        simp only [dc, List.length_replicate]
        exact hP1
    · cases ho
  · cases ho
theorem ok_newA {l : Launch} {own : String} {cc : ByteArray} {nL : Nat} {ret : Option FieldType} {ini : Bool} {D : va_G} {cA : Nat → ClassId} {B : BB} {G : State → Prop} {md : Bool} {d : Nat} {call : Call} {pc idx : Nat} (hw : Cond.classLink own idx "TankerDesk$State" ∈ tT) (hd : decode cc pc = .ok (.anewarray idx, 3)) : EOk l own cc nL ret ini D cA B G md d call (eNewA md pc) := by
  intro lv st h out ho
  simp only [eNewA] at ho
  split at ho
  · next n r =>
    split at ho
    · next hg =>
      obtain ⟨hmd, hn, hb⟩ := hg
      cases ho
      have e2 : sl (h ++ [.inr (3, .inr (.inr (List.replicate n.toNatClampNeg none)))]) = sl h + n.toNatClampNeg := by rw [sl_push]; simp [sl1]
      refine ⟨by simp, by omega, ?_⟩
      intro p e R s m args below meth c Q Cx _ _ H locs ls c0 s0 x0 y0 hW hl hm h1 h2 h3 h4 kk
      have e1 : x0 + ((h ++ [.inr (3, .inr (.inr (List.replicate n.toNatClampNeg none)))] : List AC).length - c0) = x0 + (h.length - c0) + 1 := by simp; omega
      have e3 : y0 + (sl (h ++ [.inr (3, .inr (.inr (List.replicate n.toNatClampNeg none)))]) - s0) = y0 + (sl h - s0) + n.toNatClampNeg := by omega
      rw [e1] at h3
      rw [e3] at h4
      rw [e1, e3] at kk
      refine va_newq (D := D) Cx.1 Cx.2.1 Cx.2.2.2.1 (Cx.2.2.2.2.1 _ hw) Cx.2.2.2.2.2.2.2.2.2.1.1.2 Cx.2.2.2.2.2.2.2.2.1 hW.1 (wo_D B cA h) hW.2 (fun q hq => Nat.le_trans Cx.2.2.2.2.2.2.2.2.2.2 hq) hn rfl (by omega) h3 h4 hd (fun q cB H1 hK1 hP1 hD1 hS1 => ?_)
      have hcB : cB = cA 3 := cA_oneA (hK1.2 4 (cB, .object "TankerDesk$State") rfl).2 (Cx.2.2.2.2.2.2.2.2.1.2 3 (cA 3, .object "TankerDesk$State") rfl).2
      subst hcB
      intro T hT X
      have hq := new_q hP1 hD1 hT X (hm hmd) h1
      subst hq
      refine kk H1 locs ls ⟨?_, hS1⟩ hl T hT X
      rw [← wo_push]
      have e5 : dc B cA (.inr (3, .inr (.inr (List.replicate n.toNatClampNeg none)))) = .inl (cA 3, n.toNatClampNeg, .inr (.inr (.inr (.inr (fun _ => none))))) := by
        simp only [dc, List.length_replicate]
        congr 7
        funext j
        rw [getD_rep]
        rfl
      rw [e5]
      exact hP1
    · cases ho
  · cases ho
