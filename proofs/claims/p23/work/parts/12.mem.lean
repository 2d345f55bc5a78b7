/-! steps on the heap -/
theorem getD_set {α : Type} {xs : List α} {j : Nat} {x d : α} (hj : j < xs.length) : (fun q => (xs.set j x).getD q d) = fun q => if q = j then x else xs.getD q d := by
  funext q
  rw [List.getD_eq_getElem?_getD, List.getD_eq_getElem?_getD, List.getElem?_set]
  by_cases e : j = q
  · subst e
    simp [hj]
  · rw [if_neg e, if_neg (fun z => e z.symm)]
theorem getD_at {α : Type} {xs : List α} {j : Nat} {x d : α} (h : xs[j]? = some x) : xs.getD j d = x := by
  rw [List.getD_eq_getElem?_getD, h]
  rfl
theorem lt_at {α : Type} {xs : List α} {j : Nat} {x : α} (h : xs[j]? = some x) : j < xs.length := (List.getElem?_eq_some_iff.mp h).1
/-- a field read -/
def eGet (pc ci k : Nat) : Ent := (pc, fun _ lv st h => match st with
  | .ref b :: r => match h[b]? with
    | some (.inl (cj, fs)) => if cj = ci then match fs[k]? with
        | some v => some (.inl (pc + 3, lv, v :: r, h))
        | none => none
      else none
    | _ => none
  | _ => none)
theorem ok_get {l : Launch} {own : String} {cc : ByteArray} {nL : Nat} {ret : Option FieldType} {ini : Bool} {D : va_G} {cA : Nat → ClassId} {B : BB} {G : State → Prop} {md : Bool} {d : Nat} {call : Call} {pc ci k N idx : Nat} {C : String} {T : u_T} (hc : vC[ci]? = some (C, T, N)) (hin : ∀ w ∈ u_ws C T N, w ∈ tT) (hk : k < N) (hw : Cond.fieldLink own idx (T k).1 (T k).2.1 (T k).2.2.1 ∈ tT) (hd : decode cc pc = .ok (.getfield idx, 3)) : EOk l own cc nL ret ini D cA B G md d call (eGet pc ci k) := by
  intro lv st h out ho
  simp only [eGet] at ho
  split at ho
  · next b r =>
    split at ho
    · next cj fs hb =>
      split at ho
      · next e =>
        subst e
        split at ho
        · next v hv =>
          cases ho
          refine ⟨Nat.le_refl _, Nat.le_refl _, ?_⟩
          intro p e R s m args below meth c Q C _ _ H locs ls c0 s0 x0 y0 hW hl _ _ _ _ _ kk
          refine va_get (D := D) C.1 C.2.1 C.2.2.2.2.1 hin C.2.2.2.1 C.2.2.2.2.2.2.2.2.1 hW.1 b (wo_get hb) hc k hk (C.2.2.2.2.1 _ hw) (fun _ h9 => h9) (v := dv B v) ?_ hd (kk H locs ls hW hl)
          rw [List.getElem?_map, hv]
          rfl
        · cases ho
      · cases ho
    · cases ho
  · cases ho
/-- a field written -/
def ePut (pc ci k : Nat) (chk : Value → Bool) : Ent := (pc, fun _ lv st h => match st with
  | v :: .ref b :: r => match h[b]? with
    | some (.inl (cj, fs)) => if cj = ci ∧ k < fs.length ∧ chk v = true then some (.inl (pc + 3, lv, r, h.set b (.inl (ci, fs.set k v)))) else none
    | _ => none
  | _ => none)
def kInt (v : Value) : Bool := match v with
  | .int _ => true
  | _ => false
def kBool (v : Value) : Bool := match v with
  | .int x => x == 0 || x == 1
  | _ => false
def kLong (v : Value) : Bool := match v with
  | .long _ => true
  | _ => false
def kRef (v : Value) : Bool := match v with
  | .ref _ => true
  | _ => false
/-- what may go into a field of a type -/
def KOk (B : BB) (ty : FieldType) (chk : Value → Bool) : Prop := ∀ v, chk v = true → narrow ty (dv B v) = dv B v ∧ fits ty (dv B v) = true
theorem kok_int (B : BB) : KOk B .int kInt := by
  intro v hv
  cases v <;> first | exact ⟨rfl, rfl⟩ | (cases hv)
theorem kok_long (B : BB) : KOk B .long kLong := by
  intro v hv
  cases v <;> first | exact ⟨rfl, rfl⟩ | (cases hv)
theorem kok_obj (B : BB) (n : String) : KOk B (.object n) kRef := by
  intro v hv
  cases v <;> first | exact ⟨rfl, rfl⟩ | (cases hv)
theorem kok_arr (B : BB) (t : FieldType) : KOk B (.array t) kRef := by
  intro v hv
  cases v <;> first | exact ⟨rfl, rfl⟩ | (cases hv)
theorem kok_bool (B : BB) : KOk B .boolean kBool := by
  intro v hv
  cases v with
  | int x =>
    simp only [kBool, Bool.or_eq_true, beq_iff_eq] at hv
    rcases hv with rfl | rfl
    · exact ⟨show narrow .boolean (.int 0) = .int 0 by decide, show fits .boolean (.int 0) = true by decide⟩
    · exact ⟨show narrow .boolean (.int 1) = .int 1 by decide, show fits .boolean (.int 1) = true by decide⟩
  | _ => cases hv
theorem ok_put {l : Launch} {own : String} {cc : ByteArray} {nL : Nat} {ret : Option FieldType} {ini : Bool} {D : va_G} {cA : Nat → ClassId} {B : BB} {G : State → Prop} {md : Bool} {d : Nat} {call : Call} {pc ci k N idx : Nat} {C : String} {T : u_T} {ty0 : Nat → FieldType} {ty : FieldType} {chk : Value → Bool} (hc : vC[ci]? = some (C, T, N)) (hin : ∀ w ∈ u_ws C T N, w ∈ tT) (hty : ∀ k, k < N → parseFieldDescriptor (T k).2.2.1 = some (ty0 k)) (hnm : ∀ a, a < N → ∀ b, b < N → a ≠ b → (T a).2.1 ≠ (T b).2.1) (hk : k < N) (hw : Cond.fieldLink own idx (T k).1 (T k).2.1 (T k).2.2.1 ∈ tT) (hfin : (T k).2.2.2 = false) (hpd : parseFieldDescriptor (T k).2.2.1 = some ty) (hko : KOk B ty chk) (hd : decode cc pc = .ok (.putfield idx, 3)) : EOk l own cc nL ret ini D cA B G md d call (ePut pc ci k chk) := by
  intro lv st h out ho
  simp only [ePut] at ho
  split at ho
  · next v b r =>
    split at ho
    · next cj fs hb =>
      split at ho
      · next e =>
        obtain ⟨rfl, hkl, hv⟩ := e
        cases ho
        have e2 : sl (h.set b (.inl (cj, fs.set k v))) = sl h := sl_set hb (by simp [sl1])
        refine ⟨by simp, by rw [e2]; exact Nat.le_refl _, ?_⟩
        intro p e R s m args below meth c Q C _ _ H locs ls c0 s0 x0 y0 hW hl _ _ _ _ _ kk
        have e1 : (h.set b (.inl (cj, fs.set k v))).length = h.length := by simp
        rw [e1, e2] at kk
        refine va_put (D := D) C.1 C.2.1 C.2.2.2.2.1 hin ty0 hty hnm C.2.2.2.1 C.2.2.2.2.2.2.2.2.1 hW.1 (wo_D B cA h) hW.2 b (wo_get hb) hc k hk (C.2.2.2.2.1 _ hw) (fun _ h9 => h9) hfin hpd (hko v hv).1 (hko v hv).2 (by rw [List.length_map]; exact hkl) hd (fun H1 locs1 hP1 _ hS1 => kk H1 locs1 ls ⟨?_, hS1⟩ hl)
        rw [← wo_set]
        have e3 : dc B cA (.inl (cj, fs.set k v)) = .inr (cj, (fs.map (dv B)).set k (dv B v)) := by
          simp [dc, List.map_set]
        rw [e3]
        exact hP1
      · cases ho
    · cases ho
  · cases ho
theorem ok_putF {l : Launch} {own : String} {cc : ByteArray} {nL : Nat} {ret : Option FieldType} {ini : Bool} {D : va_G} {cA : Nat → ClassId} {B : BB} {G : State → Prop} {md : Bool} {d : Nat} {call : Call} {pc ci k N idx : Nat} {C : String} {T : u_T} {ty0 : Nat → FieldType} {ty : FieldType} {chk : Value → Bool} (hini : ini = true) (hc : vC[ci]? = some (C, T, N)) (hin : ∀ w ∈ u_ws C T N, w ∈ tT) (hty : ∀ k, k < N → parseFieldDescriptor (T k).2.2.1 = some (ty0 k)) (hnm : ∀ a, a < N → ∀ b, b < N → a ≠ b → (T a).2.1 ≠ (T b).2.1) (hk : k < N) (hw : Cond.fieldLink own idx (T k).1 (T k).2.1 (T k).2.2.1 ∈ tT) (hfin : (T k).2.2.2 = true) (hdecl : (T k).1 = own) (hpd : parseFieldDescriptor (T k).2.2.1 = some ty) (hko : KOk B ty chk) (hd : decode cc pc = .ok (.putfield idx, 3)) : EOk l own cc nL ret ini D cA B G md d call (ePut pc ci k chk) := by
  intro lv st h out ho
  simp only [ePut] at ho
  split at ho
  · next v b r =>
    split at ho
    · next cj fs hb =>
      split at ho
      · next e =>
        obtain ⟨rfl, hkl, hv⟩ := e
        cases ho
        have e2 : sl (h.set b (.inl (cj, fs.set k v))) = sl h := sl_set hb (by simp [sl1])
        refine ⟨by simp, by rw [e2]; exact Nat.le_refl _, ?_⟩
        intro p e R s m args below meth c Q C _ _ H locs ls c0 s0 x0 y0 hW hl _ _ _ _ _ kk
        have e1 : (h.set b (.inl (cj, fs.set k v))).length = h.length := by simp
        rw [e1, e2] at kk
        refine va_putF (D := D) C.1 C.2.1 C.2.2.2.2.1 hin ty0 hty hnm C.2.2.2.1 C.2.2.2.2.2.2.2.2.1 hW.1 (wo_D B cA h) hW.2 b (wo_get hb) hc k hk (C.2.2.2.2.1 _ hw) (fun _ h9 => h9) hfin (C.2.2.2.2.2.2.2.1 hini) hdecl hpd (hko v hv).1 (hko v hv).2 (by rw [List.length_map]; exact hkl) hd (fun H1 locs1 hP1 _ hS1 => kk H1 locs1 ls ⟨?_, hS1⟩ hl)
        rw [← wo_set]
        have e3 : dc B cA (.inl (cj, fs.set k v)) = .inr (cj, (fs.map (dv B)).set k (dv B v)) := by
          simp [dc, List.map_set]
        rw [e3]
        exact hP1
      · cases ho
    · cases ho
  · cases ho
/-- arrays of ints (tag 0) and bytes (tag 1) -/
def eIald (pc t : Nat) : Ent := (pc, fun _ lv st h => match st with
  | .int i :: .ref b :: r => match h[b]? with
    | some (.inr (u, .inl xs)) => if u = t ∧ ¬ i < 0 then match xs[i.toNatClampNeg]? with
        | some x => some (.inl (pc + 1, lv, .int x :: r, h))
        | none => none
      else none
    | _ => none
  | _ => none)
def eIast (pc t : Nat) (nar : Int32 → Int32) : Ent := (pc, fun _ lv st h => match st with
  | .int x :: .int i :: .ref b :: r => match h[b]? with
    | some (.inr (u, .inl xs)) => if u = t ∧ ¬ i < 0 ∧ i.toNatClampNeg < xs.length then some (.inl (pc + 1, lv, r, h.set b (.inr (t, .inl (xs.set i.toNatClampNeg (nar x)))))) else none
    | _ => none
  | _ => none)
theorem ok_iald {l : Launch} {own : String} {cc : ByteArray} {nL : Nat} {ret : Option FieldType} {ini : Bool} {D : va_G} {cA : Nat → ClassId} {B : BB} {G : State → Prop} {md : Bool} {d : Nat} {call : Call} {pc : Nat} (hd : decode cc pc = .ok (.iaload, 1)) : EOk l own cc nL ret ini D cA B G md d call (eIald pc 0) := by
  intro lv st h out ho
  simp only [eIald] at ho
  split at ho
  · next i b r =>
    split at ho
    · next u xs hb =>
      split at ho
      · next e =>
        obtain ⟨rfl, hi⟩ := e
        split at ho
        · next x hx =>
          cases ho
          refine ⟨Nat.le_refl _, Nat.le_refl _, ?_⟩
          intro p e R s m args below meth c Q C _ _ H locs ls c0 s0 x0 y0 hW hl _ _ _ _ _ kk
          have hin : vp_in i xs.length := fun z => z.elim hi (fun z => absurd (lt_at hx) (Nat.not_lt.mpr z))
          have k := kk H locs ls hW hl
          rw [← getD_at (d := 0) hx] at k
          exact va_iald (D := D) C.1 C.2.1 C.2.2.2.2.2.2.2.2.1 hW.1 b 0 (wo_get hb) rfl hin hd k
        · cases ho
      · cases ho
    · cases ho
  · cases ho
theorem ok_bald {l : Launch} {own : String} {cc : ByteArray} {nL : Nat} {ret : Option FieldType} {ini : Bool} {D : va_G} {cA : Nat → ClassId} {B : BB} {G : State → Prop} {md : Bool} {d : Nat} {call : Call} {pc : Nat} (hd : decode cc pc = .ok (.baload, 1)) : EOk l own cc nL ret ini D cA B G md d call (eIald pc 1) := by
  intro lv st h out ho
  simp only [eIald] at ho
  split at ho
  · next i b r =>
    split at ho
    · next u xs hb =>
      split at ho
      · next e =>
        obtain ⟨rfl, hi⟩ := e
        split at ho
        · next x hx =>
          cases ho
          refine ⟨Nat.le_refl _, Nat.le_refl _, ?_⟩
          intro p e R s m args below meth c Q C _ _ H locs ls c0 s0 x0 y0 hW hl _ _ _ _ _ kk
          have hin : vp_in i xs.length := fun z => z.elim hi (fun z => absurd (lt_at hx) (Nat.not_lt.mpr z))
          have k := kk H locs ls hW hl
          rw [← getD_at (d := 0) hx] at k
          exact va_bald (D := D) C.1 C.2.1 C.2.2.2.2.2.2.2.2.1 hW.1 b 1 (wo_get hb) rfl hin hd k
        · cases ho
      · cases ho
    · cases ho
  · cases ho
theorem ok_iast {l : Launch} {own : String} {cc : ByteArray} {nL : Nat} {ret : Option FieldType} {ini : Bool} {D : va_G} {cA : Nat → ClassId} {B : BB} {G : State → Prop} {md : Bool} {d : Nat} {call : Call} {pc : Nat} (hd : decode cc pc = .ok (.iastore, 1)) : EOk l own cc nL ret ini D cA B G md d call (eIast pc 0 (fun x => x)) := by
  intro lv st h out ho
  simp only [eIast] at ho
  split at ho
  · next x i b r =>
    split at ho
    · next u xs hb =>
      split at ho
      · next e =>
        obtain ⟨rfl, hi, hj⟩ := e
        cases ho
        have e2 := sl_set (c' := .inr (0, .inl (xs.set i.toNatClampNeg ((fun x => x) x)))) hb (by simp [sl1])
        refine ⟨by simp, by rw [e2]; exact Nat.le_refl _, ?_⟩
        intro p e R s m args below meth c Q C _ _ H locs ls c0 s0 x0 y0 hW hl _ _ _ _ _ kk
        rw [List.length_set, e2] at kk
        have hin : vp_in i xs.length := fun z => z.elim hi (fun z => absurd hj (Nat.not_lt.mpr z))
        refine va_iast (D := D) C.1 C.2.1 C.2.2.2.2.2.2.2.2.1 hW.1 (wo_D B cA h) hW.2 b 0 (wo_get hb) rfl hin hd (fun H1 locs1 hP1 _ hS1 => kk H1 locs1 ls ⟨?_, hS1⟩ hl)
        rw [← wo_set]
        have e3 : dc B cA (.inr (0, .inl (xs.set i.toNatClampNeg ((fun x => x) x)))) = .inl (cA 0, xs.length, .inl (upd (fun j => xs.getD j 0) i.toNatClampNeg (x))) := by
          simp only [dc, List.length_set]
          rw [getD_set hj]
          rfl
        rw [e3]
        exact hP1
      · cases ho
    · cases ho
  · cases ho
theorem ok_bast {l : Launch} {own : String} {cc : ByteArray} {nL : Nat} {ret : Option FieldType} {ini : Bool} {D : va_G} {cA : Nat → ClassId} {B : BB} {G : State → Prop} {md : Bool} {d : Nat} {call : Call} {pc : Nat} (hd : decode cc pc = .ok (.bastore, 1)) : EOk l own cc nL ret ini D cA B G md d call (eIast pc 1 (fun x => x.toInt8.toInt32)) := by
  intro lv st h out ho
  simp only [eIast] at ho
  split at ho
  · next x i b r =>
    split at ho
    · next u xs hb =>
      split at ho
      · next e =>
        obtain ⟨rfl, hi, hj⟩ := e
        cases ho
        have e2 := sl_set (c' := .inr (1, .inl (xs.set i.toNatClampNeg ((fun x => x.toInt8.toInt32) x)))) hb (by simp [sl1])
        refine ⟨by simp, by rw [e2]; exact Nat.le_refl _, ?_⟩
        intro p e R s m args below meth c Q C _ _ H locs ls c0 s0 x0 y0 hW hl _ _ _ _ _ kk
        rw [List.length_set, e2] at kk
        have hin : vp_in i xs.length := fun z => z.elim hi (fun z => absurd hj (Nat.not_lt.mpr z))
        refine va_bast (D := D) C.1 C.2.1 C.2.2.2.2.2.2.2.2.1 hW.1 (wo_D B cA h) hW.2 b 1 (wo_get hb) rfl hin hd (fun H1 locs1 hP1 _ hS1 => kk H1 locs1 ls ⟨?_, hS1⟩ hl)
        rw [← wo_set]
        have e3 : dc B cA (.inr (1, .inl (xs.set i.toNatClampNeg ((fun x => x.toInt8.toInt32) x)))) = .inl (cA 1, xs.length, .inl (upd (fun j => xs.getD j 0) i.toNatClampNeg (vp_nar .byte x))) := by
          simp only [dc, List.length_set]
          rw [getD_set hj]
          rfl
        rw [e3]
        exact hP1
      · cases ho
    · cases ho
  · cases ho
def eLald (pc : Nat) : Ent := (pc, fun _ lv st h => match st with
  | .int i :: .ref b :: r => match h[b]? with
    | some (.inr (u, .inr (.inl xs))) => if u = 2 ∧ ¬ i < 0 then match xs[i.toNatClampNeg]? with
        | some x => some (.inl (pc + 1, lv, .long x :: r, h))
        | none => none
      else none
    | _ => none
  | _ => none)
theorem ok_lald {l : Launch} {own : String} {cc : ByteArray} {nL : Nat} {ret : Option FieldType} {ini : Bool} {D : va_G} {cA : Nat → ClassId} {B : BB} {G : State → Prop} {md : Bool} {d : Nat} {call : Call} {pc : Nat} (hd : decode cc pc = .ok (.laload, 1)) : EOk l own cc nL ret ini D cA B G md d call (eLald pc) := by
  intro lv st h out ho
  simp only [eLald] at ho
  split at ho
  · next i b r =>
    split at ho
    · next u xs hb =>
      split at ho
      · next e =>
        obtain ⟨rfl, hi⟩ := e
        split at ho
        · next x hx =>
          cases ho
          refine ⟨Nat.le_refl _, Nat.le_refl _, ?_⟩
          intro p e R s m args below meth c Q C _ _ H locs ls c0 s0 x0 y0 hW hl _ _ _ _ _ kk
          have hin : vp_in i xs.length := fun z => z.elim hi (fun z => absurd (lt_at hx) (Nat.not_lt.mpr z))
          have k := kk H locs ls hW hl
          rw [← getD_at (d := 0) hx] at k
          exact va_lald (D := D) C.1 C.2.1 C.2.2.2.2.2.2.2.2.1 hW.1 b 2 (wo_get hb) rfl hin hd k
        · cases ho
      · cases ho
    · cases ho
  · cases ho
def eLast (pc : Nat) : Ent := (pc, fun _ lv st h => match st with
  | .long x :: .int i :: .ref b :: r => match h[b]? with
    | some (.inr (u, .inr (.inl xs))) => if u = 2 ∧ ¬ i < 0 ∧ i.toNatClampNeg < xs.length then some (.inl (pc + 1, lv, r, h.set b (.inr (2, .inr (.inl (xs.set i.toNatClampNeg x)))))) else none
    | _ => none
  | _ => none)
theorem ok_last {l : Launch} {own : String} {cc : ByteArray} {nL : Nat} {ret : Option FieldType} {ini : Bool} {D : va_G} {cA : Nat → ClassId} {B : BB} {G : State → Prop} {md : Bool} {d : Nat} {call : Call} {pc : Nat} (hd : decode cc pc = .ok (.lastore, 1)) : EOk l own cc nL ret ini D cA B G md d call (eLast pc) := by
  intro lv st h out ho
  simp only [eLast] at ho
  split at ho
  · next x i b r =>
    split at ho
    · next u xs hb =>
      split at ho
      · next e =>
        obtain ⟨rfl, hi, hj⟩ := e
        cases ho
        have e2 := sl_set (c' := .inr (2, .inr (.inl (xs.set i.toNatClampNeg x)))) hb (by simp [sl1])
        refine ⟨by simp, by rw [e2]; exact Nat.le_refl _, ?_⟩
        intro p e R s m args below meth c Q C _ _ H locs ls c0 s0 x0 y0 hW hl _ _ _ _ _ kk
        rw [List.length_set, e2] at kk
        have hin : vp_in i xs.length := fun z => z.elim hi (fun z => absurd hj (Nat.not_lt.mpr z))
        refine va_last (D := D) C.1 C.2.1 C.2.2.2.2.2.2.2.2.1 hW.1 (wo_D B cA h) hW.2 b 2 (wo_get hb) rfl hin hd (fun H1 locs1 hP1 _ hS1 => kk H1 locs1 ls ⟨?_, hS1⟩ hl)
        rw [← wo_set]
        have e3 : dc B cA (.inr (2, .inr (.inl (xs.set i.toNatClampNeg x)))) = .inl (cA 2, xs.length, .inr (.inl (vp_updL (fun j => xs.getD j 0) i.toNatClampNeg x))) := by
          simp only [dc, List.length_set]
          rw [getD_set hj]
          rfl
        rw [e3]
        exact hP1
      · cases ho
    · cases ho
  · cases ho
/-- rows of states (tag 3) -/
def eAald (pc : Nat) : Ent := (pc, fun _ lv st h => match st with
  | .int i :: .ref b :: r => match h[b]? with
    | some (.inr (u, .inr (.inr xs))) => if u = 3 ∧ ¬ i < 0 then match xs[i.toNatClampNeg]? with
        | some (some k) => some (.inl (pc + 1, lv, .ref k :: r, h))
        | _ => none
      else none
    | _ => none
  | _ => none)
theorem ok_aald {l : Launch} {own : String} {cc : ByteArray} {nL : Nat} {ret : Option FieldType} {ini : Bool} {D : va_G} {cA : Nat → ClassId} {B : BB} {G : State → Prop} {md : Bool} {d : Nat} {call : Call} {pc : Nat} (hd : decode cc pc = .ok (.aaload, 1)) : EOk l own cc nL ret ini D cA B G md d call (eAald pc) := by
  intro lv st h out ho
  simp only [eAald] at ho
  split at ho
  · next i b r =>
    split at ho
    · next u xs hb =>
      split at ho
      · next e =>
        obtain ⟨rfl, hi⟩ := e
        split at ho
        · next k hx =>
          cases ho
          refine ⟨Nat.le_refl _, Nat.le_refl _, ?_⟩
          intro p e R s m args below meth c Q C _ _ H locs ls c0 s0 x0 y0 hW hl _ _ _ _ _ kk
          have hin : vp_in i xs.length := fun z => z.elim hi (fun z => absurd (lt_at hx) (Nat.not_lt.mpr z))
          have k0 := kk H locs ls hW hl
          refine va_aldq (D := D) C.1 C.2.1 C.2.2.2.2.2.2.2.2.1 hW.1 b 3 (wo_get hb) rfl hin hd ?_
          show W p l e R s m args below meth c H locs _ _ Q (F0 m (pc + 1) ls (va_rf ((xs.getD i.toNatClampNeg none).map (fun k => B.1 + k)) :: r.map (dv B)))
          rw [getD_at (d := none) hx]
          exact k0
        · cases ho
      · cases ho
    · cases ho
  · cases ho
def eAast (pc : Nat) : Ent := (pc, fun _ lv st h => match st with
  | .ref v :: .int i :: .ref b :: r => match h[b]?, h[v]? with
    | some (.inr (u, .inr (.inr xs))), some (.inl (cj, _)) => if u = 3 ∧ cj = 5 ∧ ¬ i < 0 ∧ i.toNatClampNeg < xs.length then some (.inl (pc + 1, lv, r, h.set b (.inr (3, .inr (.inr (xs.set i.toNatClampNeg (some v))))))) else none
    | _, _ => none
  | _ => none)
theorem ok_aast {l : Launch} {own : String} {cc : ByteArray} {nL : Nat} {ret : Option FieldType} {ini : Bool} {D : va_G} {cA : Nat → ClassId} {B : BB} {G : State → Prop} {md : Bool} {d : Nat} {call : Call} {pc : Nat} (hd : decode cc pc = .ok (.aastore, 1)) : EOk l own cc nL ret ini D cA B G md d call (eAast pc) := by
  intro lv st h out ho
  simp only [eAast] at ho
  split at ho
  · next v i b r =>
    split at ho
    · next u xs cj vs hb hv =>
      split at ho
      · next e =>
        obtain ⟨rfl, rfl, hi, hj⟩ := e
        cases ho
        have e2 := sl_set (c' := .inr (3, .inr (.inr (xs.set i.toNatClampNeg (some v))))) hb (by simp [sl1])
        refine ⟨by simp, by rw [e2]; exact Nat.le_refl _, ?_⟩
        intro p e R s m args below meth c Q C _ _ H locs ls c0 s0 x0 y0 hW hl _ _ _ _ _ kk
        rw [List.length_set, e2] at kk
        have hin : vp_in i xs.length := fun z => z.elim hi (fun z => absurd hj (Nat.not_lt.mpr z))
        refine va_astq (D := D) C.1 C.2.1 C.2.2.2.2.2.2.2.2.1 hW.1 (wo_D B cA h) hW.2 b 3 v 5 (wo_get hb) rfl (wo_get hv) rfl hin hd (fun H1 locs1 hP1 _ hS1 => kk H1 locs1 ls ⟨?_, hS1⟩ hl)
        rw [← wo_set]
        have e3 : dc B cA (.inr (3, .inr (.inr (xs.set i.toNatClampNeg (some v))))) = .inl (cA 3, xs.length, .inr (.inr (.inr (.inr (va_up (fun j => (xs.getD j none).map (fun k => B.1 + k)) i.toNatClampNeg (some (B.1 + v))))))) := by
          simp only [dc, List.length_set]
          congr 7
          funext q
          have e4 := congrFun (getD_set (d := none) (x := some v) hj) q
          rw [e4]
          unfold va_up
          by_cases z : q = i.toNatClampNeg
          · rw [if_pos z, if_pos z]
            rfl
          · rw [if_neg z, if_neg z]
        rw [e3]
        exact hP1
      · cases ho
    · cases ho
  · cases ho
/-- a row's length -/
def eLen (pc : Nat) : Ent := (pc, fun _ lv st h => match st with
  | .ref b :: r => match h[b]? with
    | some (.inr (u, .inl xs)) => if u = 0 then some (.inl (pc + 1, lv, .int (Int32.ofNat xs.length) :: r, h)) else none
    | _ => none
  | _ => none)
theorem ok_len {l : Launch} {own : String} {cc : ByteArray} {nL : Nat} {ret : Option FieldType} {ini : Bool} {D : va_G} {cA : Nat → ClassId} {B : BB} {G : State → Prop} {md : Bool} {d : Nat} {call : Call} {pc : Nat} (hd : decode cc pc = .ok (.arraylength, 1)) : EOk l own cc nL ret ini D cA B G md d call (eLen pc) := by
  intro lv st h out ho
  simp only [eLen] at ho
  split at ho
  · next b r =>
    split at ho
    · next u xs hb =>
      split at ho
      · next e =>
        subst e
        cases ho
        refine ⟨Nat.le_refl _, Nat.le_refl _, ?_⟩
        intro p e R s m args below meth c Q C _ _ H locs ls c0 s0 x0 y0 hW hl _ _ _ _ _ kk
        exact va_alen (D := D) C.1 C.2.1 C.2.2.2.2.2.2.2.2.1 hW.1 b 0 (wo_get hb) rfl rfl hd (kk H locs ls hW hl)
      · cases ho
    · cases ho
  · cases ho
/-- returns -/
def eRetI (pc : Nat) : Ent := (pc, fun _ _ st h => match st with
  | [.int x] => some (.inr (some (.int x), h))
  | _ => none)
def eRetZ (pc : Nat) : Ent := (pc, fun _ _ st h => match st with
  | [.int x] => if x = 0 ∨ x = 1 then some (.inr (some (.int x), h)) else none
  | _ => none)
def eRetJ (pc : Nat) : Ent := (pc, fun _ _ st h => match st with
  | [.long x] => some (.inr (some (.long x), h))
  | _ => none)
def eRetV (pc : Nat) : Ent := (pc, fun _ _ st h => match st with
  | [] => some (.inr (none, h))
  | _ => none)
theorem ok_retI {l : Launch} {own : String} {cc : ByteArray} {nL : Nat} {ret : Option FieldType} {ini : Bool} {D : va_G} {cA : Nat → ClassId} {B : BB} {G : State → Prop} {md : Bool} {d : Nat} {call : Call} {pc : Nat} (hret : ret = some .int) (hd : decode cc pc = .ok (.ireturn, 1)) : EOk l own cc nL ret ini D cA B G md d call (eRetI pc) := by
  intro lv st h out ho
  simp only [eRetI] at ho
  split at ho
  · next x =>
    cases ho
    refine ⟨rfl, ?_⟩
    intro p e R s m args below meth c C H locs ls cells slots hW
    exact W.iret C.1 C.2.1 (C.2.2.2.2.2.1.trans hret) (fun t ht hWm => ⟨rfl, by rw [ht]; exact hW.1, hW.2.F ht⟩) hW.2.2.2 hd C.2.2.2.2.2.2.1
  · cases ho
theorem ok_retZ {l : Launch} {own : String} {cc : ByteArray} {nL : Nat} {ret : Option FieldType} {ini : Bool} {D : va_G} {cA : Nat → ClassId} {B : BB} {G : State → Prop} {md : Bool} {d : Nat} {call : Call} {pc : Nat} (hret : ret = some .boolean) (hd : decode cc pc = .ok (.ireturn, 1)) : EOk l own cc nL ret ini D cA B G md d call (eRetZ pc) := by
  intro lv st h out ho
  simp only [eRetZ] at ho
  split at ho
  · next x =>
    split at ho
    · next hx =>
      cases ho
      refine ⟨rfl, ?_⟩
      intro p e R s m args below meth c C H locs ls cells slots hW
      exact W.zret C.1 C.2.1 (C.2.2.2.2.2.1.trans hret) (by rcases hx with rfl | rfl <;> decide) (fun t ht hWm => ⟨rfl, by rw [ht]; exact hW.1, hW.2.F ht⟩) hW.2.2.2 hd C.2.2.2.2.2.2.1
    · cases ho
  · cases ho
theorem ok_retJ {l : Launch} {own : String} {cc : ByteArray} {nL : Nat} {ret : Option FieldType} {ini : Bool} {D : va_G} {cA : Nat → ClassId} {B : BB} {G : State → Prop} {md : Bool} {d : Nat} {call : Call} {pc : Nat} (hret : ret = some .long) (hd : decode cc pc = .ok (.lreturn, 1)) : EOk l own cc nL ret ini D cA B G md d call (eRetJ pc) := by
  intro lv st h out ho
  simp only [eRetJ] at ho
  split at ho
  · next x =>
    cases ho
    refine ⟨rfl, ?_⟩
    intro p e R s m args below meth c C H locs ls cells slots hW
    exact W.lret C.1 C.2.1 (C.2.2.2.2.2.1.trans hret) (fun t ht hWm => ⟨rfl, by rw [ht]; exact hW.1, hW.2.F ht⟩) hW.2.2.2 hd C.2.2.2.2.2.2.1
  · cases ho
theorem ok_retV {l : Launch} {own : String} {cc : ByteArray} {nL : Nat} {ret : Option FieldType} {ini : Bool} {D : va_G} {cA : Nat → ClassId} {B : BB} {G : State → Prop} {md : Bool} {d : Nat} {call : Call} {pc : Nat} (hret : ret = none) (hd : decode cc pc = .ok (.return_, 1)) : EOk l own cc nL ret ini D cA B G md d call (eRetV pc) := by
  intro lv st h out ho
  simp only [eRetV] at ho
  split at ho
  · cases ho
    refine ⟨rfl, ?_⟩
    intro p e R s m args below meth c C H locs ls cells slots hW
    exact W.vret C.1 C.2.1 (C.2.2.2.2.2.1.trans hret) (fun t ht hWm => ⟨rfl, by rw [ht]; exact hW.1, hW.2.F ht⟩) hW.2.2.2 hd C.2.2.2.2.2.2.1
  · cases ho
