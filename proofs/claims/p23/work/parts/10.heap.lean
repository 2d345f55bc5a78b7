/-- the classes -/
abbrev vC : List vw_C := [(RX0, TX0, 4), (RX1, TX1, 3), (RX2, TX2, 4), (RX3, TX3, 18), (RX4, TX4, 11), (RX5, TX5, 5), (RX6, TX6, 12), (RX7, TX7, 11), (RX8, TX8, 28)]
/-! THE ABSTRACT HEAP: cell k lies at the address B.1 + k; in an abstract value .ref k is that cell, .retAddr 0 the law's script (at B.2) -/
abbrev AC : Type := (Nat × List Value) ⊕ (Nat × (List Int32 ⊕ (List Int64 ⊕ List (Option Nat))))
abbrev Lv : Type := List (Option Value)
/-- where our cells begin, the script, the things that are there already (String constants i, their rows 10 + i, the tables 20, 21, 22), the formatter -/
abbrev BB : Type := Nat × Nat × (Nat → Nat) × Option Nat
def dv (B : BB) (v : Value) : Value := match v with
  | .ref k => .ref (B.1 + k)
  | .retAddr _ => .ref B.2.1
  | .int x => .int x
  | .long x => .long x
  | .float x => if x.toNat < 30 then .ref (B.2.2.1 x.toNat) else va_rf B.2.2.2
  | .double x => .double x
  | .null => .null
def dc (B : BB) (cA : Nat → ClassId) (c : AC) : va_E := match c with
  | .inl (ci, fs) => .inr (ci, fs.map (dv B))
  | .inr (t, .inl xs) => .inl (cA t, xs.length, .inl (fun j => xs.getD j 0))
  | .inr (t, .inr (.inl xs)) => .inl (cA t, xs.length, .inr (.inl (fun j => xs.getD j 0)))
  | .inr (t, .inr (.inr xs)) => .inl (cA t, xs.length, .inr (.inr (.inr (.inr (fun j => (xs.getD j none).map (fun k => B.1 + k))))))
def wo (B : BB) (cA : Nat → ClassId) (h : List AC) : va_W := h.mapIdx (fun k c => (B.1 + k, dc B cA c))
def sl1 (c : AC) : Nat := match c with
  | .inl (_, fs) => fs.length
  | .inr (_, .inl xs) => xs.length
  | .inr (_, .inr (.inl xs)) => xs.length
  | .inr (_, .inr (.inr xs)) => xs.length
def sl (h : List AC) : Nat := (h.map sl1).sum
theorem rf_cat (o : Option Nat) : (va_rf o).category = 1 := by cases o <;> rfl
theorem dv_cat (B : BB) (v : Value) : (dv B v).category = v.category := by
  cases v with
  | float x =>
    show (if x.toNat < 30 then Value.ref (B.2.2.1 x.toNat) else va_rf B.2.2.2).category = 1
    split
    · rfl
    · exact rf_cat _
  | _ => rfl
theorem wo_get {B : BB} {cA : Nat → ClassId} {h : List AC} {k : Nat} {c : AC} (hk : h[k]? = some c) : (wo B cA h)[k]? = some (B.1 + k, dc B cA c) := by
  unfold wo
  rw [List.getElem?_mapIdx, hk]
  rfl
theorem wo_set (B : BB) (cA : Nat → ClassId) (h : List AC) (k : Nat) (c : AC) : (wo B cA h).set k (B.1 + k, dc B cA c) = wo B cA (h.set k c) := by
  apply List.ext_getElem?
  intro i
  unfold wo
  rw [List.getElem?_mapIdx, List.getElem?_set, List.getElem?_set, List.getElem?_mapIdx, List.length_mapIdx]
  by_cases hk : k = i
  · subst hk
    by_cases hl : k < h.length
    · simp [hl]
    · simp [hl]
  · simp [hk]
theorem wo_push (B : BB) (cA : Nat → ClassId) (h : List AC) (c : AC) : wo B cA h ++ [(B.1 + h.length, dc B cA c)] = wo B cA (h ++ [c]) := by
  unfold wo
  rw [List.mapIdx_append]
  simp
theorem wo_D (B : BB) (cA : Nat → ClassId) (h : List AC) : va_D (fun q => B.1 ≤ q) (wo B cA h) := by
  have hk : ∀ (i : Nat) (q : Nat × va_E), (wo B cA h)[i]? = some q → q.1 = B.1 + i := by
    intro i q hq
    unfold wo at hq
    rw [List.getElem?_mapIdx] at hq
    cases hc : h[i]? with
    | none => rw [hc] at hq; cases hq
    | some c => rw [hc] at hq; cases hq; rfl
  refine ⟨fun i j p q hi hj hpq => ?_, fun k q hq => ?_⟩
  · have h1 := hk i p hi
    have h2 := hk j q hj
    omega
  · have h1 := hk k q hq
    show B.1 ≤ q.1
    omega
theorem sl_set {h : List AC} {k : Nat} {c c' : AC} (hk : h[k]? = some c) (hs : sl1 c' = sl1 c) : sl (h.set k c') = sl h := by
  unfold sl
  have e : (h.set k c').map sl1 = h.map sl1 := by
    apply List.ext_getElem?
    intro i
    rw [List.map_set, List.getElem?_set]
    by_cases hi : k = i
    · subst hi
      have hl : k < h.length := (List.getElem?_eq_some_iff.mp hk).1
      rw [if_pos rfl, List.length_map, if_pos hl, List.getElem?_map, hk, hs]
      rfl
    · rw [if_neg hi]
  rw [e]
theorem sl_push (h : List AC) (c : AC) : sl (h ++ [c]) = sl h + sl1 c := by
  unfold sl
  simp
/-! locals: by their places -/
def dl (B : BB) (lv : Lv) : List (Nat × Value) := lv.zipIdx.filterMap (fun q => q.1.map (fun v => (q.2, dv B v)))
theorem mem_dl {B : BB} {lv : Lv} {q : Nat × Value} : q ∈ dl B lv ↔ ∃ v, lv[q.1]? = some (some v) ∧ q.2 = dv B v := by
  unfold dl
  rw [List.mem_filterMap]
  constructor
  · rintro ⟨⟨o, i⟩, hm, hq⟩
    rw [List.mk_mem_zipIdx_iff_getElem?] at hm
    cases o with
    | none => cases hq
    | some v =>
      cases hq
      exact ⟨v, hm, rfl⟩
  · rintro ⟨v, hv, hq⟩
    refine ⟨(some v, q.1), List.mk_mem_zipIdx_iff_getElem?.mpr hv, ?_⟩
    show some (q.1, dv B v) = some q
    rw [← hq]
def lk (lv : Lv) (i : Nat) : Option Value := match lv[i]? with
  | some o => o
  | none => none
theorem lk_some {lv : Lv} {i : Nat} {v : Value} (h : lk lv i = some v) : lv[i]? = some (some v) := by
  unfold lk at h
  split at h
  · next o ho => rw [ho, h]
  · cases h
theorem lk_mem {B : BB} {lv : Lv} {i : Nat} {v : Value} (h : lk lv i = some v) : (i, dv B v) ∈ dl B lv := mem_dl.mpr ⟨v, lk_some h, rfl⟩
theorem lk_at {B : BB} {ls : Array Slot} {nL : Nat} {lv : Lv} {i : Nat} {v : Value} (hl : lv_has ls nL (dl B lv)) (h : lk lv i = some v) : ls[i]? = some (.val (dv B v)) :=
  hl.2.2 (i, dv B v) (lk_mem h)
def two (o : Option Value) : Bool := match o with
  | some v => v.category == 2
  | none => false
def st1 (lv : Lv) (i : Nat) (v : Value) : Lv := lv.mapIdx (fun j w => if j = i then some v else if j + 1 = i && two w then none else w)
def st2 (lv : Lv) (i : Nat) (v : Value) : Lv := lv.mapIdx (fun j w => if j = i then some v else if j = i + 1 then none else if j + 1 = i && two w then none else w)
theorem has_st1 {B : BB} {ls : Array Slot} {nL : Nat} {lv : Lv} {i : Nat} {v : Value} (h : lv_has ls nL ((i, dv B v) :: (dl B lv).filter (fun q => !(q.1 == i) && !(q.1 + 1 == i && q.2.category == 2)))) : lv_has ls nL (dl B (st1 lv i v)) := by
  refine ⟨h.1, h.2.1, fun q hq => h.2.2 q ?_⟩
  obtain ⟨w, hw, e⟩ := mem_dl.mp hq
  unfold st1 at hw
  rw [List.getElem?_mapIdx] at hw
  cases ho : lv[q.1]? with
  | none => rw [ho] at hw; cases hw
  | some o =>
    rw [ho] at hw
    simp only [Option.map_some, Option.some.injEq] at hw
    by_cases h1 : q.1 = i
    · rw [if_pos h1] at hw
      cases hw
      rw [show q = (i, dv B v) from by rw [← h1, ← e]]
      exact List.mem_cons_self
    · rw [if_neg h1] at hw
      split at hw
      · cases hw
      · next h2 =>
        subst hw
        refine List.mem_cons_of_mem _ (List.mem_filter.mpr ⟨mem_dl.mpr ⟨w, ho, e⟩, ?_⟩)
        rw [e, dv_cat]
        simp only [two, Bool.and_eq_true, decide_eq_true_eq] at h2
        simp only [Bool.and_eq_true, Bool.not_eq_true', beq_eq_false_iff_ne, ne_eq, Bool.and_eq_false_iff]
        refine ⟨h1, ?_⟩
        by_cases h3 : q.1 + 1 = i
        · right
          intro h4
          exact h2 ⟨h3, by simp [h4]⟩
        · left
          exact h3
theorem has_st2 {B : BB} {ls : Array Slot} {nL : Nat} {lv : Lv} {i : Nat} {v : Value} (h : lv_has ls nL ((i, dv B v) :: (dl B lv).filter (fun q => !(q.1 == i) && (!(q.1 == i + 1) && !(q.1 + 1 == i && q.2.category == 2))))) : lv_has ls nL (dl B (st2 lv i v)) := by
  refine ⟨h.1, h.2.1, fun q hq => h.2.2 q ?_⟩
  obtain ⟨w, hw, e⟩ := mem_dl.mp hq
  unfold st2 at hw
  rw [List.getElem?_mapIdx] at hw
  cases ho : lv[q.1]? with
  | none => rw [ho] at hw; cases hw
  | some o =>
    rw [ho] at hw
    simp only [Option.map_some, Option.some.injEq] at hw
    by_cases h1 : q.1 = i
    · rw [if_pos h1] at hw
      cases hw
      rw [show q = (i, dv B v) from by rw [← h1, ← e]]
      exact List.mem_cons_self
    · rw [if_neg h1] at hw
      by_cases h0 : q.1 = i + 1
      · rw [if_pos h0] at hw
        cases hw
      · rw [if_neg h0] at hw
        split at hw
        · cases hw
        · next h2 =>
          subst hw
          refine List.mem_cons_of_mem _ (List.mem_filter.mpr ⟨mem_dl.mpr ⟨w, ho, e⟩, ?_⟩)
          rw [e, dv_cat]
          simp only [two, Bool.and_eq_true, decide_eq_true_eq] at h2
          simp only [Bool.and_eq_true, Bool.not_eq_true', beq_eq_false_iff_ne, ne_eq, Bool.and_eq_false_iff]
          refine ⟨h1, h0, ?_⟩
          by_cases h3 : q.1 + 1 = i
          · right
            intro h4
            exact h2 ⟨h3, by simp [h4]⟩
          · left
            exact h3
/-- the locals at a method's entry -/
def ini : List Value → List (Option Value)
  | [] => []
  | v :: r => if v.category = 2 then some v :: none :: ini r else some v :: ini r
def lvE (nL : Nat) (as : List Value) : Lv := ini as ++ List.replicate (nL - (ini as).length) none
theorem ini_mem {B : BB} (vs : List Value) : ∀ (k i : Nat) (v : Value), (ini vs)[i]? = some (some v) → (k + i, dv B v) ∈ lv_args k (vs.map (dv B)) := by
  induction vs with
  | nil => intro k i v h; cases h
  | cons x r ih =>
    intro k i v h
    unfold ini at h
    show (k + i, dv B v) ∈ (k, dv B x) :: lv_args (if (dv B x).category = 2 then k + 2 else k + 1) (r.map (dv B))
    rw [dv_cat]
    by_cases hc : x.category = 2
    · rw [if_pos hc] at h
      rw [if_pos hc]
      cases i with
      | zero => cases h; exact List.mem_cons_self
      | succ i => cases i with
        | zero => cases h
        | succ i =>
          have h2 := ih (k + 2) i v h
          rw [show k + (i + 1 + 1) = k + 2 + i by omega]
          exact List.mem_cons_of_mem _ h2
    · rw [if_neg hc] at h
      rw [if_neg hc]
      cases i with
      | zero => cases h; exact List.mem_cons_self
      | succ i =>
        have h2 := ih (k + 1) i v h
        rw [show k + (i + 1) = k + 1 + i by omega]
        exact List.mem_cons_of_mem _ h2
theorem has_lvE {B : BB} {ls : Array Slot} {nL nE : Nat} {as : List Value} (h : lv_has ls nL (lv_args 0 (as.map (dv B)))) : lv_has ls nL (dl B (lvE nE as)) := by
  refine ⟨h.1, h.2.1, fun q hq => h.2.2 q ?_⟩
  obtain ⟨w, hw, e⟩ := mem_dl.mp hq
  have h3 : (ini as)[q.1]? = some (some w) := by
    unfold lvE at hw
    by_cases hl : q.1 < (ini as).length
    · rw [List.getElem?_append_left hl] at hw
      exact hw
    · rw [List.getElem?_append_right (by omega), List.getElem?_replicate] at hw
      split at hw
      · cases hw
      · cases hw
  have h2 := ini_mem (B := B) as 0 q.1 w h3
  rw [Nat.zero_add, ← e] at h2
  exact h2
/-! the words: those that a callee may be given, and those of the nest -/
def isNest (w : Cond) : Bool := match w with
  | .methodLinkNest _ _ _ _ => true
  | .fieldLinkNest _ _ _ _ _ _ => true
  | _ => false
def tT : List Cond := lw_tbl.filter goodWord
def tN : List Cond := lw_tbl.filter isNest
def tysA (cA : Nat → ClassId) : List (ClassId × FieldType) := [(cA 0, .int), (cA 1, .byte), (cA 2, .long), (cA 3, .object "TankerDesk$State")]
theorem tT_at (i : Nat) {w : Cond} (h : lw_tbl[i]? = some w) (hg : goodWord w = true) : w ∈ tT := List.mem_filter.mpr ⟨List.mem_of_getElem? h, hg⟩
theorem tN_at (i : Nat) {w : Cond} (h : lw_tbl[i]? = some w) (hg : isNest w = true) : w ∈ tN := List.mem_filter.mpr ⟨List.mem_of_getElem? h, hg⟩
theorem u_ws_good {C : String} {T : u_T} {N : Nat} (h : ∀ w ∈ u_ws C T N, w ∈ lw_tbl) : ∀ w ∈ u_ws C T N, w ∈ tT := by
  intro w hw
  refine List.mem_filter.mpr ⟨h w hw, ?_⟩
  obtain ⟨k, -, rfl⟩ := List.mem_map.mp hw
  unfold u_lay
  split <;> rfl
/-- what else is asked of the machine: the nest's links, the class of rows of states -/
def Xt (s : State) : Prop := (∀ w ∈ tN, va_Nw w s) ∧ va_AO "TankerDesk$State" s
theorem Xt.same {u U : State} (h : u.vm = U.vm) (hx : Xt u) : Xt U := by
  refine ⟨fun w hw => ?_, va_AO.moved (by rw [h]; exact Vm.Alike.refl U.vm) hx.2⟩
  have hn := (List.mem_filter.mp hw).2
  cases w with
  | methodLinkNest a i x b => exact va_Nw.same rfl h (hx.1 _ hw)
  | fieldLinkNest a i x b c d => exact va_Nw.same rfl h (hx.1 _ hw)
  | _ => cases hn
theorem Xt.warm {u U : State} (h : u.WarmedH U.vm) (hx : Xt u) : Xt U := by
  refine ⟨fun w hw => ?_, va_AO.moved h.alike hx.2⟩
  have hn := (List.mem_filter.mp hw).2
  cases w with
  | methodLinkNest a i x b => exact va_Nw.warmM h (hx.1 _ hw)
  | fieldLinkNest a i x b c d => exact va_Nw.warmF h (hx.1 _ hw)
  | _ => cases hn
/-- what else is known of the machine, and doesn't change with our cells -/
def GCl (B : BB) (G : State → Prop) : Prop := ∀ u U : State, u.WarmedH U.vm → (∀ q, q < B.1 → U.heap[q]? = u.heap[q]?) → G u → G U
/-! the machine beside an abstract state -/
def Cx (own : String) (cc : ByteArray) (nL : Nat) (ret : Option FieldType) (ini : Bool) (D : va_G) (cA : Nat → ClassId) (B : BB) (G : State → Prop) (p : Program) (s : State) (m : MethodId) (args : Array Value) (meth : Method) (c : Code) : Prop :=
  p.tables.exec = Jvm.exec ∧ c.code = cc ∧ c.maxLocals = nL ∧ s.vm.findClass own = some m.cls ∧ (∀ w ∈ tT, w.before args s = true) ∧ meth.sig.returnType = ret ∧ meth.locks = false ∧ (ini = true → meth.name = "<init>") ∧ va_K D vC (tysA cA) s ∧ (Xt s ∧ G s ∧ GCl B G) ∧ B.1 ≤ s.heap.size
def Wd (D : va_G) (cA : Nat → ClassId) (B : BB) (s : State) (h : List AC) (H : Heap) (locs : List Loc) : Prop :=
  va_P D vC (wo B cA h) H ∧ va_S (fun q => B.1 ≤ q) s.heap H locs
abbrev Call : Type := Nat → List Value → List AC → Option (Option Value × List AC)
abbrev Out : Type := (Nat × Lv × List Value × List AC) ⊕ (Option Value × List AC)
abbrev Ent : Type := Nat × (Call → Lv → List Value → List AC → Option Out)
/-- what a method leaves behind -/
def Qr (D : va_G) (cA : Nat → ClassId) (B : BB) (r : Option Value) (h : List AC) : Array Value → State → Outcome → State → Prop := fun _ st oc t =>
  oc = .returned (r.map (dv B)) ∧ va_P D vC (wo B cA h) t.heap ∧ va_F (fun q => B.1 ≤ q) st t
/-- an instruction's step, told abstractly, is what the machine does -/
def EOk (l : Launch) (own : String) (cc : ByteArray) (nL : Nat) (ret : Option FieldType) (ini : Bool) (D : va_G) (cA : Nat → ClassId) (B : BB) (G : State → Prop) (md : Bool) (d : Nat) (call : Call) (en : Ent) : Prop :=
  ∀ (lv : Lv) (st : List Value) (h : List AC) (out : Out), en.2 call lv st h = some out → match out with
    | .inl (pc', lv', st', h') => h.length ≤ h'.length ∧ sl h ≤ sl h' ∧ ∀ (p : Program) (e : Env) (R : Room) (s : State) (m : MethodId) (args : Array Value) (below : List Frame) (meth : Method) (c : Code) (Q : State → Prop), Cx own cc nL ret ini D cA B G p s m args meth c → d + 1 ≤ R.frames → 100 * (d + 1) ≤ R.locals →
        ∀ (H : Heap) (locs : List Loc) (ls : Array Slot) (c0 s0 x0 y0 : Nat), Wd D cA B s h H locs → lv_has ls nL (dl B lv) → (md = true → x0 = 0 ∧ s.heap.size = B.1 + c0) → c0 ≤ h.length → s0 ≤ sl h → x0 + (h'.length - c0) ≤ R.cells → y0 + (sl h' - s0) ≤ R.slots →
        (∀ (H' : Heap) (locs' : List Loc) (ls' : Array Slot), Wd D cA B s h' H' locs' → lv_has ls' nL (dl B lv') → W p l e R s m args below meth c H' locs' (x0 + (h'.length - c0)) (y0 + (sl h' - s0)) Q (F0 m pc' ls' (st'.map (dv B)))) →
        W p l e R s m args below meth c H locs (x0 + (h.length - c0)) (y0 + (sl h - s0)) Q (F0 m en.1 ls (st.map (dv B)))
    | .inr (r, h') => h' = h ∧ ∀ (p : Program) (e : Env) (R : Room) (s : State) (m : MethodId) (args : Array Value) (below : List Frame) (meth : Method) (c : Code), Cx own cc nL ret ini D cA B G p s m args meth c → ∀ (H : Heap) (locs : List Loc) (ls : Array Slot) (cells slots : Nat), Wd D cA B s h H locs →
        W p l e R s m args below meth c H locs cells slots (MQ below (Qr D cA B r h) args s cells slots (fun q => B.1 ≤ q)) (F0 m en.1 ls (st.map (dv B)))
/-- a step that doesn't touch the heap -/
def ePure (pc : Nat) (f : Lv → List Value → Option (Nat × Lv × List Value)) : Ent := (pc, fun _ lv st h => match f lv st with
  | some (pc', lv', st') => some (.inl (pc', lv', st', h))
  | none => none)
def PRow (l : Launch) (own : String) (cc : ByteArray) (nL : Nat) (ret : Option FieldType) (ini : Bool) (D : va_G) (cA : Nat → ClassId) (B : BB) (G : State → Prop) (pc : Nat) (f : Lv → List Value → Option (Nat × Lv × List Value)) : Prop :=
  ∀ (lv : Lv) (st : List Value) (pc' : Nat) (lv' : Lv) (st' : List Value), f lv st = some (pc', lv', st') → ∀ (p : Program) (e : Env) (R : Room) (s : State) (m : MethodId) (args : Array Value) (below : List Frame) (meth : Method) (c : Code) (Q : State → Prop), Cx own cc nL ret ini D cA B G p s m args meth c →
    ∀ (H : Heap) (locs : List Loc) (ls : Array Slot) (cells slots : Nat), lv_has ls nL (dl B lv) → (∀ ls' : Array Slot, lv_has ls' nL (dl B lv') → W p l e R s m args below meth c H locs cells slots Q (F0 m pc' ls' (st'.map (dv B)))) → W p l e R s m args below meth c H locs cells slots Q (F0 m pc ls (st.map (dv B)))
theorem eok_pure {l : Launch} {own : String} {cc : ByteArray} {nL : Nat} {ret : Option FieldType} {ini : Bool} {D : va_G} {cA : Nat → ClassId} {B : BB} {G : State → Prop} {md : Bool} {d : Nat} {call : Call} {pc : Nat} {f : Lv → List Value → Option (Nat × Lv × List Value)} (hr : PRow l own cc nL ret ini D cA B G pc f) : EOk l own cc nL ret ini D cA B G md d call (ePure pc f) := by
  intro lv st h out ho
  simp only [ePure] at ho
  split at ho
  · next pc' lv' st' hf =>
    cases ho
    refine ⟨Nat.le_refl _, Nat.le_refl _, ?_⟩
    intro p e R s m args below meth c Q C _ _ H locs ls c0 s0 x0 y0 hW hl _ _ _ _ _ kk
    exact hr lv st pc' lv' st' hf p e R s m args below meth c Q C H locs ls _ _ hl (fun ls' hl' => kk H locs ls' hW hl')
  · cases ho
