/-! calls -/
abbrev MI : Type := MethodName × ByteArray × Nat × Option FieldType × Bool
def rmD (d mc ms : Nat) : Room := { frames := d, cells := mc, slots := ms, locals := 100 * d }
def PreU (D : va_G) (cA : Nat → ClassId) (B : BB) (G : State → Prop) (md : Bool) (h : List AC) (U : State) : Prop :=
  B.1 ≤ U.heap.size ∧ va_P D vC (wo B cA h) U.heap ∧ va_K D vC (tysA cA) U ∧ (Xt U ∧ G U ∧ GCl B G) ∧ (md = true → U.heap.size = B.1 + h.length)
def mWs (y : MethodName) (bytes : ByteArray) (maxL : Nat) (rt : Option FieldType) : List Cond := Cond.code y bytes maxL rt :: tT
/-- what a call means: the method's contract -/
def COk (l : Launch) (D : va_G) (cA : Nat → ClassId) (B : BB) (G : State → Prop) (md : Bool) (d : Nat) (mI : Nat → MI) (call : Call) : Prop :=
  ∀ (id : Nat) (as : List Value) (h : List AC) (r : Option Value) (h' : List AC), call id as h = some (r, h') → h.length ≤ h'.length ∧ sl h ≤ sl h' ∧
    Met l (mI id).1 (mWs (mI id).1 (mI id).2.1 (mI id).2.2.1 (mI id).2.2.2.1) (rmD d (h'.length - h.length) (sl h' - sl h)) (va_Pc (as.map (dv B)) (PreU D cA B G md h)) (Qr D cA B r h') (h'.length - h.length) (sl h' - sl h) (fun q => B.1 ≤ q)
theorem tT_good {y : MethodName} {bytes : ByteArray} {maxL : Nat} {rt : Option FieldType} (hw : Cond.code y bytes maxL rt ∈ tT) : GoodIn tT (mWs y bytes maxL rt) := by
  have hg : ∀ w ∈ tT, w ∈ tT ∧ ((w.onTables && w.keeps) = true ∨ ∃ ty, w = .arrayClass ty) := fun w h => ⟨h, good_of_word (List.mem_filter.mp h).2⟩
  intro w h
  rcases List.mem_cons.mp h with rfl | h
  · exact hg _ hw
  · exact hg _ h
theorem blind {D : va_G} {cA : Nat → ClassId} {B : BB} {G : State → Prop} {md : Bool} {h : List AC} {av : List Value} : FrameBlind (va_Pc av (PreU D cA B G md h)) := by
  intro a U g mk q
  obtain ⟨q0, q1, q2, q3, q4, q5⟩ := q
  exact ⟨q0, q1, q2, va_K.moved (u := U) (U := U.calling g mk a) (Vm.Alike.refl U.vm) q3, ⟨Xt.same (u := U) (U := U.calling g mk a) rfl q4.1, q4.2.2 U (U.calling g mk a) (State.WarmedH.refl U) (fun _ _ => rfl) q4.2.1, q4.2.2⟩, q5⟩
/-- the heap's size, where only our cells were made -/
theorem size_q {l : Launch} {p : Program} {e : Env} {R : Room} {s : State} {m : MethodId} {args : Array Value} {below : List Frame} {meth : Method} {c : Code} {D : va_G} {cA : Nat → ClassId} {B : BB} {h : List AC} {H : Heap} {locs : List Loc} {c0 x0 slots : Nat} {T : State} (hW : Wd D cA B s h H locs) (hT : T.heap = H) (X : Stand p l e R s m args below meth c T locs (x0 + (h.length - c0)) slots) (hs : x0 = 0 ∧ s.heap.size = B.1 + c0) (hc : c0 ≤ h.length) : H.size = B.1 + h.length := by
  have h2 : T.heap.size ≤ s.heap.size + (x0 + (h.length - c0)) := X.same.2.2.1
  obtain ⟨hx0, hs⟩ := hs
  have h3 : s.heap.size ≤ H.size := hW.2.1
  rw [hT] at h2
  rcases Nat.eq_zero_or_pos h.length with h0 | h0
  · omega
  · have hk : h.length - 1 < h.length := by omega
    have h4 : B.1 + (h.length - 1) < H.size := (hW.1 _ _ (wo_get (List.getElem?_eq_getElem hk))).lt
    omega
theorem wcall {l : Launch} {p : Program} {e : Env} {R : Room} {s : State} {m : MethodId} {args : Array Value} {below : List Frame} {meth : Method} {c : Code} {D : va_G} {cA : Nat → ClassId} {B : BB} {h' : List AC} {r : Option Value} {H : Heap} {locs : List Loc} {cells slots mc ms pc : Nat} {ls : Array Slot} {st0 rest : List Value} {a : Array Value} {Q : State → Prop}
    (hr : va_Run p l e R s m args below meth c H locs cells slots mc ms (F0 m pc ls st0) rest (Qr D cA B r h' a) (fun q => B.1 ≤ q)) (hS : va_S (fun q => B.1 ≤ q) s.heap H locs)
    (kk : ∀ (H1 : Heap) (locs1 : List Loc), Wd D cA B s h' H1 locs1 → W p l e R s m args below meth c H1 locs1 (cells + mc) (slots + ms) Q (F0 m (pc + 3) ls ((r.map (dv B)).toList ++ rest))) : W p l e R s m args below meth c H locs cells slots Q (F0 m pc ls st0) := by
  intro T hT X
  obtain ⟨v, st₀, t, T', L, h0, X', hL, e1, e2, ⟨hv, hP1, hz, hk⟩, st⟩ := hr T hT X
  cases hv
  rw [h0] at hz hk
  obtain ⟨t2, a1, b1⟩ := kk T'.heap (locs ++ L) ⟨by rw [e1]; exact hP1, ⟨Nat.le_trans hS.1 (by rw [e1]; exact hz), fun q h1 h2 => by rw [e1, hk q (Nat.lt_of_lt_of_le h1 hS.1) h2]; exact hS.2.1 q h1 h2, fun q hq => by
      rcases List.mem_append.mp hq with h | h
      · exact hS.2.2 q h
      · exact hL q h⟩⟩ T' rfl X'
  exact ⟨t2, st t2 a1, b1⟩
theorem take_drop_cons {α : Type} {xs : List α} {n : Nat} {b : α} {r : List α} (h : xs.drop n = b :: r) : xs = xs.take n ++ b :: r ∧ (xs.take n).length = n := by
  have h1 := List.take_append_drop n xs
  rw [h] at h1
  refine ⟨h1.symm, ?_⟩
  have h2 : (xs.drop n).length = (b :: r).length := by rw [h]
  simp only [List.length_drop, List.length_cons] at h2
  rw [List.length_take]
  omega
def cats (st : List Value) : Nat := (st.map fun v => v.category).sum
theorem cats_dv (B : BB) (st : List Value) : ((st.map (dv B)).map fun v => v.category).sum = cats st := by
  unfold cats
  rw [List.map_map]
  congr 1
  apply List.map_congr_left
  intro v _
  exact dv_cat B v
theorem optmap (B : BB) (r : Option Value) (rest : List Value) : (r.map (dv B)).toList ++ rest.map (dv B) = (r.toList ++ rest).map (dv B) := by cases r <;> simp
/-- a method of an object of class ci (n arguments beside it) -/
def eCallV (pc n id ci : Nat) : Ent := (pc, fun call lv st h => match st.drop n with
  | .ref b :: r => match h[b]? with
    | some (.inl (cj, _)) => if cj = ci ∧ cats r ≤ 8 then match call id (.ref b :: (st.take n).reverse) h with
        | some (v, h') => some (.inl (pc + 3, lv, v.toList ++ r, h'))
        | none => none
      else none
    | _ => none
  | _ => none)
theorem ok_callV {l : Launch} {own : String} {cc : ByteArray} {nL : Nat} {ret : Option FieldType} {ini : Bool} {D : va_G} {cA : Nat → ClassId} {B : BB} {G : State → Prop} {md : Bool} {d : Nat} {call : Call} {mI : Nat → MI} {pc n id ci N idx maxL : Nat} {C : String} {T : u_T} {y : MethodName} {bytes : ByteArray} {rt : Option FieldType} {z : Bool} (hok : COk l D cA B G md d mI call) (hid : mI id = (y, bytes, maxL, rt, z)) (hc : vC[ci]? = some (C, T, N)) (hwl : Cond.methodLink own idx y ∈ tT) (hwi : Cond.instanceMethod y ∈ tT) (hws : Cond.selects C y y ∈ tT) (hwn : Cond.initialized y.cls ∈ tT) (hwc : Cond.code y bytes maxL rt ∈ tT) (hd9 : y.cls ≠ "java/lang/invoke/MethodHandle" ∧ y.cls ≠ "java/lang/invoke/VarHandle" ∧ (parseMethodDescriptor y.desc).map (fun d => d.parameters.length) = some n) (hL : maxL ≤ 80) (hd : decode cc pc = .ok (.invokevirtual idx, 3)) : EOk l own cc nL ret ini D cA B G md d call (eCallV pc n id ci) := by
  intro lv st h out ho
  simp only [eCallV] at ho
  split at ho
  · next b r hdr =>
    obtain ⟨hst, hln⟩ := take_drop_cons hdr
    split at ho
    · next cj fs hb =>
      split at ho
      · next hg =>
        obtain ⟨rfl, hcat⟩ := hg
        split at ho
        · next v h' hcl =>
          cases ho
          obtain ⟨m1, m2, hM⟩ := hok _ _ _ _ _ hcl
          refine ⟨m1, m2, ?_⟩
          rw [hid] at hM
          intro p e R s m args below meth c Q Cx hfr hlo H locs ls c0 s0 x0 y0 hW hl hm h1 h2 h3 h4 kk
          intro T hT X
          have hsz : md = true → H.size = B.1 + h.length := fun q => size_q hW hT X (hm q) h1
          have e1 : x0 + (h.length - c0) + (h'.length - h.length) = x0 + (h'.length - c0) := by omega
          have e2 : y0 + (sl h - s0) + (sl h' - sl h) = y0 + (sl h' - s0) := by omega
          refine wcall (pc := pc) (rest := r.map (dv B)) (va_runV (As := ((st.take n).reverse).map (dv B)) (C := C) ⟨Cx.1, Cx.2.1, Cx.2.2.1, Cx.2.2.2.1, Cx.2.2.2.2.1⟩ hM ⟨callB_of n Cx.2.2.2.2.1 (tT_good hwc) rfl rfl rfl (Cx.2.2.2.2.1 _ hwn) (Cx.2.2.2.2.1 _ hwl) hd9 ⟨hfr, ?_⟩, Cx.2.2.2.2.1 _ hwi, Cx.2.2.2.2.1 _ hws⟩ ⟨blind, va_recv Cx.2.2.2.2.2.2.2.2.1 hW.1 hc (wo_get hb), fun U hU hWm => ⟨rfl, ?_, ?_, va_K.moved hWm.alike Cx.2.2.2.2.2.2.2.2.1, ⟨Xt.warm hWm Cx.2.2.2.2.2.2.2.2.2.1.1, Cx.2.2.2.2.2.2.2.2.2.1.2.2 s U hWm (fun q hq => by rw [hU]; exact hW.2.2.1 q (Nat.lt_of_lt_of_le hq Cx.2.2.2.2.2.2.2.2.2.2) (Nat.not_le.mpr hq)) Cx.2.2.2.2.2.2.2.2.2.1.2.1, Cx.2.2.2.2.2.2.2.2.2.1.2.2⟩, fun q => by rw [hU]; exact hsz q⟩⟩ rfl ?_ hl.1 ?_ (lv_room (by rw [cats_dv]; exact hcat)) hd ⟨?_, ?_⟩) hW.2 (fun H1 locs1 hW1 => ?_) T hT X
          · show 8 + (maxL + 11) + 100 * d ≤ R.locals
            omega
          · rw [hU]
            exact Nat.le_trans Cx.2.2.2.2.2.2.2.2.2.2 hW.2.1
          · rw [hU]
            exact hW.1
          · rw [List.length_map, List.length_reverse]
            exact hln
          · show st.map (dv B) = _
            rw [← List.map_reverse, List.reverse_reverse]
            conv => lhs; rw [hst]
            rw [List.map_append]
            rfl
          · show x0 + (h.length - c0) + (h'.length - h.length) ≤ R.cells
            omega
          · show y0 + (sl h - s0) + (sl h' - sl h) ≤ R.slots
            omega
          · rw [e1, e2, optmap]
            exact kk H1 locs1 ls hW1 hl
        · cases ho
      · cases ho
    · cases ho
  · cases ho
/-- a constructor -/
def eCallI (pc n id : Nat) : Ent := (pc, fun call lv st h => match st.drop n with
  | .ref b :: r => if cats r ≤ 8 then match call id (.ref b :: (st.take n).reverse) h with
        | some (v, h') => some (.inl (pc + 3, lv, v.toList ++ r, h'))
        | none => none
      else none
  | _ => none)
/-- a static method -/
def eCallS (pc n id : Nat) : Ent := (pc, fun call lv st h => if n ≤ st.length ∧ cats (st.drop n) ≤ 8 then match call id (st.take n).reverse h with
        | some (v, h') => some (.inl (pc + 3, lv, v.toList ++ st.drop n, h'))
        | none => none
      else none)
theorem ok_callI {l : Launch} {own : String} {cc : ByteArray} {nL : Nat} {ret : Option FieldType} {ini : Bool} {D : va_G} {cA : Nat → ClassId} {B : BB} {G : State → Prop} {md : Bool} {d : Nat} {call : Call} {mI : Nat → MI} {pc n id idx maxL : Nat} {y : MethodName} {bytes : ByteArray} {z : Bool} (hok : COk l D cA B G md d mI call) (hid : mI id = (y, bytes, maxL, none, z)) (hwl : Cond.methodLink own idx y ∈ tT) (hwi : Cond.instanceMethod y ∈ tT) (hwn : Cond.initialized y.cls ∈ tT) (hwc : Cond.code y bytes maxL none ∈ tT) (hyn : y.name = "<init>") (hd9 : y.cls ≠ "java/lang/invoke/MethodHandle" ∧ y.cls ≠ "java/lang/invoke/VarHandle" ∧ (parseMethodDescriptor y.desc).map (fun d => d.parameters.length) = some n) (hL : maxL ≤ 80) (hd : decode cc pc = .ok (.invokespecial idx, 3)) : EOk l own cc nL ret ini D cA B G md d call (eCallI pc n id) := by
  intro lv st h out ho
  simp only [eCallI] at ho
  split at ho
  · next b r hdr =>
    obtain ⟨hst, hln⟩ := take_drop_cons hdr
    split at ho
    · next hcat =>
        split at ho
        · next v h' hcl =>
          cases ho
          obtain ⟨m1, m2, hM⟩ := hok _ _ _ _ _ hcl
          refine ⟨m1, m2, ?_⟩
          rw [hid] at hM
          intro p e R s m args below meth c Q Cx hfr hlo H locs ls c0 s0 x0 y0 hW hl hm h1 h2 h3 h4 kk
          intro T hT X
          have hsz : md = true → H.size = B.1 + h.length := fun q => size_q hW hT X (hm q) h1
          have e1 : x0 + (h.length - c0) + (h'.length - h.length) = x0 + (h'.length - c0) := by omega
          have e2 : y0 + (sl h - s0) + (sl h' - sl h) = y0 + (sl h' - s0) := by omega
          refine wcall (pc := pc) (rest := r.map (dv B)) (va_runI (As := ((st.take n).reverse).map (dv B)) ⟨Cx.1, Cx.2.1, Cx.2.2.1, Cx.2.2.2.1, Cx.2.2.2.2.1⟩ hM ⟨callB_of n Cx.2.2.2.2.1 (tT_good hwc) rfl rfl rfl (Cx.2.2.2.2.1 _ hwn) (Cx.2.2.2.2.1 _ hwl) hd9 ⟨hfr, ?_⟩, hyn, Cx.2.2.2.2.1 _ hwi⟩ ⟨blind, fun U hU hWm => ⟨rfl, ?_, ?_, va_K.moved hWm.alike Cx.2.2.2.2.2.2.2.2.1, ⟨Xt.warm hWm Cx.2.2.2.2.2.2.2.2.2.1.1, Cx.2.2.2.2.2.2.2.2.2.1.2.2 s U hWm (fun q hq => by rw [hU]; exact hW.2.2.1 q (Nat.lt_of_lt_of_le hq Cx.2.2.2.2.2.2.2.2.2.2) (Nat.not_le.mpr hq)) Cx.2.2.2.2.2.2.2.2.2.1.2.1, Cx.2.2.2.2.2.2.2.2.2.1.2.2⟩, fun q => by rw [hU]; exact hsz q⟩⟩ rfl ?_ hl.1 ?_ (lv_room (by rw [cats_dv]; exact hcat)) hd ⟨?_, ?_⟩) hW.2 (fun H1 locs1 hW1 => ?_) T hT X
          · show 8 + (maxL + 11) + 100 * d ≤ R.locals
            omega
          · rw [hU]
            exact Nat.le_trans Cx.2.2.2.2.2.2.2.2.2.2 hW.2.1
          · rw [hU]
            exact hW.1
          · rw [List.length_map, List.length_reverse]
            exact hln
          · show st.map (dv B) = _
            rw [← List.map_reverse, List.reverse_reverse]
            conv => lhs; rw [hst]
            rw [List.map_append]
            rfl
          · show x0 + (h.length - c0) + (h'.length - h.length) ≤ R.cells
            omega
          · show y0 + (sl h - s0) + (sl h' - sl h) ≤ R.slots
            omega
          · rw [e1, e2, optmap]
            exact kk H1 locs1 ls hW1 hl
        · cases ho
    · cases ho
  · cases ho
theorem ok_callIN {l : Launch} {own : String} {cc : ByteArray} {nL : Nat} {ret : Option FieldType} {ini : Bool} {D : va_G} {cA : Nat → ClassId} {B : BB} {G : State → Prop} {md : Bool} {d : Nat} {call : Call} {mI : Nat → MI} {pc n id idx maxL : Nat} {y : MethodName} {bytes : ByteArray} {z : Bool} (hok : COk l D cA B G md d mI call) (hid : mI id = (y, bytes, maxL, none, z)) {host : String} (hwl : Cond.methodLinkNest own idx y host ∈ tN) (hwi : Cond.instanceMethod y ∈ tT) (hwn : Cond.initialized y.cls ∈ tT) (hwc : Cond.code y bytes maxL none ∈ tT) (hyn : y.name = "<init>") (hd9 : y.cls ≠ "java/lang/invoke/MethodHandle" ∧ y.cls ≠ "java/lang/invoke/VarHandle" ∧ (parseMethodDescriptor y.desc).map (fun d => d.parameters.length) = some n) (hL : maxL ≤ 80) (hd : decode cc pc = .ok (.invokespecial idx, 3)) : EOk l own cc nL ret ini D cA B G md d call (eCallI pc n id) := by
  intro lv st h out ho
  simp only [eCallI] at ho
  split at ho
  · next b r hdr =>
    obtain ⟨hst, hln⟩ := take_drop_cons hdr
    split at ho
    · next hcat =>
        split at ho
        · next v h' hcl =>
          cases ho
          obtain ⟨m1, m2, hM⟩ := hok _ _ _ _ _ hcl
          refine ⟨m1, m2, ?_⟩
          rw [hid] at hM
          intro p e R s m args below meth c Q Cx hfr hlo H locs ls c0 s0 x0 y0 hW hl hm h1 h2 h3 h4 kk
          intro T hT X
          have hsz : md = true → H.size = B.1 + h.length := fun q => size_q hW hT X (hm q) h1
          have e1 : x0 + (h.length - c0) + (h'.length - h.length) = x0 + (h'.length - c0) := by omega
          have e2 : y0 + (sl h - s0) + (sl h' - sl h) = y0 + (sl h' - s0) := by omega
          refine wcall (pc := pc) (rest := r.map (dv B)) (va_runIN (As := ((st.take n).reverse).map (dv B)) ⟨Cx.1, Cx.2.1, Cx.2.2.1, Cx.2.2.2.1, Cx.2.2.2.2.1⟩ hM ⟨va_cnB n Cx.2.2.2.2.1 (tT_good hwc) rfl rfl rfl (Cx.2.2.2.2.2.2.2.2.2.1.1.1 _ hwl) (Cx.2.2.2.2.1 _ hwn) hd9 ⟨hfr, ?_⟩, hyn, Cx.2.2.2.2.1 _ hwi⟩ ⟨blind, fun U hU hWm => ⟨rfl, ?_, ?_, va_K.moved hWm.alike Cx.2.2.2.2.2.2.2.2.1, ⟨Xt.warm hWm Cx.2.2.2.2.2.2.2.2.2.1.1, Cx.2.2.2.2.2.2.2.2.2.1.2.2 s U hWm (fun q hq => by rw [hU]; exact hW.2.2.1 q (Nat.lt_of_lt_of_le hq Cx.2.2.2.2.2.2.2.2.2.2) (Nat.not_le.mpr hq)) Cx.2.2.2.2.2.2.2.2.2.1.2.1, Cx.2.2.2.2.2.2.2.2.2.1.2.2⟩, fun q => by rw [hU]; exact hsz q⟩⟩ rfl ?_ hl.1 ?_ (lv_room (by rw [cats_dv]; exact hcat)) hd ⟨?_, ?_⟩) hW.2 (fun H1 locs1 hW1 => ?_) T hT X
          · show 8 + (maxL + 11) + 100 * d ≤ R.locals
            omega
          · rw [hU]
            exact Nat.le_trans Cx.2.2.2.2.2.2.2.2.2.2 hW.2.1
          · rw [hU]
            exact hW.1
          · rw [List.length_map, List.length_reverse]
            exact hln
          · show st.map (dv B) = _
            rw [← List.map_reverse, List.reverse_reverse]
            conv => lhs; rw [hst]
            rw [List.map_append]
            rfl
          · show x0 + (h.length - c0) + (h'.length - h.length) ≤ R.cells
            omega
          · show y0 + (sl h - s0) + (sl h' - sl h) ≤ R.slots
            omega
          · rw [e1, e2, optmap]
            exact kk H1 locs1 ls hW1 hl
        · cases ho
    · cases ho
  · cases ho
theorem ok_callS {l : Launch} {own : String} {cc : ByteArray} {nL : Nat} {ret : Option FieldType} {ini : Bool} {D : va_G} {cA : Nat → ClassId} {B : BB} {G : State → Prop} {md : Bool} {d : Nat} {call : Call} {mI : Nat → MI} {pc n id idx maxL : Nat} {y : MethodName} {bytes : ByteArray} {rt : Option FieldType} {z : Bool} (hok : COk l D cA B G md d mI call) (hid : mI id = (y, bytes, maxL, rt, z)) (hwl : Cond.methodLink own idx y ∈ tT) (hwi : Cond.static y ∈ tT) (hwn : Cond.initialized y.cls ∈ tT) (hwc : Cond.code y bytes maxL rt ∈ tT) (hd9 : y.cls ≠ "java/lang/invoke/MethodHandle" ∧ y.cls ≠ "java/lang/invoke/VarHandle" ∧ (parseMethodDescriptor y.desc).map (fun d => d.parameters.length) = some n) (hL : maxL ≤ 80) (hd : decode cc pc = .ok (.invokestatic idx, 3)) : EOk l own cc nL ret ini D cA B G md d call (eCallS pc n id) := by
  intro lv st h out ho
  simp only [eCallS] at ho
  split at ho
  · next hg =>
        obtain ⟨hln, hcat⟩ := hg
        split at ho
        · next v h' hcl =>
          cases ho
          obtain ⟨m1, m2, hM⟩ := hok _ _ _ _ _ hcl
          refine ⟨m1, m2, ?_⟩
          rw [hid] at hM
          intro p e R s m args below meth c Q Cx hfr hlo H locs ls c0 s0 x0 y0 hW hl hm h1 h2 h3 h4 kk
          intro T hT X
          have hsz : md = true → H.size = B.1 + h.length := fun q => size_q hW hT X (hm q) h1
          have e1 : x0 + (h.length - c0) + (h'.length - h.length) = x0 + (h'.length - c0) := by omega
          have e2 : y0 + (sl h - s0) + (sl h' - sl h) = y0 + (sl h' - s0) := by omega
          refine wcall (pc := pc) (rest := (st.drop n).map (dv B)) (va_runS (As := ((st.take n).reverse).map (dv B)) ⟨Cx.1, Cx.2.1, Cx.2.2.1, Cx.2.2.2.1, Cx.2.2.2.2.1⟩ hM ⟨callB_of n Cx.2.2.2.2.1 (tT_good hwc) rfl rfl rfl (Cx.2.2.2.2.1 _ hwn) (Cx.2.2.2.2.1 _ hwl) hd9 ⟨hfr, ?_⟩, Cx.2.2.2.2.1 _ hwi⟩ ⟨blind, fun U hU hWm => ⟨rfl, ?_, ?_, va_K.moved hWm.alike Cx.2.2.2.2.2.2.2.2.1, ⟨Xt.warm hWm Cx.2.2.2.2.2.2.2.2.2.1.1, Cx.2.2.2.2.2.2.2.2.2.1.2.2 s U hWm (fun q hq => by rw [hU]; exact hW.2.2.1 q (Nat.lt_of_lt_of_le hq Cx.2.2.2.2.2.2.2.2.2.2) (Nat.not_le.mpr hq)) Cx.2.2.2.2.2.2.2.2.2.1.2.1, Cx.2.2.2.2.2.2.2.2.2.1.2.2⟩, fun q => by rw [hU]; exact hsz q⟩⟩ rfl ?_ hl.1 ?_ (lv_room (by rw [cats_dv]; exact hcat)) hd ⟨?_, ?_⟩) hW.2 (fun H1 locs1 hW1 => ?_) T hT X
          · show 8 + (maxL + 11) + 100 * d ≤ R.locals
            omega
          · rw [hU]
            exact Nat.le_trans Cx.2.2.2.2.2.2.2.2.2.2 hW.2.1
          · rw [hU]
            exact hW.1
          · rw [List.length_map, List.length_reverse, List.length_take]
            omega
          · show st.map (dv B) = _
            rw [← List.map_reverse, List.reverse_reverse, ← List.map_append, List.take_append_drop]
          · show x0 + (h.length - c0) + (h'.length - h.length) ≤ R.cells
            omega
          · show y0 + (sl h - s0) + (sl h' - sl h) ≤ R.slots
            omega
          · rw [e1, e2, optmap]
            exact kk H1 locs1 ls hW1 hl
        · cases ho
  · cases ho
/-- Object's own constructor -/
def eObj (pc : Nat) : Ent := (pc, fun _ lv st h => match st with
  | .ref _ :: r => if cats r ≤ 8 then some (.inl (pc + 3, lv, r, h)) else none
  | _ => none)
theorem ok_obj {l : Launch} {own : String} {cc : ByteArray} {nL : Nat} {ret : Option FieldType} {ini : Bool} {D : va_G} {cA : Nat → ClassId} {B : BB} {G : State → Prop} {md : Bool} {d : Nat} {call : Call} {pc idx : Nat} (hw1 : Cond.methodLink own idx objectInit ∈ tT) (hw2 : Cond.instanceMethod objectInit ∈ tT) (hw3 : Cond.code objectInit ⟨#[0xb1]⟩ 1 none ∈ tT) (hd : decode cc pc = .ok (.invokespecial idx, 3)) : EOk l own cc nL ret ini D cA B G md d call (eObj pc) := by
  intro lv st h out ho
  simp only [eObj] at ho
  split at ho
  · next b r =>
    split at ho
    · next hcat =>
      cases ho
      refine ⟨Nat.le_refl _, Nat.le_refl _, ?_⟩
      intro p e R s m args below meth c Q Cx hfr hlo H locs ls c0 s0 x0 y0 hW hl hm h1 h2 h3 h4 kk
      refine W.objInit (rest := r.map (dv B)) Cx.1 Cx.2.1 Cx.2.2.2.1 (Cx.2.2.2.2.1 _ hw1) (Cx.2.2.2.2.1 _ hw2) (Cx.2.2.2.2.1 _ hw3) rfl (by rw [Cx.2.2.1]; exact hl.1) rfl hd (by omega) ?_ (kk H locs ls hW hl)
      have := cats_dv B r
      show 2 * 0 + ((r.map (dv B)).map fun v => v.category).sum + 12 ≤ R.locals
      omega
    · cases ho
  · cases ho
/-- System.arraycopy of a whole row onto a row of its length -/
def eCopy (pc : Nat) : Ent := (pc, fun _ lv st h => match st with
  | .int n :: .int dp :: .ref a :: .int sp :: .ref a0 :: r => match h[a0]?, h[a]? with
    | some (.inr (u, .inl xs)), some (.inr (u', .inl ys)) => if u = 0 ∧ u' = 0 ∧ sp = 0 ∧ dp = 0 ∧ ¬ n < 0 ∧ n.toNatClampNeg = xs.length ∧ n.toNatClampNeg = ys.length ∧ cats r ≤ 8 then some (.inl (pc + 3, lv, r, h.set a (.inr (0, .inl xs)))) else none
    | _, _ => none
  | _ => none)
theorem ok_copy {l : Launch} {own : String} {cc : ByteArray} {nL : Nat} {ret : Option FieldType} {ini : Bool} {D : va_G} {cA : Nat → ClassId} {B : BB} {G : State → Prop} {md : Bool} {d : Nat} {call : Call} {pc idx : Nat} (hw1 : Cond.methodLink own idx arraycopyName ∈ tT) (hw2 : Cond.native arraycopyName ∈ tT) (hw3 : Cond.static arraycopyName ∈ tT) (hw4 : Cond.initialized "java/lang/System" ∈ tT) (hd : decode cc pc = .ok (.invokestatic idx, 3)) : EOk l own cc nL ret ini D cA B G md d call (eCopy pc) := by
  intro lv st h out ho
  simp only [eCopy] at ho
  split at ho
  · next n dp a sp a0 r =>
    split at ho
    · next u xs u' ys ha0 ha =>
      split at ho
      · next hg =>
        obtain ⟨rfl, rfl, rfl, rfl, hn, hx, hy, hcat⟩ := hg
        cases ho
        have e2 : sl (h.set a (.inr (0, .inl xs))) = sl h := sl_set ha (by simp only [sl1]; omega)
        refine ⟨by simp, by rw [e2]; exact Nat.le_refl _, ?_⟩
        intro p e R s m args below meth c Q Cx hfr hlo H locs ls c0 s0 x0 y0 hW hl hm h1 h2 h3 h4 kk
        rw [List.length_set, e2] at kk
        refine va_copyi (D := D) (ty := .int) Cx.1 Cx.2.1 (by rw [Cx.2.2.1, hl.1]) Cx.2.2.2.1 (Cx.2.2.2.2.1 _ hw1) (Cx.2.2.2.2.1 _ hw2) (Cx.2.2.2.2.1 _ hw3) (Cx.2.2.2.2.1 _ hw4) Cx.2.2.2.2.2.2.2.2.1 hW.1 (wo_D B cA h) hW.2 a0 a 0 0 (wo_get ha0) (wo_get ha) rfl rfl rfl (by decide) (by decide) hn ?_ ?_ (fun i _ => rfl) (by omega) ?_ hd (fun H1 locs1 hP1 _ hS1 => kk H1 locs1 ls ⟨?_, hS1⟩ hl)
        · show 0 + n.toNatClampNeg ≤ xs.length
          omega
        · show 0 + n.toNatClampNeg ≤ ys.length
          omega
        · have e6 : nativeFrameWords "java/lang/System" "arraycopy" 5 ≤ 60 := by decide
          rw [cats_dv]
          omega
        · rw [← wo_set]
          have e3 : dc B cA (.inr (0, .inl xs)) = .inl (cA 0, ys.length, .inl (va_cpy (fun j => xs.getD j 0) (fun j => ys.getD j 0) 0 0 n.toNatClampNeg)) := by
            simp only [dc]
            rw [← hx, ← hy]
            congr 3
            congr 1
            funext j
            unfold va_cpy
            by_cases z : j < n.toNatClampNeg
            · rw [if_pos ⟨Nat.zero_le _, by omega⟩]
              congr 1
              omega
            · rw [if_neg (fun q => z (by omega))]
              show xs.getD j 0 = ys.getD j 0
              rw [List.getD_eq_getElem?_getD, List.getD_eq_getElem?_getD, List.getElem?_eq_none (by omega), List.getElem?_eq_none (by omega)]
          rw [e3]
          exact hP1
      · cases ho
    · cases ho
  · cases ho
/-- Math.min -/
def eMin (pc : Nat) : Ent := (pc, fun _ lv st h => match st with
  | .int y :: .int x :: r => if cats r ≤ 8 then some (.inl (pc + 3, lv, .int (if y < x then y else x) :: r, h)) else none
  | _ => none)
theorem ok_min {l : Launch} {own : String} {cc : ByteArray} {nL : Nat} {ret : Option FieldType} {ini : Bool} {D : va_G} {cA : Nat → ClassId} {B : BB} {G : State → Prop} {md : Bool} {d : Nat} {call : Call} {pc idx : Nat} (hw1 : Cond.methodLink own idx Lib.Math.min.name ∈ tT) (hw2 : Cond.static Lib.Math.min.name ∈ tT) (hw3 : Cond.initialized "java/lang/Math" ∈ tT) (hw4 : Cond.code Lib.Math.min.name Lib.Math.min.code 2 (some .int) ∈ tT) (hd : decode cc pc = .ok (.invokestatic idx, 3)) : EOk l own cc nL ret ini D cA B G md d call (eMin pc) := by
  intro lv st h out ho
  simp only [eMin] at ho
  split at ho
  · next y x r =>
    split at ho
    · next hcat =>
      cases ho
      refine ⟨Nat.le_refl _, Nat.le_refl _, ?_⟩
      intro p e R s m args below meth c Q Cx hfr hlo H locs ls c0 s0 x0 y0 hW hl hm h1 h2 h3 h4 kk
      refine va_mmin Cx.1 Cx.2.1 (by rw [Cx.2.2.1, hl.1]) Cx.2.2.2.1 (Cx.2.2.2.2.1 _ hw1) (Cx.2.2.2.2.1 _ hw2) (Cx.2.2.2.2.1 _ hw3) (Cx.2.2.2.2.1 _ hw4) (by omega) ?_ h3 h4 hd (kk H locs ls hW hl)
      rw [cats_dv]
      omega
    · cases ho
  · cases ho
/-! a method's body -/
def look (code : List Ent) (pc : Nat) : Option Ent := code.find? (fun e => e.1 == pc)
theorem look_in {code : List Ent} {pc : Nat} {en : Ent} (h : look code pc = some en) : en ∈ code ∧ en.1 = pc :=
  ⟨List.mem_of_find?_eq_some h, by have := List.find?_some h; exact eq_of_beq this⟩
def run (call : Call) (code : List Ent) : Nat → Nat → Lv → List Value → List AC → Option (Option Value × List AC)
  | 0, _, _, _, _ => none
  | n + 1, pc, lv, st, h => match look code pc with
    | none => none
    | some en => match en.2 call lv st h with
        | none => none
        | some (.inr r) => some r
        | some (.inl (pc', lv', st', h')) => run call code n pc' lv' st' h'
theorem run_mono {l : Launch} {own : String} {cc : ByteArray} {nL : Nat} {ret : Option FieldType} {ini : Bool} {D : va_G} {cA : Nat → ClassId} {B : BB} {G : State → Prop} {md : Bool} {d : Nat} {call : Call} {code : List Ent} (hc : ∀ e ∈ code, EOk l own cc nL ret ini D cA B G md d call e) : ∀ (n pc : Nat) (lv : Lv) (st : List Value) (h : List AC) (r : Option Value) (h' : List AC), run call code n pc lv st h = some (r, h') → h.length ≤ h'.length ∧ sl h ≤ sl h' := by
  intro n
  induction n with
  | zero => intro pc lv st h r h' hr; cases hr
  | succ n ih =>
    intro pc lv st h r h' hr
    unfold run at hr
    split at hr
    · cases hr
    · next en hlk =>
      have ho := hc en (look_in hlk).1
      split at hr
      · cases hr
      · next r0 hs =>
        cases hr
        have := ho lv st h _ hs
        obtain ⟨e, -⟩ := this
        subst e
        exact ⟨Nat.le_refl _, Nat.le_refl _⟩
      · next pc' lv' st' h1 hs =>
        obtain ⟨a1, a2, -⟩ := ho lv st h _ hs
        obtain ⟨b1, b2⟩ := ih pc' lv' st' h1 r h' hr
        exact ⟨Nat.le_trans a1 b1, Nat.le_trans a2 b2⟩
theorem run_ok {l : Launch} {own : String} {cc : ByteArray} {nL : Nat} {ret : Option FieldType} {ini : Bool} {D : va_G} {cA : Nat → ClassId} {B : BB} {G : State → Prop} {md : Bool} {d : Nat} {call : Call} {code : List Ent} (hc : ∀ e ∈ code, EOk l own cc nL ret ini D cA B G md d call e) : ∀ (n pc : Nat) (lv : Lv) (st : List Value) (h : List AC) (r : Option Value) (h' : List AC), run call code n pc lv st h = some (r, h') →
    ∀ (p : Program) (e : Env) (R : Room) (s : State) (m : MethodId) (args : Array Value) (below : List Frame) (meth : Method) (c : Code), Cx own cc nL ret ini D cA B G p s m args meth c → d + 1 ≤ R.frames → 100 * (d + 1) ≤ R.locals → ∀ (H : Heap) (locs : List Loc) (ls : Array Slot) (c0 s0 x0 y0 : Nat), Wd D cA B s h H locs → lv_has ls nL (dl B lv) → (md = true → x0 = 0 ∧ s.heap.size = B.1 + c0) → c0 ≤ h.length → s0 ≤ sl h → x0 + (h'.length - c0) ≤ R.cells → y0 + (sl h' - s0) ≤ R.slots →
      W p l e R s m args below meth c H locs (x0 + (h.length - c0)) (y0 + (sl h - s0)) (MQ below (Qr D cA B r h') args s (x0 + (h'.length - c0)) (y0 + (sl h' - s0)) (fun q => B.1 ≤ q)) (F0 m pc ls (st.map (dv B))) := by
  intro n
  induction n with
  | zero => intro pc lv st h r h' hr; cases hr
  | succ n ih =>
    intro pc lv st h r h' hr p e R s m args below meth c C hfr hlo H locs ls c0 s0 x0 y0 hW hl hm h1 h2 h3 h4
    unfold run at hr
    split at hr
    · cases hr
    · next en hlk =>
      have ho := hc en (look_in hlk).1
      have hpc := (look_in hlk).2
      subst hpc
      split at hr
      · cases hr
      · next r0 hs =>
        cases hr
        obtain ⟨e0, k⟩ := ho lv st h _ hs
        subst e0
        exact k p e R s m args below meth c C H locs ls _ _ hW
      · next pc' lv' st' hh hs =>
        obtain ⟨a1, a2, k⟩ := ho lv st h _ hs
        obtain ⟨b1, b2⟩ := run_mono hc n pc' lv' st' hh r h' hr
        exact k p e R s m args below meth c _ C hfr hlo H locs ls c0 s0 x0 y0 hW hl hm h1 h2 (by omega) (by omega) (fun H' locs' ls' hW' hl' => ih pc' lv' st' hh r h' hr p e R s m args below meth c C hfr hlo H' locs' ls' c0 s0 x0 y0 hW' hl' hm (by omega) (by omega) h3 h4)
/-- up to a place -/
def goTo (call : Call) (code : List Ent) (stop : Nat) : Nat → Nat → Lv → List Value → List AC → Option (Lv × List Value × List AC)
  | 0, _, _, _, _ => none
  | n + 1, pc, lv, st, h => if pc = stop then some (lv, st, h) else match look code pc with
    | none => none
    | some en => match en.2 call lv st h with
        | some (.inl (pc', lv', st', h')) => goTo call code stop n pc' lv' st' h'
        | _ => none
theorem goTo_ok {l : Launch} {own : String} {cc : ByteArray} {nL : Nat} {ret : Option FieldType} {ini : Bool} {D : va_G} {cA : Nat → ClassId} {B : BB} {G : State → Prop} {md : Bool} {d : Nat} {call : Call} {code : List Ent} {stop : Nat} (hc : ∀ e ∈ code, EOk l own cc nL ret ini D cA B G md d call e) : ∀ (n pc : Nat) (lv : Lv) (st : List Value) (h : List AC) (lv1 : Lv) (st1 : List Value) (h1 : List AC), goTo call code stop n pc lv st h = some (lv1, st1, h1) → h.length ≤ h1.length ∧ sl h ≤ sl h1 ∧
    ∀ (p : Program) (e : Env) (R : Room) (s : State) (m : MethodId) (args : Array Value) (below : List Frame) (meth : Method) (c : Code) (Q : State → Prop), Cx own cc nL ret ini D cA B G p s m args meth c → d + 1 ≤ R.frames → 100 * (d + 1) ≤ R.locals → ∀ (H : Heap) (locs : List Loc) (ls : Array Slot) (c0 s0 x0 y0 : Nat), Wd D cA B s h H locs → lv_has ls nL (dl B lv) → (md = true → x0 = 0 ∧ s.heap.size = B.1 + c0) → c0 ≤ h.length → s0 ≤ sl h → x0 + (h1.length - c0) ≤ R.cells → y0 + (sl h1 - s0) ≤ R.slots →
      (∀ (H' : Heap) (locs' : List Loc) (ls' : Array Slot), Wd D cA B s h1 H' locs' → lv_has ls' nL (dl B lv1) → W p l e R s m args below meth c H' locs' (x0 + (h1.length - c0)) (y0 + (sl h1 - s0)) Q (F0 m stop ls' (st1.map (dv B)))) →
      W p l e R s m args below meth c H locs (x0 + (h.length - c0)) (y0 + (sl h - s0)) Q (F0 m pc ls (st.map (dv B))) := by
  intro n
  induction n with
  | zero => intro pc lv st h lv1 st1 h1 hr; cases hr
  | succ n ih =>
    intro pc lv st h lv1 st1 h1 hr
    unfold goTo at hr
    split at hr
    · next e =>
      subst e
      cases hr
      refine ⟨Nat.le_refl _, Nat.le_refl _, ?_⟩
      intro p e R s m args below meth c Q C hfr hlo H locs ls c0 s0 x0 y0 hW hl hm h1 h2 h3 h4 kk
      exact kk H locs ls hW hl
    · split at hr
      · cases hr
      · next en hlk =>
        have ho := hc en (look_in hlk).1
        have hpc := (look_in hlk).2
        subst hpc
        split at hr
        · next pc' lv' st' hh hs =>
          obtain ⟨a1, a2, k⟩ := ho lv st h _ hs
          obtain ⟨b1, b2, k2⟩ := ih pc' lv' st' hh lv1 st1 h1 hr
          refine ⟨Nat.le_trans a1 b1, Nat.le_trans a2 b2, ?_⟩
          intro p e R s m args below meth c Q C hfr hlo H locs ls c0 s0 x0 y0 hW hl hm q1 q2 q3 q4 kk
          exact k p e R s m args below meth c Q C hfr hlo H locs ls c0 s0 x0 y0 hW hl hm q1 q2 (by omega) (by omega) (fun H' locs' ls' hW' hl' => k2 p e R s m args below meth c Q C hfr hlo H' locs' ls' c0 s0 x0 y0 hW' hl' hm (by omega) (by omega) q3 q4 kk)
        · cases hr
/-- all methods, d calls deep, f steps each -/
def callD (code : Nat → List Ent) (mI : Nat → MI) (f : Nat) : Nat → Call
  | 0 => fun _ _ _ => none
  | d + 1 => fun id as h => if cats as ≤ (mI id).2.2.1 then run (callD code mI f d) (code id) f 0 (lvE (mI id).2.2.1 as) [] h else none
theorem lg_len (vs : List Value) : (lg_sl vs).length = cats vs := by
  unfold lg_sl cats
  induction vs with
  | nil => rfl
  | cons v r ih =>
    rw [List.flatMap_cons, List.length_append, ih, List.map_cons, List.sum_cons]
    congr 1
    rcases lv_cat v with q | q <;> rw [q] <;> rfl
/-- a method is as its table says -/
def MOk (l : Launch) (D : va_G) (cA : Nat → ClassId) (B : BB) (G : State → Prop) (md : Bool) (mI : Nat → MI) (code : Nat → List Ent) (id : Nat) : Prop :=
  code id = [] ∨ (plainName (mI id).1.cls = true ∧ ((mI id).2.2.2.2 = true → (mI id).1.name = "<init>") ∧ ∀ (d : Nat) (call : Call), COk l D cA B G md d mI call → ∀ e ∈ code id, EOk l (mI id).1.cls (mI id).2.1 (mI id).2.2.1 (mI id).2.2.2.1 (mI id).2.2.2.2 D cA B G md d call e)
theorem call_ok {l : Launch} {D : va_G} {cA : Nat → ClassId} {B : BB} {G : State → Prop} {md : Bool} {mI : Nat → MI} {code : Nat → List Ent} (hm : ∀ id, MOk l D cA B G md mI code id) (f : Nat) : ∀ d, COk l D cA B G md d mI (callD code mI f d) := by
  intro d
  induction d with
  | zero => intro id as h r h' hc; cases hc
  | succ d ih =>
    intro id as h r h' hc
    unfold callD at hc
    split at hc
    · next hcat =>
      rcases hm id with h0 | ⟨hpl, hini, hmk⟩
      · rw [h0] at hc
        cases f with
        | zero => cases hc
        | succ f => unfold run at hc; cases hc
      · have hall := hmk d _ ih
        obtain ⟨a1, a2⟩ := run_mono hall f 0 _ _ h r h' hc
        refine ⟨a1, a2, ?_⟩
        refine Met.ofW (cc := (mI id).2.1) (maxL := (mI id).2.2.1) (ret := (mI id).2.2.2.1) hpl rfl ?_
        intro p e s m args below meth c s₁ Bd hml hv
        obtain ⟨rfl, hv1, hv2, hv3, hv4, hv5⟩ := hv
        have hts := atoms_spec (ws := mWs (mI id).1 (mI id).2.1 (mI id).2.2.1 (mI id).2.2.2.1) Bd.pre
        have hCx : Cx (mI id).1.cls (mI id).2.1 (mI id).2.2.1 (mI id).2.2.2.1 (mI id).2.2.2.2 D cA B G p s m (as.map (dv B)).toArray meth c :=
          ⟨Bd.exec, Bd.bytes, hml, findClass_of_methodNamed Bd.named, fun w hw => hts w (List.mem_cons_of_mem _ hw), Bd.returns, Bd.notSynchronized, fun z => (name_of_methodNamed Bd.named Bd.method).1.trans (hini z), hv3, hv4, hv1⟩
        have hlen : (lg_sl (as.map (dv B))).length ≤ (mI id).2.2.1 := by
          rw [lg_len]
          show ((as.map (dv B)).map fun v => v.category).sum ≤ _
          rw [cats_dv]
          exact hcat
        have hl := lv_entry (as.map (dv B)) hlen
        have hl := has_lvE (nE := (mI id).2.2.1) hl
        rw [lg_entry_eq]
        have k := run_ok hall f 0 (lvE (mI id).2.2.1 as) [] h r h' hc p e (rmD (d + 1) (h'.length - h.length) (sl h' - sl h)) s m (as.map (dv B)).toArray below meth c hCx (Nat.le_refl _) (Nat.le_refl _) s.heap [] _ h.length (sl h) 0 0 ⟨hv2, va_S.rf⟩ hl (fun q => ⟨rfl, hv5 q⟩) (Nat.le_refl _) (Nat.le_refl _) (by rw [Nat.zero_add]; exact Nat.le_refl _) (by rw [Nat.zero_add]; exact Nat.le_refl _)
        rw [Nat.sub_self, Nat.sub_self, Nat.zero_add, Nat.zero_add, Nat.zero_add] at k
        exact k
    · cases hc
