/-! things that are there already: String constants, their rows of bytes, the class's tables, the formatter -/
def strL : List (List Int32) := [[116, 97, 110, 107, 101, 114], [99, 111, 109, 112, 97, 114, 116, 109, 101, 110, 116], [108, 105, 113, 117, 105, 100], [98, 97, 114], [108, 97, 115, 116], [100, 114, 111, 112], [111, 112, 101, 110], [98, 97, 102, 102, 108, 101, 100]]
def strI : List Nat := [73, 117, 119, 121, 123, 125, 136, 138]
def strT : List String := ["tanker", "compartment", "liquid", "bar", "last", "drop", "open", "baffled"]
def tabL : List (List Int32) := [[1, 0, 0, 0, 0, 0, 1, 0, 0], [99, 9999, 9999, 9999, 9999, 9999, 100, 100, 100], [5, 6, 36, 20, 4]]
def tabN : List String := ["HEAD_LEAST", "HEAD_MOST", "MOST_LINES"]
def Gs (B : BB) (s : State) : Prop :=
  vk_S 8 (strL.map List.length) strL (fun i => B.2.2.1 i) (fun i => B.2.2.1 (10 + i)) (fun q => B.1 ≤ q) s s.heap ∧
  (∀ i, i < 8 → vk_R RX4 (strI.getD i 0) (strT.getD i "") (B.2.2.1 i) s) ∧
  va_Z "java/lang/String" "COMPACT_STRINGS" "Z" (.int 1) (fun q => B.1 ≤ q) s s.heap ∧
  va_Z "jdk/internal/util/Preconditions" "SIOOBE_FORMATTER" "Ljava/util/function/BiFunction;" (va_rf B.2.2.2) (fun q => B.1 ≤ q) s s.heap ∧
  ∀ j, j < 3 → va_Z "TankerDesk" (tabN.getD j "") "[I" (.ref (B.2.2.1 (20 + j))) (fun q => B.1 ≤ q) s s.heap ∧ va_T .int (B.2.2.1 (20 + j)) ((tabL.getD j []).length) (fun q => .int ((tabL.getD j []).getD q 0)) (fun q => B.1 ≤ q) s s.heap
theorem Gs_cl {B : BB} : GCl B (Gs B) := by
  intro u U hvm hq hg
  obtain ⟨g1, g2, g3, g4, g5⟩ := hg
  have hk : ∀ a : Nat, a < u.heap.size → ¬ (B.1 ≤ a) → U.heap[a]? = u.heap[a]? := fun a _ ha => hq a (Nat.lt_of_not_le ha)
  exact ⟨vk_S.moved hvm.alike (g1.kept hk), fun i hi => (g2 i hi).warm hvm, va_Z.moved hvm.alike (g3.kept hk), va_Z.moved hvm.alike (g4.kept hk), fun j hj => ⟨va_Z.moved hvm.alike ((g5 j hj).1.kept hk), va_T.moved hvm.alike ((g5 j hj).2.kept hk)⟩⟩
theorem dv_sp {B : BB} {x : UInt32} (h : x.toNat < 30) : dv B (.float x) = .ref (B.2.2.1 x.toNat) := if_pos h
theorem of_tn {n : Nat} (h : n < 100) : (UInt32.ofNat n).toNat = n := by
  rw [UInt32.toNat_ofNat']
  exact Nat.mod_eq_of_lt (by omega)
/-- a step that reads what is there already -/
def eSp (pc n : Nat) (f : List Value → Option (List Value)) : Ent := (pc, fun _ lv st h => match f st with
  | some st' => some (.inl (pc + n, lv, st', h))
  | none => none)
def SRow (l : Launch) (own : String) (cc : ByteArray) (nL : Nat) (ret : Option FieldType) (ini : Bool) (D : va_G) (cA : Nat → ClassId) (B : BB) (G : State → Prop) (pc n : Nat) (f : List Value → Option (List Value)) : Prop :=
  ∀ (st st' : List Value), f st = some st' → ∀ (p : Program) (e : Env) (R : Room) (s : State) (m : MethodId) (args : Array Value) (below : List Frame) (meth : Method) (c : Code) (Q : State → Prop), Cx own cc nL ret ini D cA B G p s m args meth c → ∀ (H : Heap) (locs : List Loc) (ls : Array Slot) (cells slots : Nat) (h : List AC), Wd D cA B s h H locs → W p l e R s m args below meth c H locs cells slots Q (F0 m (pc + n) ls (st'.map (dv B))) → W p l e R s m args below meth c H locs cells slots Q (F0 m pc ls (st.map (dv B)))
theorem eok_sp {l : Launch} {own : String} {cc : ByteArray} {nL : Nat} {ret : Option FieldType} {ini : Bool} {D : va_G} {cA : Nat → ClassId} {B : BB} {G : State → Prop} {md : Bool} {d : Nat} {call : Call} {pc n : Nat} {f : List Value → Option (List Value)} (hr : SRow l own cc nL ret ini D cA B G pc n f) : EOk l own cc nL ret ini D cA B G md d call (eSp pc n f) := by
  intro lv st h out ho
  simp only [eSp] at ho
  split at ho
  · next st' hf =>
    cases ho
    refine ⟨Nat.le_refl _, Nat.le_refl _, ?_⟩
    intro p e R s m args below meth c Q C _ _ H locs ls c0 s0 x0 y0 hW hl _ _ _ _ _ kk
    exact hr st st' hf p e R s m args below meth c Q C H locs ls _ _ h hW (kk H locs ls hW hl)
  · cases ho
def fSp (v : Value) : List Value → Option (List Value) := fun st => some (v :: st)
theorem sr_ldcS {l : Launch} {own : String} {cc : ByteArray} {nL : Nat} {ret : Option FieldType} {ini : Bool} {D : va_G} {cA : Nat → ClassId} {B : BB} {G : State → Prop} {pc i idx : Nat} {u : UInt32} (hG : ∀ s, G s → Gs B s) (ho : own = RX4) (hi : i < 8) (hu : u.toNat = i) (hx : strI.getD i 0 = idx) (hd : decode cc pc = .ok (.ldc idx, 2)) : SRow l own cc nL ret ini D cA B G pc 2 (fSp (.float u)) := by
  intro st st' hf p e R s m args below meth c Q C H locs ls cells slots h hW kk
  cases hf
  have g := (hG s C.2.2.2.2.2.2.2.2.2.1.2.1).2.1 i hi
  rw [hx, ← ho] at g
  rw [List.map_cons, dv_sp (by omega), hu] at kk
  exact va_ldcS C.1 C.2.1 C.2.2.2.1 g hd kk
theorem sr_gst {l : Launch} {own : String} {cc : ByteArray} {nL : Nat} {ret : Option FieldType} {ini : Bool} {D : va_G} {cA : Nat → ClassId} {B : BB} {G : State → Prop} {pc idx : Nat} {v : Value} {c n d : String} (hZ : ∀ s, G s → va_Z c n d (dv B v) (fun q => B.1 ≤ q) s s.heap) (hw : Cond.fieldLink own idx c n d ∈ tT) (hd : decode cc pc = .ok (.getstatic idx, 3)) : SRow l own cc nL ret ini D cA B G pc 3 (fSp v) := by
  intro st st' hf p e R s m args below meth c Q C H locs ls cells slots h hW kk
  cases hf
  exact va_gets C.1 C.2.1 (hZ s C.2.2.2.2.2.2.2.2.2.1.2.1) hW.2 C.2.2.2.1 (C.2.2.2.2.1 _ hw) (fun _ z => z) hd kk
theorem sr_gstN {l : Launch} {own : String} {cc : ByteArray} {nL : Nat} {ret : Option FieldType} {ini : Bool} {D : va_G} {cA : Nat → ClassId} {B : BB} {G : State → Prop} {pc idx : Nat} {v : Value} {c n d host : String} (hZ : ∀ s, G s → va_Z c n d (dv B v) (fun q => B.1 ≤ q) s s.heap) (hw : Cond.fieldLinkNest own idx c n d host ∈ tN) (hd : decode cc pc = .ok (.getstatic idx, 3)) : SRow l own cc nL ret ini D cA B G pc 3 (fSp v) := by
  intro st st' hf p e R s m args below meth c Q C H locs ls cells slots h hW kk
  cases hf
  exact va_getsN C.1 C.2.1 (hZ s C.2.2.2.2.2.2.2.2.2.1.2.1) hW.2 C.2.2.2.1 (va_Nw.use rfl (C.2.2.2.2.2.2.2.2.2.1.1.1 _ hw)) (fun _ z => z) hd kk
def fSVal : List Value → Option (List Value) := fun st => match st with
  | .float u :: r => if u.toNat < 8 then some (.float (UInt32.ofNat (10 + u.toNat)) :: r) else none
  | _ => none
theorem sr_sval {l : Launch} {own : String} {cc : ByteArray} {nL : Nat} {ret : Option FieldType} {ini : Bool} {D : va_G} {cA : Nat → ClassId} {B : BB} {G : State → Prop} {pc idx : Nat} (hG : ∀ s, G s → Gs B s) (hw : Cond.fieldLink own idx "java/lang/String" "value" "[B" ∈ tT) (hd : decode cc pc = .ok (.getfield idx, 3)) : SRow l own cc nL ret ini D cA B G pc 3 fSVal := by
  intro st st' hf p e R s m args below meth c Q C H locs ls cells slots h hW kk
  unfold fSVal at hf
  split at hf
  · next u r =>
    split at hf
    · next hu =>
      cases hf
      have g := ((hG s C.2.2.2.2.2.2.2.2.2.1.2.1).1.1 u.toNat hu).2.2.1
      rw [List.map_cons, dv_sp (by rw [of_tn (by omega)]; omega), of_tn (by omega)] at kk
      rw [List.map_cons, dv_sp (by omega)]
      exact vk_getf C.1 C.2.1 g hW.2 C.2.2.2.1 (C.2.2.2.2.1 _ hw) (fun _ z => z) hd kk
    · cases hf
  · cases hf
def fSCod : List Value → Option (List Value) := fun st => match st with
  | .float u :: r => if u.toNat < 8 then some (.int 0 :: r) else none
  | _ => none
theorem sr_scod {l : Launch} {own : String} {cc : ByteArray} {nL : Nat} {ret : Option FieldType} {ini : Bool} {D : va_G} {cA : Nat → ClassId} {B : BB} {G : State → Prop} {pc idx : Nat} (hG : ∀ s, G s → Gs B s) (hw : Cond.fieldLink own idx "java/lang/String" "coder" "B" ∈ tT) (hd : decode cc pc = .ok (.getfield idx, 3)) : SRow l own cc nL ret ini D cA B G pc 3 fSCod := by
  intro st st' hf p e R s m args below meth c Q C H locs ls cells slots h hW kk
  unfold fSCod at hf
  split at hf
  · next u r =>
    split at hf
    · next hu =>
      cases hf
      have g := ((hG s C.2.2.2.2.2.2.2.2.2.1.2.1).1.1 u.toNat hu).2.1
      rw [List.map_cons, dv_sp (by omega)]
      exact vk_getf C.1 C.2.1 g hW.2 C.2.2.2.1 (C.2.2.2.2.1 _ hw) (fun _ z => z) hd kk
    · cases hf
  · cases hf
def fSLen : List Value → Option (List Value) := fun st => match st with
  | .float u :: r => if 10 ≤ u.toNat ∧ u.toNat < 18 then some (.int (Int32.ofNat ((strL.map List.length).getD (u.toNat - 10) 0)) :: r) else none
  | _ => none
theorem sr_slen {l : Launch} {own : String} {cc : ByteArray} {nL : Nat} {ret : Option FieldType} {ini : Bool} {D : va_G} {cA : Nat → ClassId} {B : BB} {G : State → Prop} {pc : Nat} (hG : ∀ s, G s → Gs B s) (hd : decode cc pc = .ok (.arraylength, 1)) : SRow l own cc nL ret ini D cA B G pc 1 fSLen := by
  intro st st' hf p e R s m args below meth c Q C H locs ls cells slots h hW kk
  unfold fSLen at hf
  split at hf
  · next u r =>
    split at hf
    · next hu =>
      cases hf
      have g := ((hG s C.2.2.2.2.2.2.2.2.2.1.2.1).1.1 (u.toNat - 10) (by omega)).2.2.2
      dsimp only at g
      rw [show 10 + (u.toNat - 10) = u.toNat by omega] at g
      rw [List.map_cons, dv_sp (by omega)]
      exact va_tlen C.1 C.2.1 g hW.2 rfl hd kk
    · cases hf
  · cases hf
def fSByt : List Value → Option (List Value) := fun st => match st with
  | .int i :: .float u :: r => if 10 ≤ u.toNat ∧ u.toNat < 18 ∧ ¬ i < 0 ∧ i.toNatClampNeg < (strL.map List.length).getD (u.toNat - 10) 0 then some (.int ((strL.getD (u.toNat - 10) []).getD i.toNatClampNeg 0) :: r) else none
  | _ => none
theorem sr_sbyt {l : Launch} {own : String} {cc : ByteArray} {nL : Nat} {ret : Option FieldType} {ini : Bool} {D : va_G} {cA : Nat → ClassId} {B : BB} {G : State → Prop} {pc : Nat} (hG : ∀ s, G s → Gs B s) (hd : decode cc pc = .ok (.baload, 1)) : SRow l own cc nL ret ini D cA B G pc 1 fSByt := by
  intro st st' hf p e R s m args below meth c Q C H locs ls cells slots h hW kk
  unfold fSByt at hf
  split at hf
  · next i u r =>
    split at hf
    · next hu =>
      cases hf
      have g := ((hG s C.2.2.2.2.2.2.2.2.2.1.2.1).1.1 (u.toNat - 10) (by omega)).2.2.2
      dsimp only at g
      rw [show 10 + (u.toNat - 10) = u.toNat by omega] at g
      rw [List.map_cons, List.map_cons, dv_sp (by omega)]
      exact va_tb C.1 C.2.1 g hW.2 (fun z => z.elim hu.2.2.1 (fun z => absurd hu.2.2.2 (Nat.not_lt.mpr z))) rfl hd kk
    · cases hf
  · cases hf
def fTab : List Value → Option (List Value) := fun st => match st with
  | .int i :: .float u :: r => if 20 ≤ u.toNat ∧ u.toNat < 23 ∧ ¬ i < 0 ∧ i.toNatClampNeg < (tabL.getD (u.toNat - 20) []).length then some (.int ((tabL.getD (u.toNat - 20) []).getD i.toNatClampNeg 0) :: r) else none
  | _ => none
theorem sr_tab {l : Launch} {own : String} {cc : ByteArray} {nL : Nat} {ret : Option FieldType} {ini : Bool} {D : va_G} {cA : Nat → ClassId} {B : BB} {G : State → Prop} {pc : Nat} (hG : ∀ s, G s → Gs B s) (hd : decode cc pc = .ok (.iaload, 1)) : SRow l own cc nL ret ini D cA B G pc 1 fTab := by
  intro st st' hf p e R s m args below meth c Q C H locs ls cells slots h hW kk
  unfold fTab at hf
  split at hf
  · next i u r =>
    split at hf
    · next hu =>
      cases hf
      have g := ((hG s C.2.2.2.2.2.2.2.2.2.1.2.1).2.2.2.2 (u.toNat - 20) (by omega)).2
      rw [show 20 + (u.toNat - 20) = u.toNat by omega] at g
      rw [List.map_cons, List.map_cons, dv_sp (by omega)]
      exact va_ti C.1 C.2.1 g hW.2 (fun z => z.elim hu.2.2.1 (fun z => absurd hu.2.2.2 (Nat.not_lt.mpr z))) rfl hd kk
    · cases hf
  · cases hf
/-- a return of a number of a small type -/
def eRetN (pc : Nat) (ty : FieldType) : Ent := (pc, fun _ _ st h => match st with
  | [.int x] => if narrow ty (.int x) = .int x then some (.inr (some (.int x), h)) else none
  | _ => none)
theorem ok_retN {l : Launch} {own : String} {cc : ByteArray} {nL : Nat} {ret : Option FieldType} {ini : Bool} {D : va_G} {cA : Nat → ClassId} {B : BB} {G : State → Prop} {md : Bool} {d : Nat} {call : Call} {pc : Nat} {ty : FieldType} (hret : ret = some ty) (hd : decode cc pc = .ok (.ireturn, 1)) : EOk l own cc nL ret ini D cA B G md d call (eRetN pc ty) := by
  intro lv st h out ho
  simp only [eRetN] at ho
  split at ho
  · next x =>
    split at ho
    · next hx =>
      cases ho
      refine ⟨rfl, ?_⟩
      intro p e R s m args below meth c C H locs ls cells slots hW
      exact W.zret C.1 C.2.1 (C.2.2.2.2.2.1.trans hret) hx (fun t ht hWm => ⟨rfl, by rw [ht]; exact hW.1, hW.2.F ht⟩) hW.2.2.2 hd C.2.2.2.2.2.2.1
    · cases ho
  · cases ho
/-- a method of a String constant -/
def eCallT (pc n id : Nat) : Ent := (pc, fun call lv st h => match st.drop n with
  | .float u :: r => if u.toNat < 8 ∧ cats r ≤ 8 then match call id (.float u :: (st.take n).reverse) h with
        | some (v, h') => some (.inl (pc + 3, lv, v.toList ++ r, h'))
        | none => none
      else none
  | _ => none)
theorem ok_callT {l : Launch} {own : String} {cc : ByteArray} {nL : Nat} {ret : Option FieldType} {ini : Bool} {D : va_G} {cA : Nat → ClassId} {B : BB} {G : State → Prop} {md : Bool} {d : Nat} {call : Call} {mI : Nat → MI} {pc n id idx maxL : Nat} {y : MethodName} {bytes : ByteArray} {rt : Option FieldType} {z : Bool} (hG : ∀ s, G s → Gs B s) (hok : COk l D cA B G md d mI call) (hid : mI id = (y, bytes, maxL, rt, z)) (hwl : Cond.methodLink own idx y ∈ tT) (hwi : Cond.instanceMethod y ∈ tT) (hws : Cond.selects "java/lang/String" y y ∈ tT) (hwn : Cond.initialized y.cls ∈ tT) (hwc : Cond.code y bytes maxL rt ∈ tT) (hd9 : y.cls ≠ "java/lang/invoke/MethodHandle" ∧ y.cls ≠ "java/lang/invoke/VarHandle" ∧ (parseMethodDescriptor y.desc).map (fun d => d.parameters.length) = some n) (hL : maxL ≤ 80) (hd : decode cc pc = .ok (.invokevirtual idx, 3)) : EOk l own cc nL ret ini D cA B G md d call (eCallT pc n id) := by
  intro lv st h out ho
  simp only [eCallT] at ho
  split at ho
  · next u r hdr =>
    obtain ⟨hst, hln⟩ := take_drop_cons hdr
    split at ho
    · next hg =>
        obtain ⟨hu, hcat⟩ := hg
        split at ho
        · next v h' hcl =>
          cases ho
          obtain ⟨m1, m2, hM⟩ := hok _ _ _ _ _ hcl
          refine ⟨m1, m2, ?_⟩
          rw [hid] at hM
          have e0 : dv B (.float u) = .ref (B.2.2.1 u.toNat) := dv_sp (by omega)
          rw [List.map_cons, e0] at hM
          intro p e R s m args below meth c Q Cx hfr hlo H locs ls c0 s0 x0 y0 hW hl hm h1 h2 h3 h4 kk
          intro T hT X
          have hsz : md = true → H.size = B.1 + h.length := fun q => size_q hW hT X (hm q) h1
          have e1 : x0 + (h.length - c0) + (h'.length - h.length) = x0 + (h'.length - c0) := by omega
          have e2 : y0 + (sl h - s0) + (sl h' - sl h) = y0 + (sl h' - s0) := by omega
          refine wcall (pc := pc) (rest := r.map (dv B)) (va_runV (As := ((st.take n).reverse).map (dv B)) (C := "java/lang/String") ⟨Cx.1, Cx.2.1, Cx.2.2.1, Cx.2.2.2.1, Cx.2.2.2.2.1⟩ hM ⟨callB_of n Cx.2.2.2.2.1 (tT_good hwc) rfl rfl rfl (Cx.2.2.2.2.1 _ hwn) (Cx.2.2.2.2.1 _ hwl) hd9 ⟨hfr, ?_⟩, Cx.2.2.2.2.1 _ hwi, Cx.2.2.2.2.1 _ hws⟩ ⟨blind, vk_recv (i := u.toNat) (hG s Cx.2.2.2.2.2.2.2.2.2.1.2.1).1 hu hW.2, fun U hU hWm => ⟨rfl, ?_, ?_, va_K.moved hWm.alike Cx.2.2.2.2.2.2.2.2.1, ⟨Xt.warm hWm Cx.2.2.2.2.2.2.2.2.2.1.1, Cx.2.2.2.2.2.2.2.2.2.1.2.2 s U hWm (fun q hq => by rw [hU]; exact hW.2.2.1 q (Nat.lt_of_lt_of_le hq Cx.2.2.2.2.2.2.2.2.2.2) (Nat.not_le.mpr hq)) Cx.2.2.2.2.2.2.2.2.2.1.2.1, Cx.2.2.2.2.2.2.2.2.2.1.2.2⟩, fun q => by rw [hU]; exact hsz q⟩⟩ rfl ?_ hl.1 ?_ (lv_room (by rw [cats_dv]; exact hcat)) hd ⟨?_, ?_⟩) hW.2 (fun H1 locs1 hW1 => ?_) T hT X
          · show 8 + (maxL + 11) + 100 * d ≤ R.locals
            omega
          · rw [hU]
            exact Nat.le_trans Cx.2.2.2.2.2.2.2.2.2.2 hW.2.1
          · rw [hU]
            exact hW.1
          · rw [List.length_map, List.length_reverse]
            exact hln
          · show st.map (dv B) = _
            rw [← List.map_reverse, List.reverse_reverse]
            conv => lhs; rw [hst]
            rw [List.map_append, List.map_cons, e0]
          · show x0 + (h.length - c0) + (h'.length - h.length) ≤ R.cells
            omega
          · show y0 + (sl h - s0) + (sl h' - sl h) ≤ R.slots
            omega
          · rw [e1, e2, optmap]
            exact kk H1 locs1 ls hW1 hl
        · cases ho
    · cases ho
  · cases ho
