def fPush (pc n : Nat) (v : Value) : Lv → List Value → Option (Nat × Lv × List Value) := fun lv st => some (pc + n, lv, v :: st)
theorem pr_iconst {l : Launch} {own : String} {cc : ByteArray} {nL : Nat} {ret : Option FieldType} {ini : Bool} {D : va_G} {cA : Nat → ClassId} {B : BB} {G : State → Prop} {pc : Nat} {n : Int} {v : Int32} (hd : decode cc pc = .ok (.iconst n, 1)) (hv : Int32.ofInt n = v) : PRow l own cc nL ret ini D cA B G pc (fPush pc 1 (.int v)) := by
  intro lv st pc' lv' st' hf p e R s m args below meth c Q C H locs ls cells slots hl kk
  cases hf
  exact lv_iconst C.1 C.2.1 hd hv (kk ls hl)
theorem pr_bipush {l : Launch} {own : String} {cc : ByteArray} {nL : Nat} {ret : Option FieldType} {ini : Bool} {D : va_G} {cA : Nat → ClassId} {B : BB} {G : State → Prop} {pc : Nat} {n : Int} {v : Int32} (hd : decode cc pc = .ok (.bipush n, 2)) (hv : (Int8.ofInt n).toInt32 = v) : PRow l own cc nL ret ini D cA B G pc (fPush pc 2 (.int v)) := by
  intro lv st pc' lv' st' hf p e R s m args below meth c Q C H locs ls cells slots hl kk
  cases hf
  exact lv_bipush C.1 C.2.1 hd hv (kk ls hl)
theorem pr_sipush {l : Launch} {own : String} {cc : ByteArray} {nL : Nat} {ret : Option FieldType} {ini : Bool} {D : va_G} {cA : Nat → ClassId} {B : BB} {G : State → Prop} {pc : Nat} {n : Int} {v : Int32} (hd : decode cc pc = .ok (.sipush n, 3)) (hv : (Int16.ofInt n).toInt32 = v) : PRow l own cc nL ret ini D cA B G pc (fPush pc 3 (.int v)) := by
  intro lv st pc' lv' st' hf p e R s m args below meth c Q C H locs ls cells slots hl kk
  cases hf
  exact lv_sipush C.1 C.2.1 hd hv (kk ls hl)
theorem pr_lconst {l : Launch} {own : String} {cc : ByteArray} {nL : Nat} {ret : Option FieldType} {ini : Bool} {D : va_G} {cA : Nat → ClassId} {B : BB} {G : State → Prop} {pc : Nat} {n : Fin 2} {v : Int64} (hd : decode cc pc = .ok (.lconst n, 1)) (hv : Int64.ofNat (n : Nat) = v) : PRow l own cc nL ret ini D cA B G pc (fPush pc 1 (.long v)) := by
  intro lv st pc' lv' st' hf p e R s m args below meth c Q C H locs ls cells slots hl kk
  cases hf
  exact lv_lconst C.1 C.2.1 hd hv (kk ls hl)
theorem pr_ldc {l : Launch} {own : String} {cc : ByteArray} {nL : Nat} {ret : Option FieldType} {ini : Bool} {D : va_G} {cA : Nat → ClassId} {B : BB} {G : State → Prop} {pc : Nat} {i : Nat} {v : Int32} (hd : decode cc pc = .ok (.ldc i, 2)) (hw : Cond.constant own i v ∈ tT) : PRow l own cc nL ret ini D cA B G pc (fPush pc 2 (.int v)) := by
  intro lv st pc' lv' st' hf p e R s m args below meth c Q C H locs ls cells slots hl kk
  cases hf
  exact lv_ldc C.1 C.2.1 C.2.2.2.1 (C.2.2.2.2.1 _ hw) hd (kk ls hl)
theorem pr_ldc2 {l : Launch} {own : String} {cc : ByteArray} {nL : Nat} {ret : Option FieldType} {ini : Bool} {D : va_G} {cA : Nat → ClassId} {B : BB} {G : State → Prop} {pc : Nat} {i : Nat} {v : Int64} (hd : decode cc pc = .ok (.ldc2_w i, 3)) (hw : Cond.constantLong own i v ∈ tT) : PRow l own cc nL ret ini D cA B G pc (fPush pc 3 (.long v)) := by
  intro lv st pc' lv' st' hf p e R s m args below meth c Q C H locs ls cells slots hl kk
  cases hf
  exact lv_ldc2 C.1 C.2.1 C.2.2.2.1 (C.2.2.2.2.1 _ hw) hd (kk ls hl)
def fLoadI (pc n i : Nat) : Lv → List Value → Option (Nat × Lv × List Value) := fun lv st => match lk lv i with
  | some (.int x) => some (pc + n, lv, .int x :: st)
  | _ => none
def fLoadJ (pc n i : Nat) : Lv → List Value → Option (Nat × Lv × List Value) := fun lv st => match lk lv i with
  | some (.long x) => some (pc + n, lv, .long x :: st)
  | _ => none
def fLoadA (pc n i : Nat) : Lv → List Value → Option (Nat × Lv × List Value) := fun lv st => match lk lv i with
  | some (.ref x) => some (pc + n, lv, .ref x :: st)
  | some (.retAddr x) => some (pc + n, lv, .retAddr x :: st)
  | some (.float x) => some (pc + n, lv, .float x :: st)
  | _ => none
theorem pr_iload_n {l : Launch} {own : String} {cc : ByteArray} {nL : Nat} {ret : Option FieldType} {ini : Bool} {D : va_G} {cA : Nat → ClassId} {B : BB} {G : State → Prop} {pc : Nat} {k : Fin 4} {i : Nat} (hd : decode cc pc = .ok (.iload_n k, 1)) (hi : (k : Nat) = i) : PRow l own cc nL ret ini D cA B G pc (fLoadI pc 1 i) := by
  intro lv st pc' lv' st' hf p e R s m args below meth c Q C H locs ls cells slots hl kk
  unfold fLoadI at hf
  split at hf
  · next x hx =>
    cases hf
    exact lv_iload_n C.1 C.2.1 hd hi (lk_at hl hx) (kk ls hl)
  · cases hf
theorem pr_iload {l : Launch} {own : String} {cc : ByteArray} {nL : Nat} {ret : Option FieldType} {ini : Bool} {D : va_G} {cA : Nat → ClassId} {B : BB} {G : State → Prop} {pc : Nat} {i : Nat} (hd : decode cc pc = .ok (.iload i, 2)) : PRow l own cc nL ret ini D cA B G pc (fLoadI pc 2 i) := by
  intro lv st pc' lv' st' hf p e R s m args below meth c Q C H locs ls cells slots hl kk
  unfold fLoadI at hf
  split at hf
  · next x hx =>
    cases hf
    exact lv_iload C.1 C.2.1 hd (lk_at hl hx) (kk ls hl)
  · cases hf
theorem pr_lload_n {l : Launch} {own : String} {cc : ByteArray} {nL : Nat} {ret : Option FieldType} {ini : Bool} {D : va_G} {cA : Nat → ClassId} {B : BB} {G : State → Prop} {pc : Nat} {k : Fin 4} {i : Nat} (hd : decode cc pc = .ok (.lload_n k, 1)) (hi : (k : Nat) = i) : PRow l own cc nL ret ini D cA B G pc (fLoadJ pc 1 i) := by
  intro lv st pc' lv' st' hf p e R s m args below meth c Q C H locs ls cells slots hl kk
  unfold fLoadJ at hf
  split at hf
  · next x hx =>
    cases hf
    exact lv_lload_n C.1 C.2.1 hd hi (lk_at hl hx) (kk ls hl)
  · cases hf
theorem pr_lload {l : Launch} {own : String} {cc : ByteArray} {nL : Nat} {ret : Option FieldType} {ini : Bool} {D : va_G} {cA : Nat → ClassId} {B : BB} {G : State → Prop} {pc : Nat} {i : Nat} (hd : decode cc pc = .ok (.lload i, 2)) : PRow l own cc nL ret ini D cA B G pc (fLoadJ pc 2 i) := by
  intro lv st pc' lv' st' hf p e R s m args below meth c Q C H locs ls cells slots hl kk
  unfold fLoadJ at hf
  split at hf
  · next x hx =>
    cases hf
    exact lv_lload C.1 C.2.1 hd (lk_at hl hx) (kk ls hl)
  · cases hf
theorem pr_aload_n {l : Launch} {own : String} {cc : ByteArray} {nL : Nat} {ret : Option FieldType} {ini : Bool} {D : va_G} {cA : Nat → ClassId} {B : BB} {G : State → Prop} {pc : Nat} {k : Fin 4} {i : Nat} (hd : decode cc pc = .ok (.aload_n k, 1)) (hi : (k : Nat) = i) : PRow l own cc nL ret ini D cA B G pc (fLoadA pc 1 i) := by
  intro lv st pc' lv' st' hf p e R s m args below meth c Q C H locs ls cells slots hl kk
  unfold fLoadA at hf
  split at hf
  · next x hx =>
    cases hf
    exact lv_aload_n C.1 C.2.1 hd hi (lk_at hl hx) (kk ls hl)
  · next x hx =>
    cases hf
    exact lv_aload_n C.1 C.2.1 hd hi (lk_at hl hx) (kk ls hl)
  · next x hx =>
    cases hf
    have hq := lk_at hl hx
    have k := kk ls hl
    by_cases h9 : x.toNat < 30
    · have e9 : dv B (.float x) = .ref (B.2.2.1 x.toNat) := if_pos h9
      rw [e9] at hq
      rw [List.map_cons, e9] at k
      exact lv_aload_n C.1 C.2.1 hd hi hq k
    · have e9 : dv B (.float x) = va_rf B.2.2.2 := if_neg h9
      rw [e9] at hq
      rw [List.map_cons, e9] at k
      cases h8 : B.2.2.2 with
      | none =>
        rw [h8] at hq k
        exact lv_aload_nN C.1 C.2.1 hd hi hq k
      | some a =>
        rw [h8] at hq k
        exact lv_aload_n C.1 C.2.1 hd hi hq k
  · cases hf
theorem pr_aload {l : Launch} {own : String} {cc : ByteArray} {nL : Nat} {ret : Option FieldType} {ini : Bool} {D : va_G} {cA : Nat → ClassId} {B : BB} {G : State → Prop} {pc : Nat} {i : Nat} (hd : decode cc pc = .ok (.aload i, 2)) : PRow l own cc nL ret ini D cA B G pc (fLoadA pc 2 i) := by
  intro lv st pc' lv' st' hf p e R s m args below meth c Q C H locs ls cells slots hl kk
  unfold fLoadA at hf
  split at hf
  · next x hx =>
    cases hf
    exact lv_aload C.1 C.2.1 hd (lk_at hl hx) (kk ls hl)
  · next x hx =>
    cases hf
    exact lv_aload C.1 C.2.1 hd (lk_at hl hx) (kk ls hl)
  · next x hx =>
    cases hf
    have hq := lk_at hl hx
    have k := kk ls hl
    by_cases h9 : x.toNat < 30
    · have e9 : dv B (.float x) = .ref (B.2.2.1 x.toNat) := if_pos h9
      rw [e9] at hq
      rw [List.map_cons, e9] at k
      exact lv_aload C.1 C.2.1 hd hq k
    · have e9 : dv B (.float x) = va_rf B.2.2.2 := if_neg h9
      rw [e9] at hq
      rw [List.map_cons, e9] at k
      cases h8 : B.2.2.2 with
      | none =>
        rw [h8] at hq k
        exact lv_aloadN C.1 C.2.1 hd hq k
      | some a =>
        rw [h8] at hq k
        exact lv_aload C.1 C.2.1 hd hq k
  · cases hf
def fStoI (pc n i nL : Nat) : Lv → List Value → Option (Nat × Lv × List Value) := fun lv st => match st with
  | .int x :: r => if i < nL then some (pc + n, st1 lv i (.int x), r) else none
  | _ => none
def fStoA (pc n i nL : Nat) : Lv → List Value → Option (Nat × Lv × List Value) := fun lv st => match st with
  | .ref x :: r => if i < nL then some (pc + n, st1 lv i (.ref x), r) else none
  | _ => none
def fStoJ (pc n i nL : Nat) : Lv → List Value → Option (Nat × Lv × List Value) := fun lv st => match st with
  | .long x :: r => if i + 1 < nL then some (pc + n, st2 lv i (.long x), r) else none
  | _ => none
theorem pr_istore_n {l : Launch} {own : String} {cc : ByteArray} {nL : Nat} {ret : Option FieldType} {ini : Bool} {D : va_G} {cA : Nat → ClassId} {B : BB} {G : State → Prop} {pc : Nat} {k : Fin 4} {i : Nat} (hd : decode cc pc = .ok (.istore_n k, 1)) (hi : (k : Nat) = i) : PRow l own cc nL ret ini D cA B G pc (fStoI pc 1 i nL) := by
  intro lv st pc' lv' st' hf p e R s m args below meth c Q C H locs ls cells slots hl kk
  unfold fStoI at hf
  split at hf
  · next x r =>
    split at hf
    · next hn =>
      cases hf
      exact lv_istore_n C.1 C.2.1 hd hi hl hn rfl (fun ls2 h2 => kk ls2 (has_st1 (v := .int x) h2))
    · cases hf
  · cases hf
theorem pr_istore {l : Launch} {own : String} {cc : ByteArray} {nL : Nat} {ret : Option FieldType} {ini : Bool} {D : va_G} {cA : Nat → ClassId} {B : BB} {G : State → Prop} {pc : Nat} {i : Nat} (hd : decode cc pc = .ok (.istore i, 2)) : PRow l own cc nL ret ini D cA B G pc (fStoI pc 2 i nL) := by
  intro lv st pc' lv' st' hf p e R s m args below meth c Q C H locs ls cells slots hl kk
  unfold fStoI at hf
  split at hf
  · next x r =>
    split at hf
    · next hn =>
      cases hf
      exact lv_istore C.1 C.2.1 hd hl hn rfl (fun ls2 h2 => kk ls2 (has_st1 (v := .int x) h2))
    · cases hf
  · cases hf
theorem pr_astore_n {l : Launch} {own : String} {cc : ByteArray} {nL : Nat} {ret : Option FieldType} {ini : Bool} {D : va_G} {cA : Nat → ClassId} {B : BB} {G : State → Prop} {pc : Nat} {k : Fin 4} {i : Nat} (hd : decode cc pc = .ok (.astore_n k, 1)) (hi : (k : Nat) = i) : PRow l own cc nL ret ini D cA B G pc (fStoA pc 1 i nL) := by
  intro lv st pc' lv' st' hf p e R s m args below meth c Q C H locs ls cells slots hl kk
  unfold fStoA at hf
  split at hf
  · next x r =>
    split at hf
    · next hn =>
      cases hf
      exact lv_astore_n C.1 C.2.1 hd hi hl hn rfl (fun ls2 h2 => kk ls2 (has_st1 (v := .ref x) h2))
    · cases hf
  · cases hf
theorem pr_astore {l : Launch} {own : String} {cc : ByteArray} {nL : Nat} {ret : Option FieldType} {ini : Bool} {D : va_G} {cA : Nat → ClassId} {B : BB} {G : State → Prop} {pc : Nat} {i : Nat} (hd : decode cc pc = .ok (.astore i, 2)) : PRow l own cc nL ret ini D cA B G pc (fStoA pc 2 i nL) := by
  intro lv st pc' lv' st' hf p e R s m args below meth c Q C H locs ls cells slots hl kk
  unfold fStoA at hf
  split at hf
  · next x r =>
    split at hf
    · next hn =>
      cases hf
      exact lv_astore C.1 C.2.1 hd hl hn rfl (fun ls2 h2 => kk ls2 (has_st1 (v := .ref x) h2))
    · cases hf
  · cases hf
theorem pr_lstore_n {l : Launch} {own : String} {cc : ByteArray} {nL : Nat} {ret : Option FieldType} {ini : Bool} {D : va_G} {cA : Nat → ClassId} {B : BB} {G : State → Prop} {pc : Nat} {k : Fin 4} {i : Nat} (hd : decode cc pc = .ok (.lstore_n k, 1)) (hi : (k : Nat) = i) : PRow l own cc nL ret ini D cA B G pc (fStoJ pc 1 i nL) := by
  intro lv st pc' lv' st' hf p e R s m args below meth c Q C H locs ls cells slots hl kk
  unfold fStoJ at hf
  split at hf
  · next x r =>
    split at hf
    · next hn =>
      cases hf
      exact lv_lstore_n C.1 C.2.1 hd hi hl hn rfl (fun ls2 h2 => kk ls2 (has_st2 (v := .long x) h2))
    · cases hf
  · cases hf
def fInc (pc i nL : Nat) (n : Int32) : Lv → List Value → Option (Nat × Lv × List Value) := fun lv st => match lk lv i with
  | some (.int x) => if i < nL then some (pc + 3, st1 lv i (.int (x + n)), st) else none
  | _ => none
theorem pr_iinc {l : Launch} {own : String} {cc : ByteArray} {nL : Nat} {ret : Option FieldType} {ini : Bool} {D : va_G} {cA : Nat → ClassId} {B : BB} {G : State → Prop} {pc : Nat} {i : Nat} {n : Int} {v : Int32} (hd : decode cc pc = .ok (.iinc i n, 3)) (hv : Int32.ofInt n = v) : PRow l own cc nL ret ini D cA B G pc (fInc pc i nL v) := by
  intro lv st pc' lv' st' hf p e R s m args below meth c Q C H locs ls cells slots hl kk
  unfold fInc at hf
  split at hf
  · next x hx =>
    split at hf
    · next hn =>
      cases hf
      obtain ⟨k, hk⟩ := List.mem_iff_getElem?.mp (lk_mem (B := B) hx)
      exact lv_iinc C.1 C.2.1 (v := x + v) hd hl (k := k) hk (by rw [hv]) hn rfl (fun ls2 h2 => kk ls2 (has_st1 (v := .int (x + v)) h2))
    · cases hf
  · cases hf
def fBin (pc : Nat) (f : Int32 → Int32 → Int32) : Lv → List Value → Option (Nat × Lv × List Value) := fun lv st => match st with
  | .int y :: .int x :: r => some (pc + 1, lv, .int (f x y) :: r)
  | _ => none
def o_iadd : Int32 → Int32 → Int32 := fun x y => x + y
theorem pr_iadd {l : Launch} {own : String} {cc : ByteArray} {nL : Nat} {ret : Option FieldType} {ini : Bool} {D : va_G} {cA : Nat → ClassId} {B : BB} {G : State → Prop} {pc : Nat} (hd : decode cc pc = .ok (.iadd, 1)) : PRow l own cc nL ret ini D cA B G pc (fBin pc o_iadd) := by
  intro lv st pc' lv' st' hf p e R s m args below meth c Q C H locs ls cells slots hl kk
  unfold fBin at hf
  split at hf
  · next y x r =>
    cases hf
    exact lv_iadd C.1 C.2.1 hd (kk ls hl)
  · cases hf
def o_isub : Int32 → Int32 → Int32 := fun x y => x - y
theorem pr_isub {l : Launch} {own : String} {cc : ByteArray} {nL : Nat} {ret : Option FieldType} {ini : Bool} {D : va_G} {cA : Nat → ClassId} {B : BB} {G : State → Prop} {pc : Nat} (hd : decode cc pc = .ok (.isub, 1)) : PRow l own cc nL ret ini D cA B G pc (fBin pc o_isub) := by
  intro lv st pc' lv' st' hf p e R s m args below meth c Q C H locs ls cells slots hl kk
  unfold fBin at hf
  split at hf
  · next y x r =>
    cases hf
    exact lv_isub C.1 C.2.1 hd (kk ls hl)
  · cases hf
def o_imul : Int32 → Int32 → Int32 := fun x y => x * y
theorem pr_imul {l : Launch} {own : String} {cc : ByteArray} {nL : Nat} {ret : Option FieldType} {ini : Bool} {D : va_G} {cA : Nat → ClassId} {B : BB} {G : State → Prop} {pc : Nat} (hd : decode cc pc = .ok (.imul, 1)) : PRow l own cc nL ret ini D cA B G pc (fBin pc o_imul) := by
  intro lv st pc' lv' st' hf p e R s m args below meth c Q C H locs ls cells slots hl kk
  unfold fBin at hf
  split at hf
  · next y x r =>
    cases hf
    exact lv_imul C.1 C.2.1 hd (kk ls hl)
  · cases hf
def o_iand : Int32 → Int32 → Int32 := fun x y => x &&& y
theorem pr_iand {l : Launch} {own : String} {cc : ByteArray} {nL : Nat} {ret : Option FieldType} {ini : Bool} {D : va_G} {cA : Nat → ClassId} {B : BB} {G : State → Prop} {pc : Nat} (hd : decode cc pc = .ok (.iand, 1)) : PRow l own cc nL ret ini D cA B G pc (fBin pc o_iand) := by
  intro lv st pc' lv' st' hf p e R s m args below meth c Q C H locs ls cells slots hl kk
  unfold fBin at hf
  split at hf
  · next y x r =>
    cases hf
    exact lv_iand C.1 C.2.1 hd (kk ls hl)
  · cases hf
def o_ior : Int32 → Int32 → Int32 := fun x y => x ||| y
theorem pr_ior {l : Launch} {own : String} {cc : ByteArray} {nL : Nat} {ret : Option FieldType} {ini : Bool} {D : va_G} {cA : Nat → ClassId} {B : BB} {G : State → Prop} {pc : Nat} (hd : decode cc pc = .ok (.ior, 1)) : PRow l own cc nL ret ini D cA B G pc (fBin pc o_ior) := by
  intro lv st pc' lv' st' hf p e R s m args below meth c Q C H locs ls cells slots hl kk
  unfold fBin at hf
  split at hf
  · next y x r =>
    cases hf
    exact lv_ior C.1 C.2.1 hd (kk ls hl)
  · cases hf
def o_ixor : Int32 → Int32 → Int32 := fun x y => x ^^^ y
theorem pr_ixor {l : Launch} {own : String} {cc : ByteArray} {nL : Nat} {ret : Option FieldType} {ini : Bool} {D : va_G} {cA : Nat → ClassId} {B : BB} {G : State → Prop} {pc : Nat} (hd : decode cc pc = .ok (.ixor, 1)) : PRow l own cc nL ret ini D cA B G pc (fBin pc o_ixor) := by
  intro lv st pc' lv' st' hf p e R s m args below meth c Q C H locs ls cells slots hl kk
  unfold fBin at hf
  split at hf
  · next y x r =>
    cases hf
    exact lv_ixor C.1 C.2.1 hd (kk ls hl)
  · cases hf
def o_ishl : Int32 → Int32 → Int32 := fun x y => x <<< (y &&& 31)
theorem pr_ishl {l : Launch} {own : String} {cc : ByteArray} {nL : Nat} {ret : Option FieldType} {ini : Bool} {D : va_G} {cA : Nat → ClassId} {B : BB} {G : State → Prop} {pc : Nat} (hd : decode cc pc = .ok (.ishl, 1)) : PRow l own cc nL ret ini D cA B G pc (fBin pc o_ishl) := by
  intro lv st pc' lv' st' hf p e R s m args below meth c Q C H locs ls cells slots hl kk
  unfold fBin at hf
  split at hf
  · next y x r =>
    cases hf
    exact lv_ishl C.1 C.2.1 hd (kk ls hl)
  · cases hf
def o_ishr : Int32 → Int32 → Int32 := fun x y => x >>> (y &&& 31)
theorem pr_ishr {l : Launch} {own : String} {cc : ByteArray} {nL : Nat} {ret : Option FieldType} {ini : Bool} {D : va_G} {cA : Nat → ClassId} {B : BB} {G : State → Prop} {pc : Nat} (hd : decode cc pc = .ok (.ishr, 1)) : PRow l own cc nL ret ini D cA B G pc (fBin pc o_ishr) := by
  intro lv st pc' lv' st' hf p e R s m args below meth c Q C H locs ls cells slots hl kk
  unfold fBin at hf
  split at hf
  · next y x r =>
    cases hf
    exact lv_ishr C.1 C.2.1 hd (kk ls hl)
  · cases hf
def o_iushr : Int32 → Int32 → Int32 := fun x y => (x.toUInt32 >>> (y.toUInt32 &&& Int32.toUInt32 31)).toInt32
theorem pr_iushr {l : Launch} {own : String} {cc : ByteArray} {nL : Nat} {ret : Option FieldType} {ini : Bool} {D : va_G} {cA : Nat → ClassId} {B : BB} {G : State → Prop} {pc : Nat} (hd : decode cc pc = .ok (.iushr, 1)) : PRow l own cc nL ret ini D cA B G pc (fBin pc o_iushr) := by
  intro lv st pc' lv' st' hf p e R s m args below meth c Q C H locs ls cells slots hl kk
  unfold fBin at hf
  split at hf
  · next y x r =>
    cases hf
    exact lv_iushr C.1 C.2.1 hd rfl (kk ls hl)
  · cases hf
def fDiv (pc : Nat) : Lv → List Value → Option (Nat × Lv × List Value) := fun lv st => match st with
  | .int y :: .int x :: r => if y = 0 then none else some (pc + 1, lv, .int (x / y) :: r)
  | _ => none
theorem pr_idiv {l : Launch} {own : String} {cc : ByteArray} {nL : Nat} {ret : Option FieldType} {ini : Bool} {D : va_G} {cA : Nat → ClassId} {B : BB} {G : State → Prop} {pc : Nat} (hd : decode cc pc = .ok (.idiv, 1)) : PRow l own cc nL ret ini D cA B G pc (fDiv pc) := by
  intro lv st pc' lv' st' hf p e R s m args below meth c Q C H locs ls cells slots hl kk
  unfold fDiv at hf
  split at hf
  · next y x r =>
    split at hf
    · cases hf
    · next hn =>
      cases hf
      exact lv_idiv C.1 C.2.1 hd hn (kk ls hl)
  · cases hf
def fBinJ (pc : Nat) (f : Int64 → Int64 → Int64) : Lv → List Value → Option (Nat × Lv × List Value) := fun lv st => match st with
  | .long y :: .long x :: r => some (pc + 1, lv, .long (f x y) :: r)
  | _ => none
def o_ladd : Int64 → Int64 → Int64 := fun x y => x + y
theorem pr_ladd {l : Launch} {own : String} {cc : ByteArray} {nL : Nat} {ret : Option FieldType} {ini : Bool} {D : va_G} {cA : Nat → ClassId} {B : BB} {G : State → Prop} {pc : Nat} (hd : decode cc pc = .ok (.ladd, 1)) : PRow l own cc nL ret ini D cA B G pc (fBinJ pc o_ladd) := by
  intro lv st pc' lv' st' hf p e R s m args below meth c Q C H locs ls cells slots hl kk
  unfold fBinJ at hf
  split at hf
  · next y x r =>
    cases hf
    exact lv_ladd C.1 C.2.1 hd (kk ls hl)
  · cases hf
def o_lsub : Int64 → Int64 → Int64 := fun x y => x - y
theorem pr_lsub {l : Launch} {own : String} {cc : ByteArray} {nL : Nat} {ret : Option FieldType} {ini : Bool} {D : va_G} {cA : Nat → ClassId} {B : BB} {G : State → Prop} {pc : Nat} (hd : decode cc pc = .ok (.lsub, 1)) : PRow l own cc nL ret ini D cA B G pc (fBinJ pc o_lsub) := by
  intro lv st pc' lv' st' hf p e R s m args below meth c Q C H locs ls cells slots hl kk
  unfold fBinJ at hf
  split at hf
  · next y x r =>
    cases hf
    exact lv_lsub C.1 C.2.1 hd (kk ls hl)
  · cases hf
def o_lmul : Int64 → Int64 → Int64 := fun x y => x * y
theorem pr_lmul {l : Launch} {own : String} {cc : ByteArray} {nL : Nat} {ret : Option FieldType} {ini : Bool} {D : va_G} {cA : Nat → ClassId} {B : BB} {G : State → Prop} {pc : Nat} (hd : decode cc pc = .ok (.lmul, 1)) : PRow l own cc nL ret ini D cA B G pc (fBinJ pc o_lmul) := by
  intro lv st pc' lv' st' hf p e R s m args below meth c Q C H locs ls cells slots hl kk
  unfold fBinJ at hf
  split at hf
  · next y x r =>
    cases hf
    exact lv_lmul C.1 C.2.1 hd (kk ls hl)
  · cases hf
def o_land : Int64 → Int64 → Int64 := fun x y => x &&& y
theorem pr_land {l : Launch} {own : String} {cc : ByteArray} {nL : Nat} {ret : Option FieldType} {ini : Bool} {D : va_G} {cA : Nat → ClassId} {B : BB} {G : State → Prop} {pc : Nat} (hd : decode cc pc = .ok (.land, 1)) : PRow l own cc nL ret ini D cA B G pc (fBinJ pc o_land) := by
  intro lv st pc' lv' st' hf p e R s m args below meth c Q C H locs ls cells slots hl kk
  unfold fBinJ at hf
  split at hf
  · next y x r =>
    cases hf
    exact lv_land C.1 C.2.1 hd (kk ls hl)
  · cases hf
def o_lor : Int64 → Int64 → Int64 := fun x y => x ||| y
theorem pr_lor {l : Launch} {own : String} {cc : ByteArray} {nL : Nat} {ret : Option FieldType} {ini : Bool} {D : va_G} {cA : Nat → ClassId} {B : BB} {G : State → Prop} {pc : Nat} (hd : decode cc pc = .ok (.lor, 1)) : PRow l own cc nL ret ini D cA B G pc (fBinJ pc o_lor) := by
  intro lv st pc' lv' st' hf p e R s m args below meth c Q C H locs ls cells slots hl kk
  unfold fBinJ at hf
  split at hf
  · next y x r =>
    cases hf
    exact lv_lor C.1 C.2.1 hd (kk ls hl)
  · cases hf
def fShJ (pc : Nat) (f : Int64 → Int32 → Int64) : Lv → List Value → Option (Nat × Lv × List Value) := fun lv st => match st with
  | .int y :: .long x :: r => some (pc + 1, lv, .long (f x y) :: r)
  | _ => none
def o_lushr : Int64 → Int32 → Int64 := fun x y => (x.toUInt64 >>> (y.toInt64.toUInt64 &&& Int64.toUInt64 63)).toInt64
theorem pr_lushr {l : Launch} {own : String} {cc : ByteArray} {nL : Nat} {ret : Option FieldType} {ini : Bool} {D : va_G} {cA : Nat → ClassId} {B : BB} {G : State → Prop} {pc : Nat} (hd : decode cc pc = .ok (.lushr, 1)) : PRow l own cc nL ret ini D cA B G pc (fShJ pc o_lushr) := by
  intro lv st pc' lv' st' hf p e R s m args below meth c Q C H locs ls cells slots hl kk
  unfold fShJ at hf
  split at hf
  · next y x r =>
    cases hf
    exact lv_lushr C.1 C.2.1 hd rfl (kk ls hl)
  · cases hf
def o_lshl : Int64 → Int32 → Int64 := fun x y => x <<< (y.toInt64 &&& 63)
theorem pr_lshl {l : Launch} {own : String} {cc : ByteArray} {nL : Nat} {ret : Option FieldType} {ini : Bool} {D : va_G} {cA : Nat → ClassId} {B : BB} {G : State → Prop} {pc : Nat} (hd : decode cc pc = .ok (.lshl, 1)) : PRow l own cc nL ret ini D cA B G pc (fShJ pc o_lshl) := by
  intro lv st pc' lv' st' hf p e R s m args below meth c Q C H locs ls cells slots hl kk
  unfold fShJ at hf
  split at hf
  · next y x r =>
    cases hf
    exact lv_lshl C.1 C.2.1 hd rfl (kk ls hl)
  · cases hf
def o_lshr : Int64 → Int32 → Int64 := fun x y => x >>> (y.toInt64 &&& 63)
theorem pr_lshr {l : Launch} {own : String} {cc : ByteArray} {nL : Nat} {ret : Option FieldType} {ini : Bool} {D : va_G} {cA : Nat → ClassId} {B : BB} {G : State → Prop} {pc : Nat} (hd : decode cc pc = .ok (.lshr, 1)) : PRow l own cc nL ret ini D cA B G pc (fShJ pc o_lshr) := by
  intro lv st pc' lv' st' hf p e R s m args below meth c Q C H locs ls cells slots hl kk
  unfold fShJ at hf
  split at hf
  · next y x r =>
    cases hf
    exact lv_lshr C.1 C.2.1 hd rfl (kk ls hl)
  · cases hf
def fLcmp (pc : Nat) : Lv → List Value → Option (Nat × Lv × List Value) := fun lv st => match st with
  | .long y :: .long x :: r => some (pc + 1, lv, .int (lg_cmp x y) :: r)
  | _ => none
theorem pr_lcmp {l : Launch} {own : String} {cc : ByteArray} {nL : Nat} {ret : Option FieldType} {ini : Bool} {D : va_G} {cA : Nat → ClassId} {B : BB} {G : State → Prop} {pc : Nat} (hd : decode cc pc = .ok (.lcmp, 1)) : PRow l own cc nL ret ini D cA B G pc (fLcmp pc) := by
  intro lv st pc' lv' st' hf p e R s m args below meth c Q C H locs ls cells slots hl kk
  unfold fLcmp at hf
  split at hf
  · next y x r =>
    cases hf
    exact W.lcmp C.1 C.2.1 hd (kk ls hl)
  · cases hf
def f_i2l (pc : Nat) : Lv → List Value → Option (Nat × Lv × List Value) := fun lv st => match st with
  | .int x :: r => some (pc + 1, lv, .long (x.toInt64) :: r)
  | _ => none
theorem pr_i2l {l : Launch} {own : String} {cc : ByteArray} {nL : Nat} {ret : Option FieldType} {ini : Bool} {D : va_G} {cA : Nat → ClassId} {B : BB} {G : State → Prop} {pc : Nat} (hd : decode cc pc = .ok (.i2l, 1)) : PRow l own cc nL ret ini D cA B G pc (f_i2l pc) := by
  intro lv st pc' lv' st' hf p e R s m args below meth c Q C H locs ls cells slots hl kk
  unfold f_i2l at hf
  split at hf
  · next x r =>
    cases hf
    exact lv_i2l C.1 C.2.1 hd rfl (kk ls hl)
  · cases hf
def f_l2i (pc : Nat) : Lv → List Value → Option (Nat × Lv × List Value) := fun lv st => match st with
  | .long x :: r => some (pc + 1, lv, .int (x.toInt32) :: r)
  | _ => none
theorem pr_l2i {l : Launch} {own : String} {cc : ByteArray} {nL : Nat} {ret : Option FieldType} {ini : Bool} {D : va_G} {cA : Nat → ClassId} {B : BB} {G : State → Prop} {pc : Nat} (hd : decode cc pc = .ok (.l2i, 1)) : PRow l own cc nL ret ini D cA B G pc (f_l2i pc) := by
  intro lv st pc' lv' st' hf p e R s m args below meth c Q C H locs ls cells slots hl kk
  unfold f_l2i at hf
  split at hf
  · next x r =>
    cases hf
    exact lv_l2i C.1 C.2.1 hd rfl (kk ls hl)
  · cases hf
def f_i2b (pc : Nat) : Lv → List Value → Option (Nat × Lv × List Value) := fun lv st => match st with
  | .int x :: r => some (pc + 1, lv, .int (x.toInt8.toInt32) :: r)
  | _ => none
theorem pr_i2b {l : Launch} {own : String} {cc : ByteArray} {nL : Nat} {ret : Option FieldType} {ini : Bool} {D : va_G} {cA : Nat → ClassId} {B : BB} {G : State → Prop} {pc : Nat} (hd : decode cc pc = .ok (.i2b, 1)) : PRow l own cc nL ret ini D cA B G pc (f_i2b pc) := by
  intro lv st pc' lv' st' hf p e R s m args below meth c Q C H locs ls cells slots hl kk
  unfold f_i2b at hf
  split at hf
  · next x r =>
    cases hf
    exact lv_i2b C.1 C.2.1 hd rfl (kk ls hl)
  · cases hf
def f_i2c (pc : Nat) : Lv → List Value → Option (Nat × Lv × List Value) := fun lv st => match st with
  | .int x :: r => some (pc + 1, lv, .int ((x.toUInt32 % 65536).toInt32) :: r)
  | _ => none
theorem pr_i2c {l : Launch} {own : String} {cc : ByteArray} {nL : Nat} {ret : Option FieldType} {ini : Bool} {D : va_G} {cA : Nat → ClassId} {B : BB} {G : State → Prop} {pc : Nat} (hd : decode cc pc = .ok (.i2c, 1)) : PRow l own cc nL ret ini D cA B G pc (f_i2c pc) := by
  intro lv st pc' lv' st' hf p e R s m args below meth c Q C H locs ls cells slots hl kk
  unfold f_i2c at hf
  split at hf
  · next x r =>
    cases hf
    exact lv_i2c C.1 C.2.1 hd rfl (kk ls hl)
  · cases hf
def fIf1 (pc t : Nat) (f : Int32 → Bool) : Lv → List Value → Option (Nat × Lv × List Value) := fun lv st => match st with
  | .int x :: r => some (if f x = true then t else pc + 3, lv, r)
  | _ => none
def fIf2 (pc t : Nat) (f : Int32 → Int32 → Bool) : Lv → List Value → Option (Nat × Lv × List Value) := fun lv st => match st with
  | .int y :: .int x :: r => some (if f x y = true then t else pc + 3, lv, r)
  | _ => none
def b1_eq : Int32 → Bool := fun x => decide (x = 0)
theorem pr_if_eq {l : Launch} {own : String} {cc : ByteArray} {nL : Nat} {ret : Option FieldType} {ini : Bool} {D : va_G} {cA : Nat → ClassId} {B : BB} {G : State → Prop} {pc : Nat} {t : Nat} {off : Int} (hd : decode cc pc = .ok (.ifCond .eq off, 3)) (ht : (pc : Int) + off = (t : Int)) : PRow l own cc nL ret ini D cA B G pc (fIf1 pc t b1_eq) := by
  intro lv st pc' lv' st' hf p e R s m args below meth c Q C H locs ls cells slots hl kk
  unfold fIf1 at hf
  split at hf
  · next x r =>
    cases hf
    refine lv_if_eq C.1 C.2.1 hd ht (fun q => ?_) (fun q => ?_)
    · have k := kk ls hl
      rw [if_pos (by first | exact decide_eq_true q | simp [b1_eq]; exact q)] at k
      exact k
    · have k := kk ls hl
      rw [if_neg (by intro z; first | exact q (of_decide_eq_true z) | exact (of_decide_eq_true z) q)] at k
      exact k
  · cases hf
def b1_ne : Int32 → Bool := fun x => decide (x ≠ 0)
theorem pr_if_ne {l : Launch} {own : String} {cc : ByteArray} {nL : Nat} {ret : Option FieldType} {ini : Bool} {D : va_G} {cA : Nat → ClassId} {B : BB} {G : State → Prop} {pc : Nat} {t : Nat} {off : Int} (hd : decode cc pc = .ok (.ifCond .ne off, 3)) (ht : (pc : Int) + off = (t : Int)) : PRow l own cc nL ret ini D cA B G pc (fIf1 pc t b1_ne) := by
  intro lv st pc' lv' st' hf p e R s m args below meth c Q C H locs ls cells slots hl kk
  unfold fIf1 at hf
  split at hf
  · next x r =>
    cases hf
    refine lv_if_ne C.1 C.2.1 hd ht (fun q => ?_) (fun q => ?_)
    · have k := kk ls hl
      rw [if_pos (by first | exact decide_eq_true q | simp [b1_ne]; exact q)] at k
      exact k
    · have k := kk ls hl
      rw [if_neg (by intro z; first | exact q (of_decide_eq_true z) | exact (of_decide_eq_true z) q)] at k
      exact k
  · cases hf
def b1_lt : Int32 → Bool := fun x => decide (x < 0)
theorem pr_if_lt {l : Launch} {own : String} {cc : ByteArray} {nL : Nat} {ret : Option FieldType} {ini : Bool} {D : va_G} {cA : Nat → ClassId} {B : BB} {G : State → Prop} {pc : Nat} {t : Nat} {off : Int} (hd : decode cc pc = .ok (.ifCond .lt off, 3)) (ht : (pc : Int) + off = (t : Int)) : PRow l own cc nL ret ini D cA B G pc (fIf1 pc t b1_lt) := by
  intro lv st pc' lv' st' hf p e R s m args below meth c Q C H locs ls cells slots hl kk
  unfold fIf1 at hf
  split at hf
  · next x r =>
    cases hf
    refine lv_if_lt C.1 C.2.1 hd ht (fun q => ?_) (fun q => ?_)
    · have k := kk ls hl
      rw [if_pos (by first | exact decide_eq_true q | simp [b1_lt]; exact q)] at k
      exact k
    · have k := kk ls hl
      rw [if_neg (by intro z; first | exact q (of_decide_eq_true z) | exact (of_decide_eq_true z) q)] at k
      exact k
  · cases hf
def b1_ge : Int32 → Bool := fun x => decide (0 ≤ x)
theorem pr_if_ge {l : Launch} {own : String} {cc : ByteArray} {nL : Nat} {ret : Option FieldType} {ini : Bool} {D : va_G} {cA : Nat → ClassId} {B : BB} {G : State → Prop} {pc : Nat} {t : Nat} {off : Int} (hd : decode cc pc = .ok (.ifCond .ge off, 3)) (ht : (pc : Int) + off = (t : Int)) : PRow l own cc nL ret ini D cA B G pc (fIf1 pc t b1_ge) := by
  intro lv st pc' lv' st' hf p e R s m args below meth c Q C H locs ls cells slots hl kk
  unfold fIf1 at hf
  split at hf
  · next x r =>
    cases hf
    refine lv_if_ge C.1 C.2.1 hd ht (fun q => ?_) (fun q => ?_)
    · have k := kk ls hl
      rw [if_pos (by first | exact decide_eq_true q | simp [b1_ge]; exact q)] at k
      exact k
    · have k := kk ls hl
      rw [if_neg (by intro z; first | exact q (of_decide_eq_true z) | exact (of_decide_eq_true z) q)] at k
      exact k
  · cases hf
def b1_gt : Int32 → Bool := fun x => decide (0 < x)
theorem pr_if_gt {l : Launch} {own : String} {cc : ByteArray} {nL : Nat} {ret : Option FieldType} {ini : Bool} {D : va_G} {cA : Nat → ClassId} {B : BB} {G : State → Prop} {pc : Nat} {t : Nat} {off : Int} (hd : decode cc pc = .ok (.ifCond .gt off, 3)) (ht : (pc : Int) + off = (t : Int)) : PRow l own cc nL ret ini D cA B G pc (fIf1 pc t b1_gt) := by
  intro lv st pc' lv' st' hf p e R s m args below meth c Q C H locs ls cells slots hl kk
  unfold fIf1 at hf
  split at hf
  · next x r =>
    cases hf
    refine lv_if_gt C.1 C.2.1 hd ht (fun q => ?_) (fun q => ?_)
    · have k := kk ls hl
      rw [if_pos (by first | exact decide_eq_true q | simp [b1_gt]; exact q)] at k
      exact k
    · have k := kk ls hl
      rw [if_neg (by intro z; first | exact q (of_decide_eq_true z) | exact (of_decide_eq_true z) q)] at k
      exact k
  · cases hf
def b1_le : Int32 → Bool := fun x => decide (x ≤ 0)
theorem pr_if_le {l : Launch} {own : String} {cc : ByteArray} {nL : Nat} {ret : Option FieldType} {ini : Bool} {D : va_G} {cA : Nat → ClassId} {B : BB} {G : State → Prop} {pc : Nat} {t : Nat} {off : Int} (hd : decode cc pc = .ok (.ifCond .le off, 3)) (ht : (pc : Int) + off = (t : Int)) : PRow l own cc nL ret ini D cA B G pc (fIf1 pc t b1_le) := by
  intro lv st pc' lv' st' hf p e R s m args below meth c Q C H locs ls cells slots hl kk
  unfold fIf1 at hf
  split at hf
  · next x r =>
    cases hf
    refine lv_if_le C.1 C.2.1 hd ht (fun q => ?_) (fun q => ?_)
    · have k := kk ls hl
      rw [if_pos (by first | exact decide_eq_true q | simp [b1_le]; exact q)] at k
      exact k
    · have k := kk ls hl
      rw [if_neg (by intro z; first | exact q (of_decide_eq_true z) | exact (of_decide_eq_true z) q)] at k
      exact k
  · cases hf
def b2_eq : Int32 → Int32 → Bool := fun x y => decide (x = y)
theorem pr_icmp_eq {l : Launch} {own : String} {cc : ByteArray} {nL : Nat} {ret : Option FieldType} {ini : Bool} {D : va_G} {cA : Nat → ClassId} {B : BB} {G : State → Prop} {pc : Nat} {t : Nat} {off : Int} (hd : decode cc pc = .ok (.if_icmp .eq off, 3)) (ht : (pc : Int) + off = (t : Int)) : PRow l own cc nL ret ini D cA B G pc (fIf2 pc t b2_eq) := by
  intro lv st pc' lv' st' hf p e R s m args below meth c Q C H locs ls cells slots hl kk
  unfold fIf2 at hf
  split at hf
  · next y x r =>
    cases hf
    refine lv_icmp_eq C.1 C.2.1 hd ht (fun q => ?_) (fun q => ?_)
    · have k := kk ls hl
      rw [if_pos (by exact decide_eq_true q)] at k
      exact k
    · have k := kk ls hl
      rw [if_neg (by intro z; first | exact q (of_decide_eq_true z) | exact (of_decide_eq_true z) q)] at k
      exact k
  · cases hf
def b2_ne : Int32 → Int32 → Bool := fun x y => decide (x ≠ y)
theorem pr_icmp_ne {l : Launch} {own : String} {cc : ByteArray} {nL : Nat} {ret : Option FieldType} {ini : Bool} {D : va_G} {cA : Nat → ClassId} {B : BB} {G : State → Prop} {pc : Nat} {t : Nat} {off : Int} (hd : decode cc pc = .ok (.if_icmp .ne off, 3)) (ht : (pc : Int) + off = (t : Int)) : PRow l own cc nL ret ini D cA B G pc (fIf2 pc t b2_ne) := by
  intro lv st pc' lv' st' hf p e R s m args below meth c Q C H locs ls cells slots hl kk
  unfold fIf2 at hf
  split at hf
  · next y x r =>
    cases hf
    refine lv_icmp_ne C.1 C.2.1 hd ht (fun q => ?_) (fun q => ?_)
    · have k := kk ls hl
      rw [if_pos (by exact decide_eq_true q)] at k
      exact k
    · have k := kk ls hl
      rw [if_neg (by intro z; first | exact q (of_decide_eq_true z) | exact (of_decide_eq_true z) q)] at k
      exact k
  · cases hf
def b2_lt : Int32 → Int32 → Bool := fun x y => decide (x < y)
theorem pr_icmp_lt {l : Launch} {own : String} {cc : ByteArray} {nL : Nat} {ret : Option FieldType} {ini : Bool} {D : va_G} {cA : Nat → ClassId} {B : BB} {G : State → Prop} {pc : Nat} {t : Nat} {off : Int} (hd : decode cc pc = .ok (.if_icmp .lt off, 3)) (ht : (pc : Int) + off = (t : Int)) : PRow l own cc nL ret ini D cA B G pc (fIf2 pc t b2_lt) := by
  intro lv st pc' lv' st' hf p e R s m args below meth c Q C H locs ls cells slots hl kk
  unfold fIf2 at hf
  split at hf
  · next y x r =>
    cases hf
    refine lv_icmp_lt C.1 C.2.1 hd ht (fun q => ?_) (fun q => ?_)
    · have k := kk ls hl
      rw [if_pos (by exact decide_eq_true q)] at k
      exact k
    · have k := kk ls hl
      rw [if_neg (by intro z; first | exact q (of_decide_eq_true z) | exact (of_decide_eq_true z) q)] at k
      exact k
  · cases hf
def b2_ge : Int32 → Int32 → Bool := fun x y => decide (y ≤ x)
theorem pr_icmp_ge {l : Launch} {own : String} {cc : ByteArray} {nL : Nat} {ret : Option FieldType} {ini : Bool} {D : va_G} {cA : Nat → ClassId} {B : BB} {G : State → Prop} {pc : Nat} {t : Nat} {off : Int} (hd : decode cc pc = .ok (.if_icmp .ge off, 3)) (ht : (pc : Int) + off = (t : Int)) : PRow l own cc nL ret ini D cA B G pc (fIf2 pc t b2_ge) := by
  intro lv st pc' lv' st' hf p e R s m args below meth c Q C H locs ls cells slots hl kk
  unfold fIf2 at hf
  split at hf
  · next y x r =>
    cases hf
    refine lv_icmp_ge C.1 C.2.1 hd ht (fun q => ?_) (fun q => ?_)
    · have k := kk ls hl
      rw [if_pos (by exact decide_eq_true q)] at k
      exact k
    · have k := kk ls hl
      rw [if_neg (by intro z; first | exact q (of_decide_eq_true z) | exact (of_decide_eq_true z) q)] at k
      exact k
  · cases hf
def b2_gt : Int32 → Int32 → Bool := fun x y => decide (y < x)
theorem pr_icmp_gt {l : Launch} {own : String} {cc : ByteArray} {nL : Nat} {ret : Option FieldType} {ini : Bool} {D : va_G} {cA : Nat → ClassId} {B : BB} {G : State → Prop} {pc : Nat} {t : Nat} {off : Int} (hd : decode cc pc = .ok (.if_icmp .gt off, 3)) (ht : (pc : Int) + off = (t : Int)) : PRow l own cc nL ret ini D cA B G pc (fIf2 pc t b2_gt) := by
  intro lv st pc' lv' st' hf p e R s m args below meth c Q C H locs ls cells slots hl kk
  unfold fIf2 at hf
  split at hf
  · next y x r =>
    cases hf
    refine lv_icmp_gt C.1 C.2.1 hd ht (fun q => ?_) (fun q => ?_)
    · have k := kk ls hl
      rw [if_pos (by exact decide_eq_true q)] at k
      exact k
    · have k := kk ls hl
      rw [if_neg (by intro z; first | exact q (of_decide_eq_true z) | exact (of_decide_eq_true z) q)] at k
      exact k
  · cases hf
def b2_le : Int32 → Int32 → Bool := fun x y => decide (x ≤ y)
theorem pr_icmp_le {l : Launch} {own : String} {cc : ByteArray} {nL : Nat} {ret : Option FieldType} {ini : Bool} {D : va_G} {cA : Nat → ClassId} {B : BB} {G : State → Prop} {pc : Nat} {t : Nat} {off : Int} (hd : decode cc pc = .ok (.if_icmp .le off, 3)) (ht : (pc : Int) + off = (t : Int)) : PRow l own cc nL ret ini D cA B G pc (fIf2 pc t b2_le) := by
  intro lv st pc' lv' st' hf p e R s m args below meth c Q C H locs ls cells slots hl kk
  unfold fIf2 at hf
  split at hf
  · next y x r =>
    cases hf
    refine lv_icmp_le C.1 C.2.1 hd ht (fun q => ?_) (fun q => ?_)
    · have k := kk ls hl
      rw [if_pos (by exact decide_eq_true q)] at k
      exact k
    · have k := kk ls hl
      rw [if_neg (by intro z; first | exact q (of_decide_eq_true z) | exact (of_decide_eq_true z) q)] at k
      exact k
  · cases hf
def fGoto (t : Nat) : Lv → List Value → Option (Nat × Lv × List Value) := fun lv st => some (t, lv, st)
theorem pr_goto {l : Launch} {own : String} {cc : ByteArray} {nL : Nat} {ret : Option FieldType} {ini : Bool} {D : va_G} {cA : Nat → ClassId} {B : BB} {G : State → Prop} {pc : Nat} {t : Nat} {off : Int} (hd : decode cc pc = .ok (.goto off, 3)) (ht : (pc : Int) + off = (t : Int)) : PRow l own cc nL ret ini D cA B G pc (fGoto t) := by
  intro lv st pc' lv' st' hf p e R s m args below meth c Q C H locs ls cells slots hl kk
  cases hf
  exact lv_goto C.1 C.2.1 hd ht (kk ls hl)
def fDup (pc : Nat) : Lv → List Value → Option (Nat × Lv × List Value) := fun lv st => match st with
  | x :: r => if x.category = 1 then some (pc + 1, lv, x :: x :: r) else none
  | _ => none
theorem pr_dup {l : Launch} {own : String} {cc : ByteArray} {nL : Nat} {ret : Option FieldType} {ini : Bool} {D : va_G} {cA : Nat → ClassId} {B : BB} {G : State → Prop} {pc : Nat} (hd : decode cc pc = .ok (.dup, 1)) : PRow l own cc nL ret ini D cA B G pc (fDup pc) := by
  intro lv st pc' lv' st' hf p e R s m args below meth c Q C H locs ls cells slots hl kk
  unfold fDup at hf
  split at hf
  · next x r =>
    split at hf
    · next hc =>
      cases hf
      exact lv_dup C.1 C.2.1 hd ((dv_cat B x).trans hc) (kk ls hl)
    · cases hf
  · cases hf
def fDup2 (pc : Nat) : Lv → List Value → Option (Nat × Lv × List Value) := fun lv st => match st with
  | x :: y :: r => if x.category = 1 ∧ y.category = 1 then some (pc + 1, lv, x :: y :: x :: y :: r) else none
  | _ => none
theorem pr_dup2 {l : Launch} {own : String} {cc : ByteArray} {nL : Nat} {ret : Option FieldType} {ini : Bool} {D : va_G} {cA : Nat → ClassId} {B : BB} {G : State → Prop} {pc : Nat} (hd : decode cc pc = .ok (.dup2, 1)) : PRow l own cc nL ret ini D cA B G pc (fDup2 pc) := by
  intro lv st pc' lv' st' hf p e R s m args below meth c Q C H locs ls cells slots hl kk
  unfold fDup2 at hf
  split at hf
  · next x y r =>
    split at hf
    · next hc =>
      cases hf
      exact lv_dup2_11 C.1 C.2.1 hd ((dv_cat B x).trans hc.1) ((dv_cat B y).trans hc.2) (kk ls hl)
    · cases hf
  · cases hf
def fPop (pc : Nat) : Lv → List Value → Option (Nat × Lv × List Value) := fun lv st => match st with
  | x :: r => if x.category = 1 then some (pc + 1, lv, r) else none
  | _ => none
theorem pr_pop {l : Launch} {own : String} {cc : ByteArray} {nL : Nat} {ret : Option FieldType} {ini : Bool} {D : va_G} {cA : Nat → ClassId} {B : BB} {G : State → Prop} {pc : Nat} (hd : decode cc pc = .ok (.pop, 1)) : PRow l own cc nL ret ini D cA B G pc (fPop pc) := by
  intro lv st pc' lv' st' hf p e R s m args below meth c Q C H locs ls cells slots hl kk
  unfold fPop at hf
  split at hf
  · next x r =>
    split at hf
    · next hc =>
      cases hf
      exact lv_pop C.1 C.2.1 hd ((dv_cat B x).trans hc) (kk ls hl)
    · cases hf
  · cases hf
def swt (x : Int) (lo : Int) (ts : List Nat) (t0 : Nat) : Nat := if x < lo then t0 else (ts[(x - lo).toNat]?).getD t0
def fSw (lo : Int) (ts : List Nat) (t0 : Nat) : Lv → List Value → Option (Nat × Lv × List Value) := fun lv st => match st with
  | .int x :: r => some (swt x.toInt lo ts t0, lv, r)
  | _ => none
theorem pr_tsw {l : Launch} {own : String} {cc : ByteArray} {nL : Nat} {ret : Option FieldType} {ini : Bool} {D : va_G} {cA : Nat → ClassId} {B : BB} {G : State → Prop} {pc : Nat} {dflt lo hi : Int} {offs : Array Int} {n : Nat} {ts : List Nat} {t0 : Nat} (hd : decode cc pc = .ok (.tableswitch dflt lo hi offs, n)) (h0 : (pc : Int) + dflt = (t0 : Int)) (hn : hi - lo + 1 = (ts.length : Int)) (hz : offs.toList.map (fun o => (pc : Int) + o) = ts.map (fun t : Nat => (t : Int))) : PRow l own cc nL ret ini D cA B G pc (fSw lo ts t0) := by
  intro lv st pc' lv' st' hf p e R s m args below meth c Q C H locs ls cells slots hl kk
  unfold fSw at hf
  split at hf
  · next x r =>
    cases hf
    have k := kk ls hl
    by_cases h1 : x.toInt < lo
    · rw [show swt x.toInt lo ts t0 = t0 from if_pos h1] at k
      exact lv_tableOut C.1 C.2.1 hd (Or.inl h1) h0 k
    · by_cases h2 : hi < x.toInt
      · have hl2 : ts.length ≤ (x.toInt - lo).toNat := by omega
        rw [show swt x.toInt lo ts t0 = t0 from by unfold swt; rw [if_neg h1, List.getElem?_eq_none hl2]; rfl] at k
        exact lv_tableOut C.1 C.2.1 hd (Or.inr h2) h0 k
      · have hl2 : (x.toInt - lo).toNat < ts.length := by omega
        have e1 : offs[(x.toInt - lo).toNat]?.map (fun o => (pc : Int) + o) = some ((ts[(x.toInt - lo).toNat] : Nat) : Int) := by
          rw [← Array.getElem?_toList, ← List.getElem?_map, hz, List.getElem?_map, List.getElem?_eq_getElem hl2]
          rfl
        cases ho : offs[(x.toInt - lo).toNat]? with
        | none => rw [ho] at e1; cases e1
        | some off =>
          rw [ho] at e1
          have e2 : (pc : Int) + off = ((ts[(x.toInt - lo).toNat] : Nat) : Int) := by simpa using e1
          rw [show swt x.toInt lo ts t0 = ts[(x.toInt - lo).toNat] from by unfold swt; rw [if_neg h1, List.getElem?_eq_getElem hl2]; rfl] at k
          exact lv_tableIn C.1 C.2.1 hd h1 h2 ho e2 k
  · cases hf
