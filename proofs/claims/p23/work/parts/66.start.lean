def R_law : String := "TankerDeskLaw"
theorem W_mono {p : Program} {l : Launch} {e : Env} {R : Room} {s : State} {m : MethodId} {args : Array Value} {below : List Frame} {meth : Method} {c : Code} {H : Heap} {locs : List Loc} {cells slots : Nat} {Q Q' : State → Prop} {g : JFrame} (hQ : ∀ t, Q t → Q' t) (k : W p l e R s m args below meth c H locs cells slots Q g) : W p l e R s m args below meth c H locs cells slots Q' g := by
  intro T hT X
  obtain ⟨t, a, b⟩ := k T hT X
  exact ⟨t, a, hQ t b⟩
/-! THE CLAIM OUT OF ONE WALK OF THE LAW'S BODY. Your part is whole_start (and what it stands on); all else here is the same for every law, but numbers. -/
def lw_P (b : Addr) (xs : List Int32) (args : Array Value) (s : State) : Prop := args = #[.ref b] ∧ s.IntsAt b xs ∧ xs.length ≤ 3072 ∧ (Jvm.Cond.and given_1 narrow_1).before args s = true
def lw_Q (_ : Array Value) (s : State) (o : Outcome) (t : State) : Prop := o = .returned (some (.int 1)) ∧ Framed s o t [] 601024 7293033
def lw_Z (below : List Frame) (a : Array Value) (s : State) : State → Prop := fun t => ∃ o, t.status = .running ∧ Ended t below o ∧ lw_Q a s o t
/-- the law's own end, with 1 on the stack, nothing written that was there before, its room as the claim has it -/
theorem lw_ret {p : Program} {l : Launch} {e : Env} {s : State} {m : MethodId} {below : List Frame} {meth : Method} {c : Code} {b : Nat} (hx : p.tables.exec = Jvm.exec) (hb : c.code = code) (hr : meth.sig.returnType = ret) (hlocks : meth.locks = false) {pc : Nat} {H : Heap} {ls : Array Slot} (hdg : decode code pc = .ok (.ireturn, 1)) : W p l e room_1 s m #[Value.ref b] below meth c H [] 601024 7293033 (lw_Z below #[Value.ref b] s) (F0 m pc ls [.int 1]) := by
  intro T hT X
  obtain ⟨fs, hret, hrun, hended, hW, hframe⟩ := X.leave (v := some (.int 1)) (hlocks := hlocks) (fun h => by rw [hr] at h; cases h)
  have hmeth' : T.vm.method? m = some meth := X.method'
  refine ⟨T.setFrames fs, ?_, .returned (some (.int 1)), hrun, hended, rfl, ⟨_, rfl⟩, hW, hframe⟩
  jvm_step X.here [X.here.top, hx, hb, hdg, hmeth', hr, ret, narrow_b1]
  (try refine ⟨rfl, ?_⟩); (try refine ⟨rfl, ?_⟩)
  first | (intro acts; rw [hret _ acts rfl rfl rfl]) | rw [hret _ _ rfl rfl rfl]
  exact Steps.refl _
/-- what holds at the law's entry: the machine, the code, the tables' words (any of lw_tbl by 'hts w (by decide +kernel)'), the script of L ints xs at the cell b, what the Statement gives of the start (any of its parts by flat_of_before) -/
def lw_At (p : Program) (s : State) (m : MethodId) (meth : Method) (c : Code) (b L : Nat) (xs : Nat → Int32) : Prop :=
  p.tables.exec = Jvm.exec ∧ c.code = code ∧ meth.sig.returnType = ret ∧ c.maxLocals = 7 ∧ s.vm.findClass R_law = some m.cls ∧ (∀ w ∈ lw_tbl, w.before #[Value.ref b] s = true) ∧ va_X b L xs s s.heap ∧ b < s.heap.size ∧ meth.locks = false ∧ (Jvm.Cond.and given_1 narrow_1).before #[Value.ref b] s = true
/-- what the law's end must leave, out of what a run leaves -/
theorem lw_out {below : List Frame} {b : Nat} {s : State} {D : va_G} {cA : Nat → ClassId} {B : BB} {h : List AC} {mc ms : Nat} (hB : B.1 = s.heap.size) (h1 : mc ≤ 601024) (h2 : ms ≤ 7293033) : ∀ t, MQ below (Qr D cA B (some (.int 1)) h) #[Value.ref b] s mc ms (fun q => B.1 ≤ q) t → lw_Z below #[Value.ref b] s t := by
  intro t ht
  obtain ⟨o, a1, a2, ⟨a3, -⟩, L, ⟨f1, f2, f3⟩, a5⟩ := ht
  refine ⟨o, a1, a2, a3, f1, f2, ?_⟩
  obtain ⟨e1, e2, e3, e4, e5, e6⟩ := f3
  refine ⟨e1, e2, Nat.le_trans e3 (Nat.add_le_add_left h1 _), e4, Nat.le_trans e5 h2, fun a c hc => ?_⟩
  obtain ⟨c', g1, g2, g3, g4⟩ := e6 a c hc
  refine ⟨c', g1, g2, g3, fun i _ => g4 i (fun hm => ?_)⟩
  have h9 : B.1 ≤ a := a5 _ hm
  have h8 : a < s.heap.size := (Array.getElem?_eq_some_iff.mp hc).1
  rw [hB] at h9
  exact absurd h8 (Nat.not_lt.mpr h9)
theorem ldrop_good : GoodIn tT (va_wsS RL 47 yL_drop (Cond.codeWith yL_drop cL_drop 5 (some .int) [(0, 10, 13, 13)] :: tT)) := by
  have hg : ∀ w ∈ tT, w ∈ tT ∧ ((w.onTables && w.keeps) = true ∨ ∃ ty, w = .arrayClass ty) := fun w h => ⟨h, good_of_word (List.mem_filter.mp h).2⟩
  intro w hw
  rcases List.mem_append.mp hw with h | h
  · rcases List.mem_cons.mp h with rfl | h
    · exact hg _ w_854
    · rcases List.mem_cons.mp h with rfl | h
      · exact hg _ w_855
      · rw [List.mem_singleton.mp h]
        exact hg _ w_71
  · rcases List.mem_cons.mp h with rfl | h
    · exact hg _ w_856
    · exact hg _ h
/-! what is there already, at the entry -/
def tmS (i : Nat) : Term := .string RX4 (strI.getD i 0)
def tmV (i : Nat) : Term := .field (tmS i) "java/lang/String" "value" "[B"
def tmT (j : Nat) : Term := .static "TankerDesk" (tabN.getD j "") "[I"
def inF (w : Cond) : Bool := (flatC (Cond.and given_1 narrow_1)).any (fun z => decide (w = z))
def inW (w : Cond) : Bool := lw_tbl.any (fun z => decide (w = z))
theorem inF_ok {args : Array Value} {s : State} (hgv : (Cond.and given_1 narrow_1).before args s = true) {w : Cond} (h : inF w = true) : w.before args s = true := by
  obtain ⟨z, hz, e⟩ := List.any_eq_true.mp h
  rw [of_decide_eq_true e]
  exact flat_of_before _ hgv z hz
theorem inW_ok {args : Array Value} {s : State} (hts : ∀ w ∈ lw_tbl, w.before args s = true) {w : Cond} (h : inW w = true) : w.before args s = true := by
  obtain ⟨z, hz, e⟩ := List.any_eq_true.mp h
  rw [of_decide_eq_true e]
  exact hts z hz
theorem all_rng {n : Nat} {f : Nat → Bool} (h : (List.range n).all f = true) {i : Nat} (hi : i < n) : f i = true := List.all_eq_true.mp h i (List.mem_range.mpr hi)
set_option maxRecDepth 100000 in
theorem nd_1 : (List.range 8).all (fun i => inF (.exactly (tmS i) "java/lang/String")) = true := by decide +kernel
set_option maxRecDepth 100000 in
theorem nd_2 : (List.range 8).all (fun i => inF (.eq (.field (tmS i) "java/lang/String" "coder" "B") (.int 0))) = true := by decide +kernel
set_option maxRecDepth 100000 in
theorem nd_3 : (List.range 8).all (fun i => inF (.arrayOf (tmV i) .byte)) = true := by decide +kernel
set_option maxRecDepth 100000 in
theorem nd_4 : (List.range 8).all (fun i => inF (.eq (.length (tmV i)) (.int (Int32.ofNat ((strL.map List.length).getD i 0))))) = true := by decide +kernel
set_option maxRecDepth 100000 in
theorem nd_5 : (List.range 8).all (fun i => (List.range ((strL.map List.length).getD i 0)).all (fun j => inF (.eq (.elem (tmV i) (.int (Int32.ofNat j))) (.int ((strL.getD i []).getD j 0))))) = true := by decide +kernel
set_option maxRecDepth 100000 in
theorem nd_6 : (List.range 8).all (fun i => (List.range 8).all (fun j => decide (i = j) || (inF (.not (.eq (tmS i) (tmS j))) || inF (.not (.eq (tmS j) (tmS i)))))) = true := by decide +kernel
set_option maxRecDepth 100000 in
theorem nd_7 : (List.range 8).all (fun i => inW (.stringRef RX4 (strI.getD i 0) (strT.getD i ""))) = true := by decide +kernel
set_option maxRecDepth 100000 in
theorem nd_8 : (List.range 3).all (fun j => inF (.arrayOf (tmT j) .int)) = true := by decide +kernel
set_option maxRecDepth 100000 in
theorem nd_9 : (List.range 3).all (fun j => inF (.eq (.length (tmT j)) (.int (Int32.ofNat (tabL.getD j []).length)))) = true := by decide +kernel
set_option maxRecDepth 100000 in
theorem nd_10 : (List.range 3).all (fun j => (List.range (tabL.getD j []).length).all (fun i => inF (.eq (.elem (tmT j) (.int (Int32.ofNat i))) (.int ((tabL.getD j []).getD i 0))))) = true := by decide +kernel
set_option maxRecDepth 100000 in
theorem nd_11 : (List.range 3).all (fun j => inW (.laysStatic "TankerDesk" (tabN.getD j "") "[I")) = true := by decide +kernel
set_option maxRecDepth 100000 in
theorem nd_12 : inW (.initialized "TankerDesk") = true := by decide +kernel
set_option maxRecDepth 100000 in
theorem nd_13 : inW (.laysStatic "java/lang/String" "COMPACT_STRINGS" "Z") = true := by decide +kernel
set_option maxRecDepth 100000 in
theorem nd_14 : inW (.initialized "java/lang/String") = true := by decide +kernel
set_option maxRecDepth 100000 in
theorem nd_15 : inF (.eq (.static "java/lang/String" "COMPACT_STRINGS" "Z") (.int 1)) = true := by decide +kernel
set_option maxRecDepth 100000 in
theorem nd_16 : inW (.laysStatic "jdk/internal/util/Preconditions" "SIOOBE_FORMATTER" "Ljava/util/function/BiFunction;") = true := by decide +kernel
set_option maxRecDepth 100000 in
theorem nd_17 : inW (.initialized "jdk/internal/util/Preconditions") = true := by decide +kernel
set_option maxRecDepth 100000 in
theorem nd_18 : inF (.isRef (.static "jdk/internal/util/Preconditions" "SIOOBE_FORMATTER" "Ljava/util/function/BiFunction;")) = true := by decide +kernel
def rfO (a v t : Nat → Nat) : Nat → Nat := fun i => if i < 10 then a i else if i < 20 then v (i - 10) else t (i - 20)
theorem rfO_a {a v t : Nat → Nat} {i : Nat} (h : i < 8) : rfO a v t i = a i := if_pos (by omega)
theorem rfO_v {a v t : Nat → Nat} {i : Nat} (h : i < 8) : rfO a v t (10 + i) = v i := by
  unfold rfO
  rw [if_neg (show ¬ 10 + i < 10 by omega), if_pos (show 10 + i < 20 by omega), show 10 + i - 10 = i by omega]
theorem rfO_t {a v t : Nat → Nat} {i : Nat} : rfO a v t (20 + i) = t i := by
  unfold rfO
  rw [if_neg (show ¬ 20 + i < 10 by omega), if_neg (show ¬ 20 + i < 20 by omega), show 20 + i - 20 = i by omega]
theorem ln_small {i : Nat} (h : i < 8) : (strL.map List.length).getD i 0 < 2 ^ 31 := (by decide : ∀ i : Fin 8, (strL.map List.length).getD i.val 0 < 2 ^ 31) ⟨i, h⟩
theorem tb_small {j : Nat} (h : j < 3) : (tabL.getD j []).length < 2 ^ 31 := (by decide : ∀ j : Fin 3, (tabL.getD j.val []).length < 2 ^ 31) ⟨j, h⟩
set_option maxHeartbeats 4000000 in
theorem gs_start {args : Array Value} {s : State} (b : Nat) (hts : ∀ w ∈ lw_tbl, w.before args s = true) (hgv : (Cond.and given_1 narrow_1).before args s = true) : ∃ (rf : Nat → Nat) (fm : Option Nat), Gs (s.heap.size, b, rf, fm) s := by
  have hA : ∀ a : Nat, a < s.heap.size → ¬ (fun q => s.heap.size ≤ q) a := fun a ha => Nat.not_le.mpr ha
  obtain ⟨aK, aV, hS, hev⟩ := vk_Sof (args := args) (s := s) (N := 8) (tm := tmS) (len := strL.map List.length) (byt := strL) (A := fun q => s.heap.size ≤ q) (fun i hi => ln_small hi) (fun i hi => inF_ok hgv (all_rng nd_1 hi)) (fun i hi => inF_ok hgv (all_rng nd_2 hi)) (fun i hi => inF_ok hgv (all_rng nd_3 hi)) (fun i hi => inF_ok hgv (all_rng nd_4 hi)) (fun i hi j hj => inF_ok hgv (all_rng (all_rng nd_5 hi) hj)) (fun i j hi hj hij => by
    have q := all_rng (all_rng nd_6 hi) hj
    rw [decide_eq_false hij, Bool.false_or, Bool.or_eq_true] at q
    rcases q with q | q
    · exact Or.inl (inF_ok hgv q)
    · exact Or.inr (inF_ok hgv q)) hA
  have hT : ∀ j : Nat, ∃ t : Nat, j < 3 → (tmT j).eval args s none [] s = some (.ref t) ∧ va_T .int t ((tabL.getD j []).length) (fun q => .int ((tabL.getD j []).getD q 0)) (fun q => s.heap.size ≤ q) s s.heap := by
    intro j
    by_cases hj : j < 3
    · obtain ⟨t, h1, h2⟩ := va_Tof (args := args) (s := s) (tm := tmT j) (ty := .int) (N := (tabL.getD j []).length) (f := fun q => .int ((tabL.getD j []).getD q 0)) (A := fun q => s.heap.size ≤ q) (tb_small hj) (inF_ok hgv (all_rng nd_8 hj)) (va_eqt (inF_ok hgv (all_rng nd_9 hj))) (fun i hi => va_eqt (inF_ok hgv (all_rng (all_rng nd_10 hj) hi))) hA
      exact ⟨t, fun _ => ⟨h1, h2⟩⟩
    · exact ⟨0, fun h => absurd h hj⟩
  obtain ⟨tt, htt⟩ := Classical.axiomOfChoice hT
  obtain ⟨fm, hfm⟩ : ∃ fm : Option Nat, va_Z "jdk/internal/util/Preconditions" "SIOOBE_FORMATTER" "Ljava/util/function/BiFunction;" (va_rf fm) (fun q => s.heap.size ≤ q) s s.heap := by
    rcases va_Zqof (A := fun q => s.heap.size ≤ q) (inW_ok hts nd_16) (inW_ok hts nd_17) (inF_ok hgv nd_18) hA with h | ⟨t, h⟩
    · exact ⟨none, h⟩
    · exact ⟨some t, h⟩
  refine ⟨rfO aK aV tt, fm, ⟨fun i hi => ?_, fun i j hi hj e => ?_⟩, fun i hi => ?_, va_Zof (inW_ok hts nd_13) (inW_ok hts nd_14) (va_eqt (inF_ok hgv nd_15)) hA, hfm, fun j hj => ?_⟩
  · have q := hS.1 i hi
    rw [← rfO_a (a := aK) (v := aV) (t := tt) hi, ← rfO_v (a := aK) (v := aV) (t := tt) hi] at q
    exact q
  · refine hS.2 i j hi hj ?_
    rw [← rfO_a (a := aK) (v := aV) (t := tt) hi, ← rfO_a (a := aK) (v := aV) (t := tt) hj]
    exact e
  · refine vk_R.of (inW_ok hts (all_rng nd_7 hi)) ?_
    rw [show (s.heap.size, b, rfO aK aV tt, fm).2.2.1 i = aK i from rfO_a hi]
    exact hev i hi
  · have q := htt j hj
    rw [← rfO_t (a := aK) (v := aV) (t := tt)] at q
    exact ⟨va_Zref (inW_ok hts (all_rng nd_11 hj)) (inW_ok hts nd_12) q.1 hA, q.2⟩
/-! the room of the abstract heap -/
theorem fl_ln {S S2 : HS} {k : Nat} : ∀ {c : List Nat} {j : Nat}, (fl S k c j).length = (fl S2 k c j).length
  | [], _ => rfl
  | _ :: r, j => congrArg (· + 1) (fl_ln (c := r) (j := j + 1))
theorem sl_cell {S S2 : HS} {k : Nat} (h : (ga S k).length = (ga S2 k).length) : sl1 (cellOf S k) = sl1 (cellOf S2 k) := by
  unfold cellOf
  match lay k with
  | 0 => exact h
  | 1 => exact h
  | 2 => rfl
  | 3 => rfl
  | n + 4 => exact fl_ln
def z0 : Nat := sl (eh S0 S0)
theorem ehlen {S M : HS} : (eh S M).length = 152 := by
  show (en false M S).length = 152
  unfold en
  rw [List.length_map, List.length_range]
theorem ehsl {S M : HS} (hS : LnD S) (hM : LnM M) : sl (eh S M) = z0 := by
  show sl (en false M S) = sl (en false S0 S0)
  unfold sl en
  rw [List.map_map, List.map_map]
  congr 1
  apply List.map_congr_left
  intro k hk
  have hk := List.mem_range.mp hk
  show sl1 (cellOf (if decide (137 ≤ k) = false then S else M) k) = sl1 (cellOf (if decide (137 ≤ k) = false then S0 else S0) k)
  by_cases z : 137 ≤ k
  · rw [decide_eq_true z, if_neg (by decide), if_neg (by decide)]
    exact sl_cell ((hM k z hk).trans s0_len.symm)
  · rw [decide_eq_false z, if_pos rfl, if_pos rfl]
    exact sl_cell ((hS k (by omega)).trans s0_len.symm)
set_option maxRecDepth 100000 in
theorem z0_le : z0 ≤ 20000 := by decide +kernel
/-! the loop over the calls -/
set_option maxRecDepth 100000 in
set_option maxHeartbeats 8000000 in
theorem law_loop {p : Program} {l : Launch} {e : Env} {s : State} {m : MethodId} {below : List Frame} {meth : Method} {c : Code} {D : va_G} {cA : Nat → ClassId} {B : BB} {b L : Nat} {xs : Nat → Int32} (hB : B.1 = s.heap.size) (hbl : B.2.1 < B.1) (hL : L ≤ 3072) (hfl : l.stackTraces = false) (hCx : Cx RL cL_law 7 (some .boolean) false D cA B (Gx L xs B) p s m #[Value.ref b] meth c) : ∀ (k i x0 y0 : Nat) (j5 j6 : Option Value) (S M : HS) (H : Heap) (locs : List Loc) (ls : Array Slot), L < i + 6 * k + 6 → i ≤ L → x0 + k ≤ 600 → y0 + 6 * k ≤ 4000 → JV S M → Wd D cA B s (eh S M) H locs → lv_has ls 7 (dl B (lvI i j5 j6)) → W p l e room_1 s m #[Value.ref b] below meth c H locs (x0 + 152) (y0 + z0) (lw_Z below #[Value.ref b] s) (F0 m 23 ls []) := by
  have hG : ∀ s, Gx L xs B s → Gs B s := fun s h => h.2.2.2.2
  have okF : COk l D cA B (Gx L xs B) false 30 mI (CF 30) := call_ok (all_mk hG) 1000000 30
  have okE : COk l D cA B (Gx L xs B) false 20 mI (CF 20) := call_ok (all_mk hG) 1000000 20
  have hz := z0_le
  have hL2 : L < 2 ^ 31 := by omega
  have hop : ∀ (stop n pc : Nat) (lv lv1 : Lv) (st st1 : List Value) (S M S1 M1 : HS) (x0 y0 : Nat) (H : Heap) (locs : List Loc) (ls : Array Slot), goTo (CF 30) (k_lawQ false L xs) stop n pc lv st (eh S M) = some (lv1, st1, eh S1 M1) → JV S M → JV S1 M1 → x0 ≤ 1000 → y0 ≤ 10000 → Wd D cA B s (eh S M) H locs → lv_has ls 7 (dl B lv) → (∀ (H' : Heap) (locs' : List Loc) (ls' : Array Slot), Wd D cA B s (eh S1 M1) H' locs' → lv_has ls' 7 (dl B lv1) → W p l e room_1 s m #[Value.ref b] below meth c H' locs' (x0 + 152) (y0 + z0) (lw_Z below #[Value.ref b] s) (F0 m stop ls' (st1.map (dv B)))) → W p l e room_1 s m #[Value.ref b] below meth c H locs (x0 + 152) (y0 + z0) (lw_Z below #[Value.ref b] s) (F0 m pc ls (st.map (dv B))) := by
    intro stop n pc lv lv1 st st1 S M S1 M1 x0 y0 H locs ls hgo hJ hJ1 hx hy hW hl kk
    obtain ⟨-, -, k⟩ := goTo_ok (ko_lawQ okF (fun s h => h.1) hbl) n pc lv st (eh S M) lv1 st1 (eh S1 M1) hgo
    have k := k p e room_1 s m #[Value.ref b] below meth c (lw_Z below #[Value.ref b] s) hCx (by decide) (by decide) H locs ls 0 0 x0 y0 hW hl (fun q => Bool.noConfusion q) (Nat.zero_le _) (Nat.zero_le _)
    rw [ehlen, ehlen, ehsl hJ.1.1 hJ.2.1.1, ehsl hJ1.1.1 hJ1.2.1.1, Nat.sub_zero, Nat.sub_zero] at k
    exact k (show x0 + 152 ≤ 601024 by omega) (show y0 + z0 ≤ 7293033 by omega) kk
  have hts := hCx.2.2.2.2.1
  intro k
  induction k with
  | zero =>
    intro i x0 y0 j5 j6 S M H locs ls hk hiL hx hy hJ hW hl
    have hrun := law_fin (xs := xs) (L := L) (i := i) (n := 0) (j5 := j5) (j6 := j6) (h := eh S M) (gt_yes (by omega) (by omega) (by omega))
    have k := run_ok (ko_lawQ okF (fun s h => h.1) hbl) _ 23 (lvI i j5 j6) [] (eh S M) (some (.int 1)) (eh S M) hrun p e room_1 s m #[Value.ref b] below meth c hCx (by decide) (by decide) H locs ls 0 0 x0 y0 hW hl (fun q => Bool.noConfusion q) (Nat.zero_le _) (Nat.zero_le _)
    rw [ehlen, ehsl hJ.1.1 hJ.2.1.1, Nat.sub_zero, Nat.sub_zero] at k
    exact W_mono (lw_out hB (show x0 + 152 ≤ 601024 by omega) (show y0 + z0 ≤ 7293033 by omega)) (k (show x0 + 152 ≤ 601024 by omega) (show y0 + z0 ≤ 7293033 by omega))
  | succ k ih =>
    intro i x0 y0 j5 j6 S M H locs ls hk hiL hx hy hJ hW hl
    by_cases hi : i + 6 ≤ L
    · have nxt : ∀ (x1 y1 : Nat) (q5 q6 : Option Value) (S1 M1 : HS) (H1 : Heap) (locs1 : List Loc) (ls1 : Array Slot), x1 + k ≤ 600 → y1 + 6 * k ≤ 4000 → JV S1 M1 → Wd D cA B s (eh S1 M1) H1 locs1 → lv_has ls1 7 (dl B (lvI i q5 q6)) → W p l e room_1 s m #[Value.ref b] below meth c H1 locs1 (x1 + 152) (y1 + z0) (lw_Z below #[Value.ref b] s) (F0 m 769 ls1 []) := by
        intro x1 y1 q5 q6 S1 M1 H1 locs1 ls1 hx1 hy1 hJ1 hW1 hl1
        refine hop 23 _ 769 (lvI i q5 q6) (lvI (i + 6) q5 q6) [] [] S1 M1 S1 M1 x1 y1 H1 locs1 ls1 (law_back (n := 0)) hJ1 hJ1 (by omega) (by omega) hW1 hl1 (fun H2 locs2 ls2 hW2 hl2 => ?_)
        exact ih (i + 6) x1 y1 q5 q6 S1 M1 H2 locs2 ls2 (by omega) hi hx1 hy1 hJ1 hW2 hl2
      obtain ⟨j, hj, ej⟩ := pk_andE (xs i) (m := 31) 5 (by decide)
      by_cases h6 : j = 6
      · subst h6
        have d2 : ∀ (x1 y1 : Nat) (r : Int32) (M2 : HS) (H1 : Heap) (locs1 : List Loc) (ls1 : Array Slot), x1 + k ≤ 600 → y1 + 6 * k ≤ 4000 → JV S M2 → Wd D cA B s (eh S M2) H1 locs1 → lv_has ls1 7 (dl B (lvI i j5 j6)) → W p l e room_1 s m #[Value.ref b] below meth c H1 locs1 (x1 + 152) (y1 + z0) (lw_Z below #[Value.ref b] s) (F0 m (344 + 3) ls1 ([.int r].map (dv B))) := by
          intro x1 y1 r M2 H1 locs1 ls1 hx1 hy1 hJ1 hW1 hl1
          obtain ⟨v2, M3, e2, i2⟩ := b_drop (v := xs (i + 1)) (w := xs (i + 2)) hJ1.2.1
          have hJ3 : JV S M3 := jv_q hJ1 hJ1.1 i2 fr_rf (fq_X8_drop fr_rf _ e2)
          refine hop 769 _ (344 + 3) (lvI i j5 j6) (lvI i (some (.int r)) (some (.int v2))) [.int r] [] S M2 S M3 x1 y1 H1 locs1 ls1 (op_drop2 (n := 0) hL2 hi e2) hJ1 hJ3 (by omega) (by omega) hW1 hl1 (fun H2 locs2 ls2 hW2 hl2 => ?_)
          exact nxt x1 y1 _ _ S M3 H2 locs2 ls2 hx1 hy1 hJ3 hW2 hl2
        refine hop 344 _ 23 (lvI i j5 j6) (lvI i j5 j6) [] [.ref 151, .int (xs (i + 2)), .int (xs (i + 1)), .ref 0] S M S M x0 y0 H locs ls (law_go (n := 90) (Or.inr rfl) hL2 hi (by rw [show o_iand (xs i) 31 = nI 6 from ej]; decide) (op_drop1 (n := 0) hL2 hi)) hJ hJ (by omega) (by omega) hW hl (fun H2 locs2 ls2 hW2 hl2 => ?_)
        have hpre : PreS s H2 (va_Pc (([.ref 0, .int (xs (i + 1)), .int (xs (i + 2)), .ref 151] : List Value).map (dv B)) (PreU D cA B (Gx L xs B) false (eh S M))) (([.ref 0, .int (xs (i + 1)), .int (xs (i + 2)), .ref 151] : List Value).map (dv B)) := ⟨blind, fun U hU hWm => ⟨rfl, by rw [hU]; exact Nat.le_trans (Nat.le_of_eq hB) hW2.2.1, by rw [hU]; exact hW2.1, va_K.moved hWm.alike hCx.2.2.2.2.2.2.2.2.1, ⟨Xt.warm hWm hCx.2.2.2.2.2.2.2.2.2.1.1, Gx_cl hbl s U hWm (fun q hq => by rw [hU]; exact hW2.2.2.1 q (by rw [← hB]; exact hq) (Nat.not_le.mpr hq)) hCx.2.2.2.2.2.2.2.2.2.1.2.1, Gx_cl hbl⟩, fun q => Bool.noConfusion q⟩⟩
        have thr : (s_X5_hasDrop (xs (i + 1)) S = some 0 ∨ (s_X5_hasDrop (xs (i + 1)) S = some 1 ∧ (xs (i + 2) < 0 ∨ ¬ xs (i + 2) ≤ 5))) → W p l e room_1 s m #[Value.ref b] below meth c H2 locs2 (x0 + 152) (y0 + z0) (lw_Z below #[Value.ref b] s) (F0 m 344 ls2 (([.ref 151, .int (xs (i + 2)), .int (xs (i + 1)), .ref 0] : List Value).map (dv B))) := by
          intro hd
          refine wcall (pc := 344) (r := some (.int 1)) (h' := eh S M) (mc := 1) (ms := 6) (rest := []) (vx_runSW (As := ([.ref 0, .int (xs (i + 1)), .int (xs (i + 2)), .ref 151] : List Value).map (dv B)) ⟨hCx.1, hCx.2.1, hCx.2.2.1, hCx.2.2.2.1, hts⟩ (met_ldrop (o := 151) hfl okE (by decide) c0_ (ld_thr (M := M) hd)) (vx_cwSW 4 hts ldrop_good rfl rfl rfl (by decide +kernel) ⟨by decide, by decide⟩) hpre rfl rfl hl2.1 rfl (lv_room (Nat.le_of_ble_eq_true rfl)) dL_law_344 ⟨show x0 + 152 + 1 ≤ 601024 by omega, show y0 + z0 + 6 ≤ 7293033 by omega⟩) hW2.2 (fun H3 locs3 hW3 => ?_)
          rw [show x0 + 152 + 1 = (x0 + 1) + 152 by omega, show y0 + z0 + 6 = (y0 + 6) + z0 by omega]
          exact d2 (x0 + 1) (y0 + 6) 1 M H3 locs3 ls2 (by omega) (by omega) hJ hW3 hl2
        rcases a_drop (v := xs (i + 1)) (w := xs (i + 2)) hJ.1 with hd | hd | ⟨r, er, -⟩
        · exact thr (Or.inl hd)
        · exact thr (Or.inr hd)
        · have hJ2 : JV S (sg M 151 r.toInt64) := hJ
          obtain ⟨-, -, hM⟩ := met_ldropN (as := [.ref 0, .int (xs (i + 1)), .int (xs (i + 2)), .ref 151]) okE (Nat.le_of_ble_eq_true rfl) (ld_norm (M := M) er)
          rw [ehlen, ehlen, ehsl hJ.1.1 hJ.2.1.1, ehsl hJ2.1.1 hJ2.2.1.1, Nat.sub_self, Nat.sub_self] at hM
          refine wcall (pc := 344) (r := some (.int 0)) (h' := eh S (sg M 151 r.toInt64)) (mc := 0) (ms := 0) (rest := []) (vx_runSW (As := ([.ref 0, .int (xs (i + 1)), .int (xs (i + 2)), .ref 151] : List Value).map (dv B)) ⟨hCx.1, hCx.2.1, hCx.2.2.1, hCx.2.2.2.1, hts⟩ hM (vx_cwSW 4 hts ldrop_good rfl rfl rfl (by decide +kernel) ⟨by decide, by decide⟩) hpre rfl rfl hl2.1 rfl (lv_room (Nat.le_of_ble_eq_true rfl)) dL_law_344 ⟨show x0 + 152 + 0 ≤ 601024 by omega, show y0 + z0 + 0 ≤ 7293033 by omega⟩) hW2.2 (fun H3 locs3 hW3 => ?_)
          rw [Nat.add_zero, Nat.add_zero]
          exact d2 x0 y0 0 (sg M 151 r.toInt64) H3 locs3 ls2 (by omega) (by omega) hJ2 hW3 hl2
      · obtain ⟨S1, M1, hJ1, hgo⟩ := law_step (j5 := j5) (j6 := j6) hJ hL2 hi hj h6 ej
        refine hop 769 _ 23 (lvI i j5 j6) (lvI i j5 j6) [] [] S M S1 M1 x0 y0 H locs ls hgo hJ hJ1 (by omega) (by omega) hW hl (fun H2 locs2 ls2 hW2 hl2 => ?_)
        exact nxt x0 y0 j5 j6 S1 M1 H2 locs2 ls2 (by omega) (by omega) hJ1 hW2 hl2
    · have hrun := law_fin (xs := xs) (L := L) (i := i) (n := 0) (j5 := j5) (j6 := j6) (h := eh S M) (gt_yes (by omega) (by omega) (by omega))
      have k := run_ok (ko_lawQ okF (fun s h => h.1) hbl) _ 23 (lvI i j5 j6) [] (eh S M) (some (.int 1)) (eh S M) hrun p e room_1 s m #[Value.ref b] below meth c hCx (by decide) (by decide) H locs ls 0 0 x0 y0 hW hl (fun q => Bool.noConfusion q) (Nat.zero_le _) (Nat.zero_le _)
      rw [ehlen, ehsl hJ.1.1 hJ.2.1.1, Nat.sub_zero, Nat.sub_zero] at k
      exact W_mono (lw_out hB (show x0 + 152 ≤ 601024 by omega) (show y0 + z0 ≤ 7293033 by omega)) (k (show x0 + 152 ≤ 601024 by omega) (show y0 + z0 ≤ 7293033 by omega))
set_option maxRecDepth 100000 in
set_option maxHeartbeats 8000000 in
theorem whole_start {p : Program} {e : Env} {s : State} {m : MethodId} {below : List Frame} {meth : Method} {c : Code} (l : Launch) (hflags : l.flags = flags0) {b L : Nat} {xs : Nat → Int32} (hL : L ≤ 3072) (C0 : lw_At p s m meth c b L xs) : W p l e room_1 s m #[Value.ref b] below meth c s.heap [] 0 0 (lw_Z below #[Value.ref b] s) (entryFrame m ([Value.ref b] : List Value).toArray 7) := by
  obtain ⟨hx, hb, hr, hml, hown, hts, hX, hbl, hlocks, hgv⟩ := id C0
  obtain ⟨c0, iS0, hKn0⟩ := u_known (C := RX0) (T := TX0) (N := 4) (n := 4) hts inX0 (hts (.instantiable RX0 4) (List.mem_of_getElem? (i := 228) (by decide +kernel)))
  obtain ⟨c1, iS1, hKn1⟩ := u_known (C := RX1) (T := TX1) (N := 3) (n := 3) hts inX1 (hts (.instantiable RX1 3) (List.mem_of_getElem? (i := 276) (by decide +kernel)))
  obtain ⟨c2, iS2, hKn2⟩ := u_known (C := RX2) (T := TX2) (N := 4) (n := 4) hts inX2 (hts (.instantiable RX2 4) (List.mem_of_getElem? (i := 298) (by decide +kernel)))
  obtain ⟨c3, iS3, hKn3⟩ := u_known (C := RX3) (T := TX3) (N := 18) (n := 18) hts inX3 (hts (.instantiable RX3 18) (List.mem_of_getElem? (i := 317) (by decide +kernel)))
  obtain ⟨c4, iS4, hKn4⟩ := u_known (C := RX4) (T := TX4) (N := 11) (n := 11) hts inX4 (hts (.instantiable RX4 11) (List.mem_of_getElem? (i := 102) (by decide +kernel)))
  obtain ⟨c5, iS5, hKn5⟩ := u_known (C := RX5) (T := TX5) (N := 5) (n := 5) hts inX5 (hts (.instantiable RX5 5) (List.mem_of_getElem? (i := 222) (by decide +kernel)))
  obtain ⟨c6, iS6, hKn6⟩ := u_known (C := RX6) (T := TX6) (N := 12) (n := 12) hts inX6 (hts (.instantiable RX6 12) (List.mem_of_getElem? (i := 147) (by decide +kernel)))
  obtain ⟨c7, iS7, hKn7⟩ := u_known (C := RX7) (T := TX7) (N := 11) (n := 11) hts inX7 (hts (.instantiable RX7 11) (List.mem_of_getElem? (i := 94) (by decide +kernel)))
  obtain ⟨c8, iS8, hKn8⟩ := u_known (C := RX8) (T := TX8) (N := 28) (n := 28) hts inX8 (hts (.instantiable RX8 28) (List.mem_of_getElem? (i := 930) (by decide +kernel)))
  obtain ⟨dC, dI, hKc⟩ : ∃ (dC : Nat → ClassId) (dI : Nat → Nat → Nat), ∀ (k : Nat) (q : vw_C), vC[k]? = some q → u_Kn s q.1 q.2.1 q.2.2 (dC k) (dI k) := by
    refine ⟨fun k => match k with | 0 => c0 | 1 => c1 | 2 => c2 | 3 => c3 | 4 => c4 | 5 => c5 | 6 => c6 | 7 => c7 | _ => c8, fun k => match k with | 0 => iS0 | 1 => iS1 | 2 => iS2 | 3 => iS3 | 4 => iS4 | 5 => iS5 | 6 => iS6 | 7 => iS7 | _ => iS8, ?_⟩
    intro k q hq
    match k, hq with
    | 0, hq => cases hq; exact hKn0
    | 1, hq => cases hq; exact hKn1
    | 2, hq => cases hq; exact hKn2
    | 3, hq => cases hq; exact hKn3
    | 4, hq => cases hq; exact hKn4
    | 5, hq => cases hq; exact hKn5
    | 6, hq => cases hq; exact hKn6
    | 7, hq => cases hq; exact hKn7
    | 8, hq => cases hq; exact hKn8
    | k + 9, hq => simp [vC] at hq
  obtain ⟨aI, kI, pI, i1, i2, i3⟩ := Cond.arrayClass_spec (hts (.arrayClass .int) (List.mem_of_getElem? (i := 145) (by decide +kernel)))
  obtain ⟨aB, kB, pB, b1, b2, b3⟩ := Cond.arrayClass_spec (hts (.arrayClass .byte) (List.mem_of_getElem? (i := 144) (by decide +kernel)))
  obtain ⟨aJ, kJ, pJ, j1, j2, j3⟩ := Cond.arrayClass_spec (hts (.arrayClass .long) (List.mem_of_getElem? (i := 1300) (by decide +kernel)))
  have hAO : (Cond.arrayOver (.object "TankerDesk$State")).before #[Value.ref b] s = true := hts _ (List.mem_of_getElem? (i := 282) (by decide +kernel))
  obtain ⟨pS, aS, kS, s1, s2, s3, s4, s5⟩ := Cond.arrayOver_spec hAO
  obtain ⟨cA, hcA⟩ : ∃ cA : Nat → ClassId, va_K (dC, dI) vC (tysA cA) s := by
    refine ⟨fun k => match k with | 0 => aI | 1 => aB | 2 => aJ | _ => aS, hKc, ?_⟩
    intro k q hq
    match k, hq with
    | 0, hq => cases hq; exact ⟨fun n z => ⟨(fun k h => by cases h), kI, i2, pI, i3⟩, i1⟩
    | 1, hq => cases hq; exact ⟨fun n z => ⟨(fun k h => by cases h), kB, b2, pB, b3⟩, b1⟩
    | 2, hq => cases hq; exact ⟨fun n z => ⟨(fun k h => by cases h), kJ, j2, pJ, j3⟩, j1⟩
    | 3, hq => cases hq; exact ⟨fun n z => ⟨(fun k h => by cases h), kS, s3, pS, s4⟩, kS, pS, s3, s4, s1, s5⟩
    | k + 4, hq => simp [tysA] at hq
  have hfl : l.stackTraces = false := by
    unfold Launch.stackTraces
    rw [hflags]
    decide +kernel
  have hfb := flat_of_before _ hgv
  have hXt : Xt s := by
    refine ⟨fun w hw => ?_, va_AO.of hAO⟩
    have h9 := List.mem_filter.mp hw
    refine va_Nw.of ?_ (hts w h9.1)
    cases w <;> first | rfl | (cases h9.2)
  obtain ⟨rf, fm, hGs⟩ := gs_start b hts hgv
  have hGx : Gx L xs (s.heap.size, b, rf, fm) s := by
    refine ⟨hX, vx_Zqof (args := #[Value.ref b]) (hts _ (List.mem_of_getElem? (i := 889) (by decide +kernel))) (hts _ (List.mem_of_getElem? (i := 88) (by decide +kernel))) (hfb _ (by decide +kernel)) (fun a ha => Nat.not_le.mpr ha), vx_Zqof (args := #[Value.ref b]) (hts _ (List.mem_of_getElem? (i := 891) (by decide +kernel))) (hts _ (List.mem_of_getElem? (i := 88) (by decide +kernel))) (hfb _ (by decide +kernel)) (fun a ha => Nat.not_le.mpr ha), fun w hw => ?_, hGs⟩
    have h9 := List.mem_filter.mp hw
    refine va_Nw.of ?_ (hts w h9.1)
    cases w <;> first | rfl | (cases h9.2)
  have hCx : Cx RL cL_law 7 (some .boolean) false (dC, dI) cA (s.heap.size, b, rf, fm) (Gx L xs (s.heap.size, b, rf, fm)) p s m #[Value.ref b] meth c :=
    ⟨hx, hb, hml, hown, fun w hw => hts w (List.mem_filter.mp hw).1, hr, hlocks, fun z => Bool.noConfusion z, hcA, ⟨hXt, hGx, Gx_cl hbl⟩, Nat.le_refl _⟩
  have okT : COk l (dC, dI) cA (s.heap.size, b, rf, fm) (Gx L xs (s.heap.size, b, rf, fm)) true 30 mI (CC 30) := call_ok (all_mk (fun s h => h.2.2.2.2)) 100000 30
  have hl0 := lv_entry ([Value.ref b]) (n := 7) (Nat.le_of_ble_eq_true rfl)
  rw [lg_entry_eq]
  have hl1 : lv_has ((lg_sl [Value.ref b] ++ List.replicate (7 - (lg_sl [Value.ref b]).length) Slot.unset).toArray) 7 (dl (s.heap.size, b, rf, fm) (lvE 7 [.retAddr 0])) := has_lvE (B := (s.heap.size, b, rf, fm)) (nE := 7) (as := [.retAddr 0]) hl0
  obtain ⟨-, -, k⟩ := goTo_ok (ko_lawP okT) 1000 0 (lvE 7 [.retAddr 0]) [] [] (lvI 0 none none) [] (eh S0 S0) law_pre
  have hz := z0_le
  have k := k p e room_1 s m #[Value.ref b] below meth c (lw_Z below #[Value.ref b] s) hCx (by decide) (by decide) s.heap [] _ 0 0 0 0 ⟨fun k q h => by simp [wo] at h, va_S.rf⟩ hl1 (fun _ => ⟨rfl, rfl⟩) (Nat.zero_le _) (Nat.zero_le _)
  rw [ehlen, ehsl jv_0.1.1 jv_0.2.1.1, Nat.sub_zero, Nat.sub_zero] at k
  refine k (show 0 + 152 ≤ 601024 by omega) (show 0 + z0 ≤ 7293033 by omega) (fun H1 locs1 ls1 hW1 hl1 => ?_)
  exact law_loop rfl hbl hL hfl hCx 512 0 0 0 none none S0 S0 H1 locs1 ls1 (by omega) (Nat.zero_le _) (by decide) (by decide) jv_0 hW1 hl1
