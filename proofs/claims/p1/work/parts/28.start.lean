def R_law : String := "TankerDeskLaw"
theorem W_mono {p : Program} {l : Launch} {e : Env} {R : Room} {s : State} {m : MethodId} {args : Array Value} {below : List Frame} {meth : Method} {c : Code} {H : Heap} {locs : List Loc} {cells slots : Nat} {Q Q' : State → Prop} {g : JFrame} (hQ : ∀ t, Q t → Q' t) (k : W p l e R s m args below meth c H locs cells slots Q g) : W p l e R s m args below meth c H locs cells slots Q' g := by
  intro T hT X
  obtain ⟨t, a, b⟩ := k T hT X
  exact ⟨t, a, hQ t b⟩
/-! THE CLAIM OUT OF ONE WALK OF THE LAW'S BODY. Your part is whole_start (and what it stands on); all else here is the same for every law, but numbers. -/
def lw_P (b : Addr) (xs : List Int32) (args : Array Value) (s : State) : Prop := args = #[.ref b] ∧ s.IntsAt b xs ∧ xs.length ≤ 6 ∧ (Jvm.Cond.and given_1 narrow_1).before args s = true
def lw_Q (_ : Array Value) (s : State) (o : Outcome) (t : State) : Prop := o = .returned (some (.int 1)) ∧ Framed s o t [] 600002 7302232
def lw_Z (below : List Frame) (a : Array Value) (s : State) : State → Prop := fun t => ∃ o, t.status = .running ∧ Ended t below o ∧ lw_Q a s o t
/-- the law's own end, with 1 on the stack, nothing written that was there before, its room as the claim has it -/
theorem lw_ret {p : Program} {l : Launch} {e : Env} {s : State} {m : MethodId} {below : List Frame} {meth : Method} {c : Code} {b : Nat} (hx : p.tables.exec = Jvm.exec) (hb : c.code = code) (hr : meth.sig.returnType = ret) (hlocks : meth.locks = false) {pc : Nat} {H : Heap} {ls : Array Slot} (hdg : decode code pc = .ok (.ireturn, 1)) : W p l e room_1 s m #[Value.ref b] below meth c H [] 600002 7302232 (lw_Z below #[Value.ref b] s) (F0 m pc ls [.int 1]) := by
  intro T hT X
  obtain ⟨fs, hret, hrun, hended, hW, hframe⟩ := X.leave (v := some (.int 1)) (hlocks := hlocks) (fun h => by rw [hr] at h; cases h)
  have hmeth' : T.vm.method? m = some meth := X.method'
  refine ⟨T.setFrames fs, ?_, .returned (some (.int 1)), hrun, hended, rfl, ⟨_, rfl⟩, hW, hframe⟩
  jvm_step X.here [X.here.top, hx, hb, hdg, hmeth', hr, ret, narrow_b1]
  (try refine ⟨rfl, ?_⟩); (try refine ⟨rfl, ?_⟩)
  first | (intro acts; rw [hret _ acts rfl rfl rfl]) | rw [hret _ _ rfl rfl rfl]
  exact Steps.refl _
/-- what holds at the law's entry: the machine, the code, the tables' words (any of lw_tbl by 'hts w (by decide +kernel)'), the script of L ints xs at the cell b, what the Statement gives of the start (any of its parts by flat_of_before) -/
def lw_At (p : Program) (s : State) (m : MethodId) (meth : Method) (c : Code) (b L : Nat) (xs : Nat → Int32) : Prop :=
  p.tables.exec = Jvm.exec ∧ c.code = code ∧ meth.sig.returnType = ret ∧ c.maxLocals = 7 ∧ s.vm.findClass R_law = some m.cls ∧ (∀ w ∈ lw_tbl, w.before #[Value.ref b] s = true) ∧ va_X b L xs s s.heap ∧ b < s.heap.size ∧ meth.locks = false ∧ (Jvm.Cond.and given_1 narrow_1).before #[Value.ref b] s = true
/-- what the law's end must leave, out of what a run leaves -/
theorem lw_out {below : List Frame} {b : Nat} {s : State} {D : va_G} {cA : Nat → ClassId} {B : Nat × Nat} {h : List AC} {mc ms : Nat} (hB : B.1 = s.heap.size) (h1 : mc ≤ 600002) (h2 : ms ≤ 7302232) : ∀ t, MQ below (Qr D cA B (some (.int 1)) h) #[Value.ref b] s mc ms (fun q => B.1 ≤ q) t → lw_Z below #[Value.ref b] s t := by
  intro t ht
  obtain ⟨o, a1, a2, ⟨a3, -⟩, L, ⟨f1, f2, f3⟩, a5⟩ := ht
  refine ⟨o, a1, a2, a3, f1, f2, ?_⟩
  obtain ⟨e1, e2, e3, e4, e5, e6⟩ := f3
  refine ⟨e1, e2, Nat.le_trans e3 (Nat.add_le_add_left h1 _), e4, Nat.le_trans e5 h2, fun a c hc => ?_⟩
  obtain ⟨c', g1, g2, g3, g4⟩ := e6 a c hc
  refine ⟨c', g1, g2, g3, fun i _ => g4 i (fun hm => ?_)⟩
  have h9 : B.1 ≤ a := a5 _ hm
  have h8 : a < s.heap.size := (Array.getElem?_eq_some_iff.mp hc).1
  rw [hB] at h9
  exact absurd h8 (Nat.not_lt.mpr h9)
theorem ldrop_good : GoodIn tT (va_wsS RL 47 yL_drop (Cond.codeWith yL_drop cL_drop 5 (some .int) [(0, 10, 13, 13)] :: tT)) := by
  have hg : ∀ w ∈ tT, w ∈ tT ∧ ((w.onTables && w.keeps) = true ∨ ∃ ty, w = .arrayClass ty) := fun w h => ⟨h, good_of_word (List.mem_filter.mp h).2⟩
  intro w hw
  rcases List.mem_append.mp hw with h | h
  · rcases List.mem_cons.mp h with rfl | h
    · exact hg _ w_854
    · rcases List.mem_cons.mp h with rfl | h
      · exact hg _ w_855
      · rw [List.mem_singleton.mp h]
        exact hg _ w_71
  · rcases List.mem_cons.mp h with rfl | h
    · exact hg _ w_856
    · exact hg _ h
set_option maxRecDepth 100000 in
set_option maxHeartbeats 8000000 in
theorem whole_start {p : Program} {e : Env} {s : State} {m : MethodId} {below : List Frame} {meth : Method} {c : Code} (l : Launch) (hflags : l.flags = flags0) {b L : Nat} {xs : Nat → Int32} (hL : L ≤ 6) (C0 : lw_At p s m meth c b L xs) : W p l e room_1 s m #[Value.ref b] below meth c s.heap [] 0 0 (lw_Z below #[Value.ref b] s) (entryFrame m ([Value.ref b] : List Value).toArray 7) := by
  obtain ⟨hx, hb, hr, hml, hown, hts, hX, hbl, hlocks, hgv⟩ := id C0
  obtain ⟨c0, iS0, hKn0⟩ := u_known (C := RX0) (T := TX0) (N := 4) (n := 4) hts inX0 (hts (.instantiable RX0 4) (List.mem_of_getElem? (i := 228) (by decide +kernel)))
  obtain ⟨c1, iS1, hKn1⟩ := u_known (C := RX1) (T := TX1) (N := 3) (n := 3) hts inX1 (hts (.instantiable RX1 3) (List.mem_of_getElem? (i := 276) (by decide +kernel)))
  obtain ⟨c2, iS2, hKn2⟩ := u_known (C := RX2) (T := TX2) (N := 4) (n := 4) hts inX2 (hts (.instantiable RX2 4) (List.mem_of_getElem? (i := 298) (by decide +kernel)))
  obtain ⟨c3, iS3, hKn3⟩ := u_known (C := RX3) (T := TX3) (N := 18) (n := 18) hts inX3 (hts (.instantiable RX3 18) (List.mem_of_getElem? (i := 317) (by decide +kernel)))
  obtain ⟨c4, iS4, hKn4⟩ := u_known (C := RX4) (T := TX4) (N := 11) (n := 11) hts inX4 (hts (.instantiable RX4 11) (List.mem_of_getElem? (i := 102) (by decide +kernel)))
  obtain ⟨c5, iS5, hKn5⟩ := u_known (C := RX5) (T := TX5) (N := 5) (n := 5) hts inX5 (hts (.instantiable RX5 5) (List.mem_of_getElem? (i := 222) (by decide +kernel)))
  obtain ⟨c6, iS6, hKn6⟩ := u_known (C := RX6) (T := TX6) (N := 12) (n := 12) hts inX6 (hts (.instantiable RX6 12) (List.mem_of_getElem? (i := 147) (by decide +kernel)))
  obtain ⟨c7, iS7, hKn7⟩ := u_known (C := RX7) (T := TX7) (N := 11) (n := 11) hts inX7 (hts (.instantiable RX7 11) (List.mem_of_getElem? (i := 94) (by decide +kernel)))
  obtain ⟨c8, iS8, hKn8⟩ := u_known (C := RX8) (T := TX8) (N := 28) (n := 28) hts inX8 (hts (.instantiable RX8 28) (List.mem_of_getElem? (i := 934) (by decide +kernel)))
  obtain ⟨dC, dI, hKc⟩ : ∃ (dC : Nat → ClassId) (dI : Nat → Nat → Nat), ∀ (k : Nat) (q : vw_C), vC[k]? = some q → u_Kn s q.1 q.2.1 q.2.2 (dC k) (dI k) := by
    refine ⟨fun k => match k with | 0 => c0 | 1 => c1 | 2 => c2 | 3 => c3 | 4 => c4 | 5 => c5 | 6 => c6 | 7 => c7 | _ => c8, fun k => match k with | 0 => iS0 | 1 => iS1 | 2 => iS2 | 3 => iS3 | 4 => iS4 | 5 => iS5 | 6 => iS6 | 7 => iS7 | _ => iS8, ?_⟩
    intro k q hq
    match k, hq with
    | 0, hq => cases hq; exact hKn0
    | 1, hq => cases hq; exact hKn1
    | 2, hq => cases hq; exact hKn2
    | 3, hq => cases hq; exact hKn3
    | 4, hq => cases hq; exact hKn4
    | 5, hq => cases hq; exact hKn5
    | 6, hq => cases hq; exact hKn6
    | 7, hq => cases hq; exact hKn7
    | 8, hq => cases hq; exact hKn8
    | k + 9, hq => simp [vC] at hq
  obtain ⟨aI, kI, pI, i1, i2, i3⟩ := Cond.arrayClass_spec (hts (.arrayClass .int) (List.mem_of_getElem? (i := 145) (by decide +kernel)))
  obtain ⟨aB, kB, pB, b1, b2, b3⟩ := Cond.arrayClass_spec (hts (.arrayClass .byte) (List.mem_of_getElem? (i := 144) (by decide +kernel)))
  obtain ⟨aJ, kJ, pJ, j1, j2, j3⟩ := Cond.arrayClass_spec (hts (.arrayClass .long) (List.mem_of_getElem? (i := 1304) (by decide +kernel)))
  have hAO : (Cond.arrayOver (.object "TankerDesk$State")).before #[Value.ref b] s = true := hts _ (List.mem_of_getElem? (i := 282) (by decide +kernel))
  obtain ⟨pS, aS, kS, s1, s2, s3, s4, s5⟩ := Cond.arrayOver_spec hAO
  obtain ⟨cA, hcA⟩ : ∃ cA : Nat → ClassId, va_K (dC, dI) vC (tysA cA) s := by
    refine ⟨fun k => match k with | 0 => aI | 1 => aB | 2 => aJ | _ => aS, hKc, ?_⟩
    intro k q hq
    match k, hq with
    | 0, hq => cases hq; exact ⟨fun n z => ⟨(fun k h => by cases h), kI, i2, pI, i3⟩, i1⟩
    | 1, hq => cases hq; exact ⟨fun n z => ⟨(fun k h => by cases h), kB, b2, pB, b3⟩, b1⟩
    | 2, hq => cases hq; exact ⟨fun n z => ⟨(fun k h => by cases h), kJ, j2, pJ, j3⟩, j1⟩
    | 3, hq => cases hq; exact ⟨fun n z => ⟨(fun k h => by cases h), kS, s3, pS, s4⟩, kS, pS, s3, s4, s1, s5⟩
    | k + 4, hq => simp [tysA] at hq
  have hfl : l.stackTraces = false := by
    unfold Launch.stackTraces
    rw [hflags]
    decide +kernel
  have hfb := flat_of_before _ hgv
  have hXt : Xt s := by
    refine ⟨fun w hw => ?_, va_AO.of hAO⟩
    have h9 := List.mem_filter.mp hw
    refine va_Nw.of ?_ (hts w h9.1)
    cases w <;> first | rfl | (cases h9.2)
  have hGx : Gx L xs (s.heap.size, b) s := by
    refine ⟨hX, vx_Zqof (args := #[Value.ref b]) (hts _ (List.mem_of_getElem? (i := 889) (by decide +kernel))) (hts _ (List.mem_of_getElem? (i := 88) (by decide +kernel))) (hfb _ (by decide +kernel)) (fun a ha => Nat.not_le.mpr ha), vx_Zqof (args := #[Value.ref b]) (hts _ (List.mem_of_getElem? (i := 891) (by decide +kernel))) (hts _ (List.mem_of_getElem? (i := 88) (by decide +kernel))) (hfb _ (by decide +kernel)) (fun a ha => Nat.not_le.mpr ha), fun w hw => ?_⟩
    have h9 := List.mem_filter.mp hw
    refine va_Nw.of ?_ (hts w h9.1)
    cases w <;> first | rfl | (cases h9.2)
  have hCx : Cx RL cL_law 7 (some .boolean) false (dC, dI) cA (s.heap.size, b) (Gx L xs (s.heap.size, b)) p s m #[Value.ref b] meth c :=
    ⟨hx, hb, hml, hown, fun w hw => hts w (List.mem_filter.mp hw).1, hr, hlocks, fun z => Bool.noConfusion z, hcA, ⟨hXt, hGx, Gx_cl hbl⟩, Nat.le_refl _⟩
  have okT : COk l (dC, dI) cA (s.heap.size, b) (Gx L xs (s.heap.size, b)) true 30 mI (CC 30) := call_ok all_mk 100000 30
  have okF : COk l (dC, dI) cA (s.heap.size, b) (Gx L xs (s.heap.size, b)) false 30 mI (CF 30) := call_ok all_mk 100000 30
  have okE : COk l (dC, dI) cA (s.heap.size, b) (Gx L xs (s.heap.size, b)) false 20 mI (CF 20) := call_ok all_mk 100000 20
  have fin : ∀ (n pc : Nat) (lv : Lv) (st : List Value) (h hm : List AC) (x0 y0 : Nat) (H : Heap) (locs : List Loc) (ls : Array Slot), run (CF 30) (k_lawQ false L xs) n pc lv st h = some (some (.int 1), hm) → hm.length ≤ 1000 → sl hm ≤ 20000 → x0 ≤ 10 → y0 ≤ 100 → Wd (dC, dI) cA (s.heap.size, b) s h H locs → lv_has ls 7 (dl (s.heap.size, b) lv) → W p l e room_1 s m #[Value.ref b] below meth c H locs (x0 + (h.length - 0)) (y0 + (sl h - 0)) (lw_Z below #[Value.ref b] s) (F0 m pc ls (st.map (dv (s.heap.size, b)))) := by
    intro n pc lv st h hm x0 y0 H locs ls hrun g1 g2 g3 g4 hW hl
    have q1 : x0 + (hm.length - 0) ≤ 600002 := by omega
    have q2 : y0 + (sl hm - 0) ≤ 7302232 := by omega
    exact W_mono (lw_out rfl q1 q2) (run_ok (ko_lawQ okF (fun s h => h.1) hbl) n pc lv st h (some (.int 1)) hm hrun p e room_1 s m #[Value.ref b] below meth c hCx (by decide) (by decide) H locs ls 0 0 x0 y0 hW hl (fun q => Bool.noConfusion q) (Nat.zero_le _) (Nat.zero_le _) q1 q2)
  have hl0 := lv_entry ([Value.ref b]) (n := 7) (Nat.le_of_ble_eq_true rfl)
  rw [lg_entry_eq]
  have hl1 : lv_has ((lg_sl [Value.ref b] ++ List.replicate (7 - (lg_sl [Value.ref b]).length) Slot.unset).toArray) 7 (dl (s.heap.size, b) (lv_args 0 [.retAddr 0])) := hl0
  obtain ⟨-, -, k⟩ := goTo_ok (ko_lawP okT) 1000 0 (lv_args 0 [.retAddr 0]) [] [] lv1 [] h1 law_pre
  have hlen := h1_len
  have hsl := h1_sl
  have k := k p e room_1 s m #[Value.ref b] below meth c (lw_Z below #[Value.ref b] s) hCx (by decide) (by decide) s.heap [] _ 0 0 0 0 ⟨fun k q h => by simp [wo] at h, va_S.rf⟩ hl1 (fun _ => ⟨rfl, rfl⟩) (Nat.zero_le _) (Nat.zero_le _) (show 0 + (h1.length - 0) ≤ 600002 by omega) (show 0 + (sl h1 - 0) ≤ 7302232 by omega)
  refine k (fun H1 locs1 ls1 hW1 hl1 => ?_)
  by_cases hL6 : L = 6
  · subst hL6
    obtain ⟨j, hj, ej⟩ := pk_andE (xs 0) (m := 31) 5 (by decide)
    by_cases h6 : j = 6
    · subst h6
      obtain ⟨-, -, k⟩ := goTo_ok (ko_lawQ okF (fun s h => h.1) hbl) (90 + 12) 23 lv1 [] h1 _ _ h1 (law_head6 ej law6a)
      have k := k p e room_1 s m #[Value.ref b] below meth c (lw_Z below #[Value.ref b] s) hCx (by decide) (by decide) H1 locs1 ls1 0 0 0 0 hW1 hl1 (fun q => Bool.noConfusion q) (Nat.zero_le _) (Nat.zero_le _) (show 0 + (h1.length - 0) ≤ 600002 by omega) (show 0 + (sl h1 - 0) ≤ 7302232 by omega)
      refine k (fun H2 locs2 ls2 hW2 hl2 => ?_)
      refine wcall (pc := 344) (r := some (.int 1)) (h' := h1) (mc := 1) (ms := 6) (rest := []) (vx_runSW (As := [.ref (s.heap.size + 0), .int (xs 1), .int (xs 2), .ref (s.heap.size + 151)]) ⟨hx, hb, hml, hown, hCx.2.2.2.2.1⟩ (met_ldrop (o := 151) hfl okE (by decide) q0_ (drop_pre (xs 1) (xs 2))) (vx_cwSW 4 hCx.2.2.2.2.1 ldrop_good rfl rfl rfl (by decide +kernel) ⟨by decide, by decide⟩) ⟨blind, fun U hU hWm => ⟨rfl, by rw [hU]; exact hW2.2.1, by rw [hU]; exact hW2.1, va_K.moved hWm.alike hcA, ⟨Xt.warm hWm hXt, Gx_cl hbl s U hWm.alike (fun q hq => by rw [hU]; exact hW2.2.2.1 q hq (Nat.not_le.mpr hq)) hGx, Gx_cl hbl⟩, fun q => Bool.noConfusion q⟩⟩ rfl rfl hl2.1 rfl (lv_room (Nat.le_of_ble_eq_true rfl)) dL_law_344 ⟨show 0 + (h1.length - 0) + 1 ≤ 600002 by omega, show 0 + (sl h1 - 0) + 6 ≤ 7302232 by omega⟩) hW2.2 (fun H3 locs3 hW3 => ?_)
      have k3 := fin 200 347 lv1 [.int 1] h1 h1d 1 6 H3 locs3 ls2 law6b h1d_len.1 h1d_len.2 (by decide) (by decide) hW3 hl2
      rw [show 1 + (h1.length - 0) = 0 + (h1.length - 0) + 1 by omega, show 6 + (sl h1 - 0) = 0 + (sl h1 - 0) + 6 by omega] at k3
      exact k3
    · obtain ⟨hm, hrun, g1, g2⟩ := law_ops (xs := xs) hj h6 ej
      exact fin _ 23 lv1 [] h1 hm 0 0 H1 locs1 ls1 hrun g1 g2 (by decide) (by decide) hW1 hl1
  · have hgt : b2_gt 0 (o_isub (Int32.ofNat L) 6) = true := by
      have hc : L = 0 ∨ L = 1 ∨ L = 2 ∨ L = 3 ∨ L = 4 ∨ L = 5 := by omega
      rcases hc with rfl | rfl | rfl | rfl | rfl | rfl <;> decide
    exact fin _ 23 lv1 [] h1 h1 0 0 H1 locs1 ls1 (law_short hgt) (by omega) (by omega) (by decide) (by decide) hW1 hl1
