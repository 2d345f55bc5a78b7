/-! where a picture's function answers, the run answers the same -/
abbrev Lm {α : Type} (out : α → Option Value × List AC) (X : Option α) (Y : Option (Option Value × List AC)) : Prop := ∀ r, X = some r → Y = some (out r)
section Rows
variable {call : Call} {code : List Ent} {n pc : Nat} {lv : Lv} {st : List Value} {h : List AC} {α : Type} {out : α → Option Value × List AC} {X : Option α} {b : Bool} {O S : HS}
theorem lm_le {m : Nat} (hm : n ≤ m) (g : Lm out X (run call code n pc lv st h)) : Lm out X (run call code m pc lv st h) := fun r hr => run_le hm (g r hr)
theorem lm_none {Y : Option (Option Value × List AC)} : Lm out none Y := fun _ hr => by cases hr
theorem lm_bind {β : Type} {A : Option β} {K : β → Option α} {Y : Option (Option Value × List AC)} (g : ∀ q, A = some q → Lm out (K q) Y) : Lm out (Option.bind A K) Y := by
  intro r hr
  obtain ⟨q, hq, hk⟩ := Option.bind_eq_some_iff.mp hr
  exact g q hq r hk
theorem r_pure {f : Lv → List Value → Option (Nat × Lv × List Value)} {pc' : Nat} {lv' : Lv} {st' : List Value} (hl : look code pc = some (ePure pc f)) (hf : f lv st = some (pc', lv', st')) (g : Lm out X (run call code n pc' lv' st' h)) : Lm out X (run call code (n + 1) pc lv st h) := fun r hr => g_pure hl hf (g r hr)
theorem r_stoJ {f : Lv → List Value → Option (Nat × Lv × List Value)} {pc' : Nat} {lv' : Int64 → Lv} {T : Int64} {K : Int64 → Option α} (hl : look code pc = some (ePure pc f)) (hf : ∀ w, f lv (.long w :: st) = some (pc', lv' w, st)) (g : ∀ w, Lm out (K w) (run call code n pc' (lv' w) st h)) : Lm out (Option.bind (some T) K) (run call code (n + 1) pc lv (.long T :: st) h) := r_pure hl (hf T) (g T)
theorem r_if1 {f : Int32 → Bool} {t : Nat} {x : Int32} {c : Prop} {A B : Option α} [hd : Decidable c] (hl : look code pc = some (ePure pc (fIf1 pc t f))) (hc : f x = decide c) (kt : Lm out A (run call code n t lv st h)) (kf : Lm out B (run call code n (pc + 3) lv st h)) : Lm out (if c then A else B) (run call code (n + 1) pc lv (.int x :: st) h) := by
  intro r hr
  by_cases q : c
  · rw [if_pos q] at hr
    exact g_if1t hl (by rw [hc]; exact decide_eq_true q) (kt r hr)
  · rw [if_neg q] at hr
    exact g_if1f hl (by rw [hc]; exact decide_eq_false q) (kf r hr)
theorem r_if2 {f : Int32 → Int32 → Bool} {t : Nat} {x y : Int32} {c : Prop} {A B : Option α} [hd : Decidable c] (hl : look code pc = some (ePure pc (fIf2 pc t f))) (hc : f x y = decide c) (kt : Lm out A (run call code n t lv st h)) (kf : Lm out B (run call code n (pc + 3) lv st h)) : Lm out (if c then A else B) (run call code (n + 1) pc lv (.int y :: .int x :: st) h) := by
  intro r hr
  by_cases q : c
  · rw [if_pos q] at hr
    exact g_if2t hl (by rw [hc]; exact decide_eq_true q) (kt r hr)
  · rw [if_neg q] at hr
    exact g_if2f hl (by rw [hc]; exact decide_eq_false q) (kf r hr)
theorem r_if1t {f : Int32 → Bool} {t : Nat} {x : Int32} (hl : look code pc = some (ePure pc (fIf1 pc t f))) (hx : f x = true) (g : Lm out X (run call code n t lv st h)) : Lm out X (run call code (n + 1) pc lv (.int x :: st) h) := fun r hr => g_if1t hl hx (g r hr)
theorem r_if1f {f : Int32 → Bool} {t : Nat} {x : Int32} (hl : look code pc = some (ePure pc (fIf1 pc t f))) (hx : f x = false) (g : Lm out X (run call code n (pc + 3) lv st h)) : Lm out X (run call code (n + 1) pc lv (.int x :: st) h) := fun r hr => g_if1f hl hx (g r hr)
theorem r_if2t {f : Int32 → Int32 → Bool} {t : Nat} {x y : Int32} (hl : look code pc = some (ePure pc (fIf2 pc t f))) (hx : f x y = true) (g : Lm out X (run call code n t lv st h)) : Lm out X (run call code (n + 1) pc lv (.int y :: .int x :: st) h) := fun r hr => g_if2t hl hx (g r hr)
theorem r_if2f {f : Int32 → Int32 → Bool} {t : Nat} {x y : Int32} (hl : look code pc = some (ePure pc (fIf2 pc t f))) (hx : f x y = false) (g : Lm out X (run call code n (pc + 3) lv st h)) : Lm out X (run call code (n + 1) pc lv (.int y :: .int x :: st) h) := fun r hr => g_if2f hl hx (g r hr)
theorem r_div {x y : Int32} (hl : look code pc = some (ePure pc (fDiv pc))) (hy : y ≠ 0) (g : Lm out X (run call code n (pc + 1) lv (.int (x / y) :: st) h)) : Lm out X (run call code (n + 1) pc lv (.int y :: .int x :: st) h) := by
  refine r_pure hl (pc' := pc + 1) (lv' := lv) (st' := .int (x / y) :: st) ?_ g
  show (if y = 0 then none else some (pc + 1, lv, Value.int (x / y) :: st)) = _
  rw [if_neg hy]
theorem r_sw {x : Int32} {lo : Int} {ts : List Nat} {t0 : Nat} (hl : look code pc = some (ePure pc (fSw lo ts t0))) (g : Lm out X (run call code n (swt x.toInt lo ts t0) lv st h)) : Lm out X (run call code (n + 1) pc lv (.int x :: st) h) := r_pure hl rfl g
theorem sw_one {x y : Int32} {lo : Int} {ts : List Nat} {t0 t : Nat} {A B : Option α} (ht : swt y.toInt lo ts t0 = t) (kt : Lm out A (run call code n t lv st h)) (kf : x ≠ y → Lm out B (run call code n (swt x.toInt lo ts t0) lv st h)) : Lm out (if x = y then A else B) (run call code n (swt x.toInt lo ts t0) lv st h) := by
  intro r hr
  by_cases q : x = y
  · rw [if_pos q] at hr
    rw [q, ht]
    exact kt r hr
  · rw [if_neg q] at hr
    exact kf q r hr
theorem i32_of {x : Int32} {k : Nat} (hk : k < 100) (h : x.toInt = (k : Int)) : x = nI k := by
  apply Int32.toInt_inj.mp
  rw [h, nI_toInt (by omega)]
theorem sw_out {x : Int32} {ts : List Nat} {t0 m : Nat} (hm : ts.length = m) (h9 : m ≤ 100) (hx : ∀ k, k < m → x ≠ nI k) : swt x.toInt 0 ts t0 = t0 := by
  unfold swt
  split
  · rfl
  · next h =>
    rw [List.getElem?_eq_none]
    · rfl
    · rcases Nat.lt_or_ge (x.toInt - 0).toNat ts.length with q | q
      · exfalso
        exact hx (x.toInt - 0).toNat (by omega) (i32_of (by omega) (by omega))
      · exact q
theorem sw_def {x : Int32} {ts : List Nat} {t0 : Nat} (ht : swt x.toInt 0 ts t0 = t0) (g : Lm out X (run call code n t0 lv st h)) : Lm out X (run call code n (swt x.toInt 0 ts t0) lv st h) := by
  rw [ht]
  exact g
theorem r_get {c ci k : Nat} {fs : List Value} {v : Value} (hl : look code pc = some (eGet pc ci k)) (hb : h[c]? = some (.inl (ci, fs))) (hv : fs[k]? = some v) (g : Lm out X (run call code n (pc + 3) lv (v :: st) h)) : Lm out X (run call code (n + 1) pc lv (.ref c :: st) h) := fun r hr => g_get hl hb hv (g r hr)
/-- a field that is a reference to a told -/
theorem r_getT {c ci k : Nat} {K : Nat → Option α} (hl : look code pc = some (eGet pc ci k)) (hs : sd c b) (hL : lay c = ci + 4) (hk : (kd ci)[k]? = some 2) (g : ∀ t, isT t → Lm out (K t) (run call code n (pc + 3) lv (.ref t :: st) (en b O S))) : Lm out (Option.bind (tl (gr S c k)) K) (run call code (n + 1) pc lv (.ref c :: st) (en b O S)) := by
  refine lm_bind (fun t ht => ?_)
  refine r_get hl (en_get hs hL) (fo_get hk) ?_
  show Lm out (K t) (run call code n (pc + 3) lv (gr S c k :: st) (en b O S))
  unfold tl at ht
  split at ht
  · next v0 n0 hv =>
    split at ht
    · next hq =>
      cases ht
      rw [hv]
      exact g _ hq
    · cases ht
  · cases ht
theorem r_getC {c ci k c0 : Nat} {K : Nat → Option α} (hl : look code pc = some (eGet pc ci k)) (hs : sd c b) (hL : lay c = ci + 4) (hk : (kd ci)[k]? = some 2) (g : Lm out (K c0) (run call code n (pc + 3) lv (.ref c0 :: st) (en b O S))) : Lm out (Option.bind (rc (gr S c k) c0) K) (run call code (n + 1) pc lv (.ref c :: st) (en b O S)) := by
  refine lm_bind (fun t ht => ?_)
  refine r_get hl (en_get hs hL) (fo_get hk) ?_
  show Lm out (K t) (run call code n (pc + 3) lv (gr S c k :: st) (en b O S))
  unfold rc at ht
  split at ht
  · next v0 n0 hv =>
    split at ht
    · next hq =>
      cases ht
      rw [hv, hq]
      exact g
    · cases ht
  · cases ht
theorem r_putI {c ci j : Nat} {x : Int32} {chk : Value → Bool} {K : HS → Option α} (hl : look code pc = some (ePut pc ci j chk)) (hs : sd c b) (hL : lay c = ci + 4) (hk : (kd ci)[j]? = some 0) (hc : chk (.int x) = true) (g : ∀ S1, Lm out (K S1) (run call code n (pc + 3) lv st (en b O S1))) : Lm out (Option.bind (pf S c j x) K) (run call code (n + 1) pc lv (.int x :: .ref c :: st) (en b O S)) := fun r hr => by
  refine g_put hl (en_get hs hL) (fo_len hk) hc ?_
  rw [en_sf hs hL hk]
  exact g _ r hr
theorem r_putZ {c ci j : Nat} {x : Int32} {K : HS → Option α} (hl : look code pc = some (ePut pc ci j kBool)) (hs : sd c b) (hL : lay c = ci + 4) (hk : (kd ci)[j]? = some 0) (g : ∀ S1, Lm out (K S1) (run call code n (pc + 3) lv st (en b O S1))) : Lm out (Option.bind (pz S c j x) K) (run call code (n + 1) pc lv (.int x :: .ref c :: st) (en b O S)) := by
  refine lm_bind (fun S1 hq => ?_)
  unfold pz at hq
  split at hq
  · next hx =>
    cases hq
    intro r hr
    refine g_put hl (en_get hs hL) (fo_len hk) (by simpa [kBool] using hx) ?_
    rw [en_sf hs hL hk]
    exact g _ r hr
  · cases hq
theorem r_putJ {c ci j : Nat} {x : Int64} {chk : Value → Bool} {K : HS → Option α} (hl : look code pc = some (ePut pc ci j chk)) (hs : sd c b) (hL : lay c = ci + 4) (hk : (kd ci)[j]? = some 1) (ho : ∀ j', j' ≠ j → (kd ci)[j']? ≠ some 1) (hc : chk (.long x) = true) (g : ∀ S1, Lm out (K S1) (run call code n (pc + 3) lv st (en b O S1))) : Lm out (Option.bind (pl S c x) K) (run call code (n + 1) pc lv (.long x :: .ref c :: st) (en b O S)) := fun r hr => by
  refine g_put hl (en_get hs hL) (fo_len hk) hc ?_
  rw [en_sg hs hL hk ho]
  exact g _ r hr
theorem r_putR {c ci j : Nat} {x : Value} {chk : Value → Bool} {K : HS → Option α} (hl : look code pc = some (ePut pc ci j chk)) (hs : sd c b) (hL : lay c = ci + 4) (hk : (kd ci)[j]? = some 2) (hc : chk x = true) (g : ∀ S1, Lm out (K S1) (run call code n (pc + 3) lv st (en b O S1))) : Lm out (Option.bind (pr S c j x) K) (run call code (n + 1) pc lv (x :: .ref c :: st) (en b O S)) := fun r hr => by
  refine g_put hl (en_get hs hL) (fo_len hk) hc ?_
  rw [en_sr hs hL hk]
  exact g _ r hr
theorem r_iald {c t : Nat} {i : Int32} {xs : List Int32} {K : Int32 → Option α} (hl : look code pc = some (eIald pc t)) (hb : h[c]? = some (.inr (t, .inl xs))) (g : ∀ x, Lm out (K x) (run call code n (pc + 1) lv (.int x :: st) h)) : Lm out (Option.bind (ag xs i) K) (run call code (n + 1) pc lv (.int i :: .ref c :: st) h) := by
  refine lm_bind (fun x hx => ?_)
  unfold ag at hx
  split at hx
  · cases hx
  · next hi => exact fun r hr => g_iald hl hb hi hx (g x r hr)
theorem r_iast {c t : Nat} {i x : Int32} {nar : Int32 → Int32} {K : HS → Option α} (hl : look code pc = some (eIast pc t nar)) (hs : sd c b) (ht : t = 0 ∨ t = 1) (hL : lay c = t) (g : ∀ S1, Lm out (K S1) (run call code n (pc + 1) lv st (en b O S1))) : Lm out (Option.bind (wa S c i (nar x)) K) (run call code (n + 1) pc lv (.int x :: .int i :: .ref c :: st) (en b O S)) := by
  refine lm_bind (fun S1 hq => ?_)
  have e : cellW t S c = .inr (t, .inl (ga S c)) := by rcases ht with rfl | rfl <;> rfl
  unfold wa at hq
  split at hq
  · cases hq
  · next hi =>
    cases hq
    intro r hr
    refine g_iast hl ((en_get hs hL).trans (congrArg some e)) (fun z => hi (Or.inl z)) (Nat.lt_of_not_le fun z => hi (Or.inr z)) ?_
    rw [en_sa hs ht hL]
    exact g _ r hr
theorem r_iastI {c : Nat} {i x : Int32} {K : HS → Option α} (hl : look code pc = some (eIast pc 0 (fun x => x))) (hs : sd c b) (hL : lay c = 0) (g : ∀ S1, Lm out (K S1) (run call code n (pc + 1) lv st (en b O S1))) : Lm out (Option.bind (wa S c i x) K) (run call code (n + 1) pc lv (.int x :: .int i :: .ref c :: st) (en b O S)) := r_iast (nar := fun x => x) hl hs (Or.inl rfl) hL g
theorem r_iastB {c : Nat} {i x : Int32} {K : HS → Option α} (hl : look code pc = some (eIast pc 1 (fun x => x.toInt8.toInt32))) (hs : sd c b) (hL : lay c = 1) (g : ∀ S1, Lm out (K S1) (run call code n (pc + 1) lv st (en b O S1))) : Lm out (Option.bind (wa S c i (x.toInt8.toInt32)) K) (run call code (n + 1) pc lv (.int x :: .int i :: .ref c :: st) (en b O S)) := r_iast (nar := fun x => x.toInt8.toInt32) hl hs (Or.inr rfl) hL g
theorem r_copy {c c0 : Nat} {k : Int32} {K : HS → Option α} (hl : look code pc = some (eCopy pc)) (hs : sd c b) (hs0 : sd c0 b) (hL : lay c = 0) (hL0 : lay c0 = 0) (hc : cats st ≤ 8) (g : ∀ S1, Lm out (K S1) (run call code n (pc + 3) lv st (en b O S1))) : Lm out (Option.bind (wc S c c0 k) K) (run call code (n + 1) pc lv (.int k :: .int 0 :: .ref c :: .int 0 :: .ref c0 :: st) (en b O S)) := by
  refine lm_bind (fun S1 hq => ?_)
  unfold wc at hq
  split at hq
  · next hi =>
    cases hq
    intro r hr
    refine g_copy hl (en_get hs0 hL0) (en_get hs hL) hi.1 hi.2.1 hi.2.2 hc ?_
    rw [en_sa hs (Or.inl rfl) hL]
    exact g _ r hr
  · cases hq
theorem r_min {x y : Int32} (hl : look code pc = some (eMin pc)) (hc : cats st ≤ 8) (g : Lm out X (run call code n (pc + 3) lv (.int (mn x y) :: st) h)) : Lm out X (run call code (n + 1) pc lv (.int y :: .int x :: st) h) := fun r hr => g_min hl hc (g r hr)
theorem r_aald {c : Nat} {i : Int32} {K : Nat → Option α} (hl : look code pc = some (eAald pc)) (hb : h[c]? = some (.inr (3, .inr (.inr rowL)))) (g : ∀ s, isS s → Lm out (K s) (run call code n (pc + 1) lv (.ref s :: st) h)) : Lm out (Option.bind (rw_ i) K) (run call code (n + 1) pc lv (.int i :: .ref c :: st) h) := by
  refine lm_bind (fun s hs => ?_)
  unfold rw_ at hs
  split at hs
  · cases hs
  · next hi =>
    split at hs
    · next k hk =>
      cases hs
      refine fun r hr => g_aald hl hb hi hk (g _ ?_ r hr)
      have hm := List.mem_of_getElem? hk
      unfold rowL at hm
      unfold isS
      simp only [List.mem_cons, Option.some.injEq, List.not_mem_nil, or_false] at hm ⊢
      omega
    · cases hs
theorem r_sp {f : List Value → Option (List Value)} {k : Nat} {st' : List Value} (hl : look code pc = some (eSp pc k f)) (hf : f st = some st') (g : Lm out X (run call code n (pc + k) lv st' h)) : Lm out X (run call code (n + 1) pc lv st h) := fun r hr => g_sp hl hf (g r hr)
theorem r_tab {i : Int32} {u : UInt32} {j : Nat} {K : Int32 → Option α} (hl : look code pc = some (eSp pc 1 fTab)) (hu : u.toNat = 20 + j) (hj : j < 3) (g : ∀ x, Lm out (K x) (run call code n (pc + 1) lv (.int x :: st) h)) : Lm out (Option.bind (tb j i) K) (run call code (n + 1) pc lv (.int i :: .float u :: st) h) := by
  refine lm_bind (fun x hx => ?_)
  unfold tb at hx
  split at hx
  · cases hx
  · next hi =>
    refine r_sp (st' := .int x :: st) hl ?_ (g x)
    have e : u.toNat - 20 = j := by omega
    have hl := lt_at hx
    unfold fTab
    dsimp only
    rw [e, if_pos ⟨by omega, by omega, hi, hl⟩, getD_at hx]
theorem r_fill {c : Nat} {x : Int32} {K : HS → Option α} (hl : look code pc = some (eCallS pc 2 165)) (hs : sd c b) (hL : lay c = 0) (hc : cats st ≤ 8) (hm : ∀ {h : List AC} {b : Nat} {xs : List Int32}, h[b]? = some (.inr (0, .inl xs)) → xs.length ≤ 10000 → call 165 [.ref b, .int x] h = some (none, h.set b (.inr (0, .inl (List.replicate xs.length x))))) (g : ∀ S1, Lm out (K S1) (run call code n (pc + 3) lv st (en b O S1))) : Lm out (Option.bind (wf S c x) K) (run call code (n + 1) pc lv (.int x :: .ref c :: st) (en b O S)) := by
  refine lm_bind (fun S1 hq => ?_)
  unfold wf at hq
  split at hq
  · next hi =>
    cases hq
    intro r hr
    refine g_callS hl (by show 2 ≤ st.length + 1 + 1; omega) hc (hm (en_get hs hL) hi) ?_
    rw [en_sa hs (Or.inl rfl) hL]
    exact g _ r hr
  · cases hq
theorem r_callV {c k id ci : Nat} {fs r : List Value} {β : Type} {oc : β → Option Value × List AC} {A : Option β} {K : β → Option α} (hl : look code pc = some (eCallV pc k id ci)) (hd : st.drop k = .ref c :: r) (hb : h[c]? = some (.inl (ci, fs))) (hc : cats r ≤ 8) (hm : Lm oc A (call id (.ref c :: (st.take k).reverse) h)) (g : ∀ q, Lm out (K q) (run call code n (pc + 3) lv ((oc q).1.toList ++ r) (oc q).2)) : Lm out (Option.bind A K) (run call code (n + 1) pc lv st h) := lm_bind (fun q hq => fun r hr => g_callV hl hd hb hc (hm q hq) (g q r hr))
theorem r_callS {k id : Nat} {β : Type} {oc : β → Option Value × List AC} {A : Option β} {K : β → Option α} (hl : look code pc = some (eCallS pc k id)) (hk : k ≤ st.length) (hc : cats (st.drop k) ≤ 8) (hm : Lm oc A (call id (st.take k).reverse h)) (g : ∀ q, Lm out (K q) (run call code n (pc + 3) lv ((oc q).1.toList ++ st.drop k) (oc q).2)) : Lm out (Option.bind A K) (run call code (n + 1) pc lv st h) := lm_bind (fun q hq => fun r hr => g_callS hl hk hc (hm q hq) (g q r hr))
theorem r_callT {k id : Nat} {u : UInt32} {r : List Value} {β : Type} {oc : β → Option Value × List AC} {A : Option β} {K : β → Option α} (hl : look code pc = some (eCallT pc k id)) (hd : st.drop k = .float u :: r) (hu : u.toNat < 8) (hc : cats r ≤ 8) (hm : Lm oc A (call id (.float u :: (st.take k).reverse) h)) (g : ∀ q, Lm out (K q) (run call code n (pc + 3) lv ((oc q).1.toList ++ r) (oc q).2)) : Lm out (Option.bind A K) (run call code (n + 1) pc lv st h) := by
  refine lm_bind (fun q hq => ?_)
  intro r' hr
  unfold run
  rw [hl]
  simp only [eCallT, hd, hm q hq]
  rw [if_pos ⟨hu, hc⟩]
  exact g q r' hr
theorem r_retI {x : Int32} {q : α} (hl : look code pc = some (eRetI pc)) (ho : out q = (some (.int x), h)) : Lm out (some q) (run call code (n + 1) pc lv [.int x] h) := fun r hr => by
  cases hr
  exact g_retI hl ho
theorem r_retZ {x : Int32} {q : α} (hl : look code pc = some (eRetZ pc)) (hx : x = 0 ∨ x = 1) (ho : out q = (some (.int x), h)) : Lm out (some q) (run call code (n + 1) pc lv [.int x] h) := fun r hr => by
  cases hr
  exact g_retZ hl hx ho
theorem r_retG {x : Int32} {K : Int32 → Option α} {q : α} (hl : look code pc = some (eRetZ pc)) (hK : K x = some q) (ho : out q = (some (.int x), h)) : Lm out (Option.bind (gz x) K) (run call code (n + 1) pc lv [.int x] h) := by
  refine lm_bind (fun y hy => ?_)
  unfold gz at hy
  split at hy
  · next hx =>
    cases hy
    rw [hK]
    exact r_retZ hl hx ho
  · cases hy
theorem r_retN {x : Int32} {ty : FieldType} {q : α} (hl : look code pc = some (eRetN pc ty)) (hx : narrow ty (.int x) = .int x) (ho : out q = (some (.int x), h)) : Lm out (some q) (run call code (n + 1) pc lv [.int x] h) := fun r hr => by
  cases hr
  unfold run
  rw [hl]
  simp only [eRetN]
  rw [if_pos hx, ho]
theorem r_retJ {x : Int64} {q : α} (hl : look code pc = some (eRetJ pc)) (ho : out q = (some (.long x), h)) : Lm out (some q) (run call code (n + 1) pc lv [.long x] h) := fun r hr => by
  cases hr
  unfold run
  rw [hl, ho]
  rfl
theorem r_retV {q : α} (hl : look code pc = some (eRetV pc)) (ho : out q = (none, h)) : Lm out (some q) (run call code (n + 1) pc lv [] h) := fun r hr => by
  cases hr
  exact g_retV hl ho
end Rows
theorem rm_of {α : Type} {out : α → Option Value × List AC} {X : Option α} {d id : Nat} {as : List Value} {h : List AC} {lv : Lv} (cd : List Ent) (hd : 0 < d) (hcd : codeT false id = cd) (hlv : lvE (mI id).2.2.1 as = lv) (hc : cats as ≤ (mI id).2.2.1) (g : Lm out X (run (CF (d - 1)) cd 1000000 0 lv [] h)) : Lm out X (CF d id as h) := by
  intro r hr
  obtain ⟨e, rfl⟩ : ∃ e, d = e + 1 := ⟨d - 1, by omega⟩
  refine callD_of cd hcd hc ?_
  rw [hlv]
  exact g r hr
theorem fill_m {d : Nat} (hd : 1 ≤ d) {x : Int32} {h : List AC} {b : Nat} {xs : List Int32} (hb : h[b]? = some (.inr (0, .inl xs))) (hl : xs.length ≤ 10000) : CF d 165 [.ref b, .int x] h = some (none, h.set b (.inr (0, .inl (List.replicate xs.length x)))) := by
  obtain ⟨e, rfl⟩ : ∃ e, d = e + 1 := ⟨d - 1, by omega⟩
  exact c_fill e x hb hl
/-! the layout at a told, a cargo, a state, a table -/
theorem lT0 {t : Nat} (h : isT t) : lay (t + 0) = 10 := (by decide : ∀ t ∈ [4, 13], lay (t + 0) = 10) t (by rcases h with rfl | rfl <;> decide)
theorem zT0 {t : Nat} (h : isT t) : sd (t + 0) false := (by decide : ∀ t ∈ [4, 13], decide (137 ≤ t + 0) = false ∧ t + 0 < 152) t (by rcases h with rfl | rfl <;> decide)
theorem lT1 {t : Nat} (h : isT t) : lay (t + 1) = 0 := (by decide : ∀ t ∈ [4, 13], lay (t + 1) = 0) t (by rcases h with rfl | rfl <;> decide)
theorem zT1 {t : Nat} (h : isT t) : sd (t + 1) false := (by decide : ∀ t ∈ [4, 13], decide (137 ≤ t + 1) = false ∧ t + 1 < 152) t (by rcases h with rfl | rfl <;> decide)
theorem lT2 {t : Nat} (h : isT t) : lay (t + 2) = 0 := (by decide : ∀ t ∈ [4, 13], lay (t + 2) = 0) t (by rcases h with rfl | rfl <;> decide)
theorem zT2 {t : Nat} (h : isT t) : sd (t + 2) false := (by decide : ∀ t ∈ [4, 13], decide (137 ≤ t + 2) = false ∧ t + 2 < 152) t (by rcases h with rfl | rfl <;> decide)
theorem lT3 {t : Nat} (h : isT t) : lay (t + 3) = 0 := (by decide : ∀ t ∈ [4, 13], lay (t + 3) = 0) t (by rcases h with rfl | rfl <;> decide)
theorem zT3 {t : Nat} (h : isT t) : sd (t + 3) false := (by decide : ∀ t ∈ [4, 13], decide (137 ≤ t + 3) = false ∧ t + 3 < 152) t (by rcases h with rfl | rfl <;> decide)
theorem lT4 {t : Nat} (h : isT t) : lay (t + 4) = 0 := (by decide : ∀ t ∈ [4, 13], lay (t + 4) = 0) t (by rcases h with rfl | rfl <;> decide)
theorem zT4 {t : Nat} (h : isT t) : sd (t + 4) false := (by decide : ∀ t ∈ [4, 13], decide (137 ≤ t + 4) = false ∧ t + 4 < 152) t (by rcases h with rfl | rfl <;> decide)
theorem lT5 {t : Nat} (h : isT t) : lay (t + 5) = 0 := (by decide : ∀ t ∈ [4, 13], lay (t + 5) = 0) t (by rcases h with rfl | rfl <;> decide)
theorem zT5 {t : Nat} (h : isT t) : sd (t + 5) false := (by decide : ∀ t ∈ [4, 13], decide (137 ≤ t + 5) = false ∧ t + 5 < 152) t (by rcases h with rfl | rfl <;> decide)
theorem lT6 {t : Nat} (h : isT t) : lay (t + 6) = 0 := (by decide : ∀ t ∈ [4, 13], lay (t + 6) = 0) t (by rcases h with rfl | rfl <;> decide)
theorem zT6 {t : Nat} (h : isT t) : sd (t + 6) false := (by decide : ∀ t ∈ [4, 13], decide (137 ≤ t + 6) = false ∧ t + 6 < 152) t (by rcases h with rfl | rfl <;> decide)
theorem lT7 {t : Nat} (h : isT t) : lay (t + 7) = 0 := (by decide : ∀ t ∈ [4, 13], lay (t + 7) = 0) t (by rcases h with rfl | rfl <;> decide)
theorem zT7 {t : Nat} (h : isT t) : sd (t + 7) false := (by decide : ∀ t ∈ [4, 13], decide (137 ≤ t + 7) = false ∧ t + 7 < 152) t (by rcases h with rfl | rfl <;> decide)
theorem lT8 {t : Nat} (h : isT t) : lay (t + 8) = 0 := (by decide : ∀ t ∈ [4, 13], lay (t + 8) = 0) t (by rcases h with rfl | rfl <;> decide)
theorem zT8 {t : Nat} (h : isT t) : sd (t + 8) false := (by decide : ∀ t ∈ [4, 13], decide (137 ≤ t + 8) = false ∧ t + 8 < 152) t (by rcases h with rfl | rfl <;> decide)
theorem lC0 {t : Nat} (h : isC t) : lay (t + 0) = 4 := (by decide : ∀ t ∈ [23, 33, 41, 49, 57, 65, 73, 81, 89, 97, 105, 112, 126], lay (t + 0) = 4) t h
theorem zC0 {t : Nat} (h : isC t) : sd (t + 0) false := (by decide : ∀ t ∈ [23, 33, 41, 49, 57, 65, 73, 81, 89, 97, 105, 112, 126], decide (137 ≤ t + 0) = false ∧ t + 0 < 152) t h
theorem lC1 {t : Nat} (h : isC t) : lay (t + 1) = 0 := (by decide : ∀ t ∈ [23, 33, 41, 49, 57, 65, 73, 81, 89, 97, 105, 112, 126], lay (t + 1) = 0) t h
theorem zC1 {t : Nat} (h : isC t) : sd (t + 1) false := (by decide : ∀ t ∈ [23, 33, 41, 49, 57, 65, 73, 81, 89, 97, 105, 112, 126], decide (137 ≤ t + 1) = false ∧ t + 1 < 152) t h
theorem lC2 {t : Nat} (h : isC t) : lay (t + 2) = 0 := (by decide : ∀ t ∈ [23, 33, 41, 49, 57, 65, 73, 81, 89, 97, 105, 112, 126], lay (t + 2) = 0) t h
theorem zC2 {t : Nat} (h : isC t) : sd (t + 2) false := (by decide : ∀ t ∈ [23, 33, 41, 49, 57, 65, 73, 81, 89, 97, 105, 112, 126], decide (137 ≤ t + 2) = false ∧ t + 2 < 152) t h
theorem lC3 {t : Nat} (h : isC t) : lay (t + 3) = 0 := (by decide : ∀ t ∈ [23, 33, 41, 49, 57, 65, 73, 81, 89, 97, 105, 112, 126], lay (t + 3) = 0) t h
theorem zC3 {t : Nat} (h : isC t) : sd (t + 3) false := (by decide : ∀ t ∈ [23, 33, 41, 49, 57, 65, 73, 81, 89, 97, 105, 112, 126], decide (137 ≤ t + 3) = false ∧ t + 3 < 152) t h
theorem lC4 {t : Nat} (h : isC t) : lay (t + 4) = 0 := (by decide : ∀ t ∈ [23, 33, 41, 49, 57, 65, 73, 81, 89, 97, 105, 112, 126], lay (t + 4) = 0) t h
theorem zC4 {t : Nat} (h : isC t) : sd (t + 4) false := (by decide : ∀ t ∈ [23, 33, 41, 49, 57, 65, 73, 81, 89, 97, 105, 112, 126], decide (137 ≤ t + 4) = false ∧ t + 4 < 152) t h
theorem lO0 {t : Nat} (h : isO t) : lay (t + 0) = 6 := (by decide : ∀ t ∈ [117, 122], lay (t + 0) = 6) t (by rcases h with rfl | rfl <;> decide)
theorem zO0 {t : Nat} (h : isO t) : sd (t + 0) false := (by decide : ∀ t ∈ [117, 122], decide (137 ≤ t + 0) = false ∧ t + 0 < 152) t (by rcases h with rfl | rfl <;> decide)
theorem lO1 {t : Nat} (h : isO t) : lay (t + 1) = 0 := (by decide : ∀ t ∈ [117, 122], lay (t + 1) = 0) t (by rcases h with rfl | rfl <;> decide)
theorem zO1 {t : Nat} (h : isO t) : sd (t + 1) false := (by decide : ∀ t ∈ [117, 122], decide (137 ≤ t + 1) = false ∧ t + 1 < 152) t (by rcases h with rfl | rfl <;> decide)
theorem lO2 {t : Nat} (h : isO t) : lay (t + 2) = 0 := (by decide : ∀ t ∈ [117, 122], lay (t + 2) = 0) t (by rcases h with rfl | rfl <;> decide)
theorem zO2 {t : Nat} (h : isO t) : sd (t + 2) false := (by decide : ∀ t ∈ [117, 122], decide (137 ≤ t + 2) = false ∧ t + 2 < 152) t (by rcases h with rfl | rfl <;> decide)
theorem lO3 {t : Nat} (h : isO t) : lay (t + 3) = 0 := (by decide : ∀ t ∈ [117, 122], lay (t + 3) = 0) t (by rcases h with rfl | rfl <;> decide)
theorem zO3 {t : Nat} (h : isO t) : sd (t + 3) false := (by decide : ∀ t ∈ [117, 122], decide (137 ≤ t + 3) = false ∧ t + 3 < 152) t (by rcases h with rfl | rfl <;> decide)
theorem lS0 {t : Nat} (h : isS t) : lay (t + 0) = 9 := (by decide : ∀ t ∈ [22, 32, 40, 48, 56, 64, 72, 80, 88, 96, 104], lay (t + 0) = 9) t h
theorem zS0 {t : Nat} (h : isS t) : sd (t + 0) false := (by decide : ∀ t ∈ [22, 32, 40, 48, 56, 64, 72, 80, 88, 96, 104], decide (137 ≤ t + 0) = false ∧ t + 0 < 152) t h
theorem lS1 {t : Nat} (h : isS t) : lay (t + 1) = 4 := (by decide : ∀ t ∈ [22, 32, 40, 48, 56, 64, 72, 80, 88, 96, 104], lay (t + 1) = 4) t h
theorem zS1 {t : Nat} (h : isS t) : sd (t + 1) false := (by decide : ∀ t ∈ [22, 32, 40, 48, 56, 64, 72, 80, 88, 96, 104], decide (137 ≤ t + 1) = false ∧ t + 1 < 152) t h
theorem lS2 {t : Nat} (h : isS t) : lay (t + 2) = 0 := (by decide : ∀ t ∈ [22, 32, 40, 48, 56, 64, 72, 80, 88, 96, 104], lay (t + 2) = 0) t h
theorem zS2 {t : Nat} (h : isS t) : sd (t + 2) false := (by decide : ∀ t ∈ [22, 32, 40, 48, 56, 64, 72, 80, 88, 96, 104], decide (137 ≤ t + 2) = false ∧ t + 2 < 152) t h
theorem lS3 {t : Nat} (h : isS t) : lay (t + 3) = 0 := (by decide : ∀ t ∈ [22, 32, 40, 48, 56, 64, 72, 80, 88, 96, 104], lay (t + 3) = 0) t h
theorem zS3 {t : Nat} (h : isS t) : sd (t + 3) false := (by decide : ∀ t ∈ [22, 32, 40, 48, 56, 64, 72, 80, 88, 96, 104], decide (137 ≤ t + 3) = false ∧ t + 3 < 152) t h
theorem lS4 {t : Nat} (h : isS t) : lay (t + 4) = 0 := (by decide : ∀ t ∈ [22, 32, 40, 48, 56, 64, 72, 80, 88, 96, 104], lay (t + 4) = 0) t h
theorem zS4 {t : Nat} (h : isS t) : sd (t + 4) false := (by decide : ∀ t ∈ [22, 32, 40, 48, 56, 64, 72, 80, 88, 96, 104], decide (137 ≤ t + 4) = false ∧ t + 4 < 152) t h
theorem lS5 {t : Nat} (h : isS t) : lay (t + 5) = 0 := (by decide : ∀ t ∈ [22, 32, 40, 48, 56, 64, 72, 80, 88, 96, 104], lay (t + 5) = 0) t h
theorem zS5 {t : Nat} (h : isS t) : sd (t + 5) false := (by decide : ∀ t ∈ [22, 32, 40, 48, 56, 64, 72, 80, 88, 96, 104], decide (137 ≤ t + 5) = false ∧ t + 5 < 152) t h
theorem lS6 {t : Nat} (h : isS t) : lay (t + 6) = 0 := (by decide : ∀ t ∈ [22, 32, 40, 48, 56, 64, 72, 80, 88, 96, 104], lay (t + 6) = 0) t h
theorem zS6 {t : Nat} (h : isS t) : sd (t + 6) false := (by decide : ∀ t ∈ [22, 32, 40, 48, 56, 64, 72, 80, 88, 96, 104], decide (137 ≤ t + 6) = false ∧ t + 6 < 152) t h
theorem lS7 {t : Nat} (h : isS t) : lay (t + 7) = 0 := (by decide : ∀ t ∈ [22, 32, 40, 48, 56, 64, 72, 80, 88, 96, 104], lay (t + 7) = 0) t h
theorem zS7 {t : Nat} (h : isS t) : sd (t + 7) false := (by decide : ∀ t ∈ [22, 32, 40, 48, 56, 64, 72, 80, 88, 96, 104], decide (137 ≤ t + 7) = false ∧ t + 7 < 152) t h
theorem mSC {s : Nat} (h : isS s) : isC (s + 1) := (by decide : ∀ s ∈ [22, 32, 40, 48, 56, 64, 72, 80, 88, 96, 104], s + 1 ∈ [23, 33, 41, 49, 57, 65, 73, 81, 89, 97, 105, 112, 126]) s h
theorem mC23 : isC 23 := by unfold isC; decide
theorem mC112 : isC 112 := by unfold isC; decide
theorem mC126 : isC 126 := by unfold isC; decide
theorem mO117 : isO 117 := by unfold isO; decide
theorem mO122 : isO 122 := by unfold isO; decide
theorem mS22 : isS 22 := by unfold isS; decide
theorem kdo_6 : ∀ j', j' ≠ 8 → (kd 6)[j']? ≠ some 1 := by
  intro j hj
  rcases Nat.lt_or_ge j 12 with h | h
  · exact (by decide : ∀ j, j < 12 → j ≠ 8 → (kd 6)[j]? ≠ some 1) j h hj
  · rw [List.getElem?_eq_none (by show 12 ≤ j; exact h)]
    exact fun z => by cases z
theorem kdo_8 : ∀ j', j' ≠ 10 → (kd 8)[j']? ≠ some 1 := by
  intro j hj
  rcases Nat.lt_or_ge j 28 with h | h
  · exact (by decide : ∀ j, j < 28 → j ≠ 10 → (kd 8)[j]? ≠ some 1) j h hj
  · rw [List.getElem?_eq_none (by show 28 ≤ j; exact h)]
    exact fun z => by cases z
abbrev oIW (b : Bool) (O : HS) : Int32 × HS → Option Value × List AC := fun q => (some (.int q.1), en b O q.2)
abbrev oV (b : Bool) (O : HS) : HS → Option Value × List AC := fun q => (none, en b O q)
abbrev oI (h : List AC) : Int32 → Option Value × List AC := fun q => (some (.int q), h)
abbrev oJ (h : List AC) : Int64 → Option Value × List AC := fun q => (some (.long q), h)
theorem r_callV_IW {call : Call} {code : List Ent} {n pc : Nat} {lv : Lv} {st : List Value} {h : List AC} {α : Type} {out : α → Option Value × List AC} {b : Bool} {O : HS} {A : Option (Int32 × HS)} {K : (Int32 × HS) → Option α} {c k id ci : Nat} {fs r : List Value} (hl : look code pc = some (eCallV pc k id ci)) (hd : st.drop k = .ref c :: r) (hb : h[c]? = some (.inl (ci, fs))) (hc : cats r ≤ 8) (hm : Lm (oIW b O) A (call id (.ref c :: (st.take k).reverse) h)) (g : ∀ q, Lm out (K q) (run call code n (pc + 3) lv (.int q.1 :: r) (en b O q.2))) : Lm out (Option.bind A K) (run call code (n + 1) pc lv st h) := r_callV hl hd hb hc hm g
theorem r_callS_IW {call : Call} {code : List Ent} {n pc : Nat} {lv : Lv} {st : List Value} {h : List AC} {α : Type} {out : α → Option Value × List AC} {b : Bool} {O : HS} {A : Option (Int32 × HS)} {K : (Int32 × HS) → Option α} {k id : Nat} (hl : look code pc = some (eCallS pc k id)) (hk : k ≤ st.length) (hc : cats (st.drop k) ≤ 8) (hm : Lm (oIW b O) A (call id (st.take k).reverse h)) (g : ∀ q, Lm out (K q) (run call code n (pc + 3) lv (.int q.1 :: st.drop k) (en b O q.2))) : Lm out (Option.bind A K) (run call code (n + 1) pc lv st h) := r_callS hl hk hc hm g
theorem r_callV_VW {call : Call} {code : List Ent} {n pc : Nat} {lv : Lv} {st : List Value} {h : List AC} {α : Type} {out : α → Option Value × List AC} {b : Bool} {O : HS} {A : Option HS} {K : HS → Option α} {c k id ci : Nat} {fs r : List Value} (hl : look code pc = some (eCallV pc k id ci)) (hd : st.drop k = .ref c :: r) (hb : h[c]? = some (.inl (ci, fs))) (hc : cats r ≤ 8) (hm : Lm (oV b O) A (call id (.ref c :: (st.take k).reverse) h)) (g : ∀ q, Lm out (K q) (run call code n (pc + 3) lv (r) (en b O q))) : Lm out (Option.bind A K) (run call code (n + 1) pc lv st h) := r_callV hl hd hb hc hm g
theorem r_callS_VW {call : Call} {code : List Ent} {n pc : Nat} {lv : Lv} {st : List Value} {h : List AC} {α : Type} {out : α → Option Value × List AC} {b : Bool} {O : HS} {A : Option HS} {K : HS → Option α} {k id : Nat} (hl : look code pc = some (eCallS pc k id)) (hk : k ≤ st.length) (hc : cats (st.drop k) ≤ 8) (hm : Lm (oV b O) A (call id (st.take k).reverse h)) (g : ∀ q, Lm out (K q) (run call code n (pc + 3) lv (st.drop k) (en b O q))) : Lm out (Option.bind A K) (run call code (n + 1) pc lv st h) := r_callS hl hk hc hm g
theorem r_callV_I {call : Call} {code : List Ent} {n pc : Nat} {lv : Lv} {st : List Value} {h : List AC} {α : Type} {out : α → Option Value × List AC} {A : Option Int32} {K : Int32 → Option α} {c k id ci : Nat} {fs r : List Value} (hl : look code pc = some (eCallV pc k id ci)) (hd : st.drop k = .ref c :: r) (hb : h[c]? = some (.inl (ci, fs))) (hc : cats r ≤ 8) (hm : Lm (oI h) A (call id (.ref c :: (st.take k).reverse) h)) (g : ∀ q, Lm out (K q) (run call code n (pc + 3) lv (.int q :: r) h)) : Lm out (Option.bind A K) (run call code (n + 1) pc lv st h) := r_callV hl hd hb hc hm g
theorem r_callS_I {call : Call} {code : List Ent} {n pc : Nat} {lv : Lv} {st : List Value} {h : List AC} {α : Type} {out : α → Option Value × List AC} {A : Option Int32} {K : Int32 → Option α} {k id : Nat} (hl : look code pc = some (eCallS pc k id)) (hk : k ≤ st.length) (hc : cats (st.drop k) ≤ 8) (hm : Lm (oI h) A (call id (st.take k).reverse h)) (g : ∀ q, Lm out (K q) (run call code n (pc + 3) lv (.int q :: st.drop k) h)) : Lm out (Option.bind A K) (run call code (n + 1) pc lv st h) := r_callS hl hk hc hm g
theorem r_callV_J {call : Call} {code : List Ent} {n pc : Nat} {lv : Lv} {st : List Value} {h : List AC} {α : Type} {out : α → Option Value × List AC} {A : Option Int64} {K : Int64 → Option α} {c k id ci : Nat} {fs r : List Value} (hl : look code pc = some (eCallV pc k id ci)) (hd : st.drop k = .ref c :: r) (hb : h[c]? = some (.inl (ci, fs))) (hc : cats r ≤ 8) (hm : Lm (oJ h) A (call id (.ref c :: (st.take k).reverse) h)) (g : ∀ q, Lm out (K q) (run call code n (pc + 3) lv (.long q :: r) h)) : Lm out (Option.bind A K) (run call code (n + 1) pc lv st h) := r_callV hl hd hb hc hm g
theorem r_callS_J {call : Call} {code : List Ent} {n pc : Nat} {lv : Lv} {st : List Value} {h : List AC} {α : Type} {out : α → Option Value × List AC} {A : Option Int64} {K : Int64 → Option α} {k id : Nat} (hl : look code pc = some (eCallS pc k id)) (hk : k ≤ st.length) (hc : cats (st.drop k) ≤ 8) (hm : Lm (oJ h) A (call id (st.take k).reverse h)) (g : ∀ q, Lm out (K q) (run call code n (pc + 3) lv (.long q :: st.drop k) h)) : Lm out (Option.bind A K) (run call code (n + 1) pc lv st h) := r_callS hl hk hc hm g
theorem r_callT_I {call : Call} {code : List Ent} {n pc : Nat} {lv : Lv} {st : List Value} {h : List AC} {α : Type} {out : α → Option Value × List AC} {A : Option Int32} {K : Int32 → Option α} {k id : Nat} {u : UInt32} {r : List Value} (hl : look code pc = some (eCallT pc k id)) (hd : st.drop k = .float u :: r) (hu : u.toNat < 8) (hc : cats r ≤ 8) (hm : Lm (oI h) A (call id (.float u :: (st.take k).reverse) h)) (g : ∀ q, Lm out (K q) (run call code n (pc + 3) lv (.int q :: r) h)) : Lm out (Option.bind A K) (run call code (n + 1) pc lv st h) := r_callT hl hd hu hc hm g
def sLen (u : UInt32) : Option Int32 := some (nI (strL.getD u.toNat []).length)
def sAt (u : UInt32) (i : Int32) : Option Int32 := if i < 0 then none else (strL.getD u.toNat [])[i.toNatClampNeg]?
theorem gd_mem {xs : List Int32} {j : Nat} (h : j < xs.length) : xs.getD j 0 ∈ xs := by
  rw [List.getD_eq_getElem?_getD, List.getElem?_eq_getElem h]
  exact List.getElem_mem h
theorem cod_m {d : Nat} (hd : 1 ≤ d) {h : List AC} {u : UInt32} (hu : u.toNat < 8) : Lm (oI h) (some (0 : Int32)) (CF d 168 [.float u] h) := by
  obtain ⟨e, rfl⟩ : ∃ e, d = e + 1 := ⟨d - 1, by omega⟩
  refine rm_of (lv := [some (.float u)]) (k_J0_coder_7d493 false) (by omega) rfl rfl (Nat.le_of_ble_eq_true rfl) ?_
  refine lm_le (n := 10) (by omega) ?_
  show Lm _ _ (run (CF e) _ _ _ _ _ _)
  refine r_sp rfl rfl ?_
  refine r_if1f rfl rfl ?_
  refine r_pure rfl rfl ?_
  refine r_sp rfl (st' := [.int 0]) (if_pos hu) ?_
  refine r_pure rfl rfl ?_
  exact r_retN rfl rfl rfl
theorem lat_m {d : Nat} (hd : 1 ≤ d) {h : List AC} {u : UInt32} (hu : u.toNat < 8) : Lm (oI h) (some (1 : Int32)) (CF d 170 [.float u] h) := by
  obtain ⟨e, rfl⟩ : ∃ e, d = e + 1 := ⟨d - 1, by omega⟩
  refine rm_of (lv := [some (.float u)]) (k_J0_isLatin1_aae02 false) (by omega) rfl rfl (Nat.le_of_ble_eq_true rfl) ?_
  refine lm_le (n := 10) (by omega) ?_
  show Lm _ _ (run (CF e) _ _ _ _ _ _)
  refine r_sp rfl rfl ?_
  refine r_if1f rfl rfl ?_
  refine r_pure rfl rfl ?_
  refine r_sp rfl (st' := [.int 0]) (if_pos hu) ?_
  refine r_if1f rfl rfl ?_
  refine r_pure rfl rfl ?_
  refine r_pure rfl rfl ?_
  exact r_retZ rfl (Or.inr rfl) rfl
theorem sl_map {k : Nat} (h : k < 8) : (strL.map List.length).getD k 0 = (strL.getD k []).length := (by decide : ∀ k : Fin 8, (strL.map List.length).getD k.val 0 = (strL.getD k.val []).length) ⟨k, h⟩
theorem sl_50 {k : Nat} (h : k < 8) : (strL.getD k []).length < 50 := (by decide : ∀ k : Fin 8, (strL.getD k.val []).length < 50) ⟨k, h⟩
theorem sl_ch {k : Nat} (h : k < 8) : ∀ x ∈ strL.getD k [], (((x &&& (255 : Int32)).toUInt32 % 65536).toInt32) = x := (by decide +kernel : ∀ k : Fin 8, ∀ x ∈ strL.getD k.val [], (((x &&& (255 : Int32)).toUInt32 % 65536).toInt32) = x) ⟨k, h⟩
theorem val_f {u : UInt32} {r : List Value} (hu : u.toNat < 8) : fSVal (.float u :: r) = some (.float (UInt32.ofNat (10 + u.toNat)) :: r) := if_pos hu
theorem len_f {u : UInt32} {r : List Value} (hu : u.toNat < 8) : fSLen (.float (UInt32.ofNat (10 + u.toNat)) :: r) = some (.int (nI (strL.getD u.toNat []).length) :: r) := by
  have e : (UInt32.ofNat (10 + u.toNat)).toNat = 10 + u.toNat := of_tn (by omega)
  show (if _ then some (Value.int (Int32.ofNat ((strL.map List.length).getD ((UInt32.ofNat (10 + u.toNat)).toNat - 10) 0)) :: r) else none) = _
  rw [if_pos (by rw [e]; omega), e, show 10 + u.toNat - 10 = u.toNat by omega, sl_map hu]
  rfl
theorem byt_f {u : UInt32} {r : List Value} {j : Nat} (hu : u.toNat < 8) (hj : j < (strL.getD u.toNat []).length) : fSByt (.int (nI j) :: .float (UInt32.ofNat (10 + u.toNat)) :: r) = some (.int ((strL.getD u.toNat []).getD j 0) :: r) := by
  have e : (UInt32.ofNat (10 + u.toNat)).toNat = 10 + u.toNat := of_tn (by omega)
  have h5 := sl_50 hu
  show (if _ then some (Value.int ((strL.getD ((UInt32.ofNat (10 + u.toNat)).toNat - 10) []).getD (nI j).toNatClampNeg 0) :: r) else none) = _
  rw [if_pos (by
    rw [e, show 10 + u.toNat - 10 = u.toNat by omega, sl_map hu, nI_clamp (by omega)]
    exact ⟨by omega, by omega, nI_pos (by omega), hj⟩), e, show 10 + u.toNat - 10 = u.toNat by omega, nI_clamp (by omega)]
theorem str_len {d : Nat} (hd : 5 ≤ d) {h : List AC} {u : UInt32} (hu : u.toNat < 8) : Lm (oI h) (sLen u) (CF d 167 [.float u] h) := by
  obtain ⟨e, rfl⟩ : ∃ e, d = e + 1 := ⟨d - 1, by omega⟩
  refine rm_of (lv := [some (.float u)]) (k_J0_length_8abf5 false) (by omega) rfl rfl (Nat.le_of_ble_eq_true rfl) ?_
  refine lm_le (n := 10) (by omega) ?_
  show Lm _ (Option.bind (some (0 : Int32)) (fun x => sLen u)) (run (CF e) _ _ _ _ _ _)
  refine r_pure rfl rfl ?_
  refine r_sp rfl (val_f hu) ?_
  refine r_sp rfl (len_f hu) ?_
  refine r_pure rfl rfl ?_
  refine lm_bind (fun q hq => ?_)
  cases hq
  refine (?_ : Lm (oI h) (Option.bind (some (0 : Int32)) (fun x => some ((nI (strL.getD u.toNat []).length) >>> (x &&& (31 : Int32))))) _ → _) ?_
  · intro g r hr
    refine g r ?_
    rw [← hr]
    show some _ = some _
    congr 1
    have h5 := sl_50 hu
    rw [show (0 : Int32) &&& 31 = 0 from by decide]
    exact (by rw [pk_shrN (by omega) 0 0 (by decide), Nat.pow_zero, Nat.div_one])
  · refine r_callT_I rfl rfl hu (Nat.le_of_ble_eq_true rfl) (cod_m (by omega) hu) (fun q => ?_)
    refine r_pure rfl rfl ?_
    exact r_retI rfl rfl
theorem chk_m {d : Nat} (hd : 1 ≤ d) {h : List AC} {u : UInt32} {i n : Nat} (hi : i < n) (hn : n < 50) : Lm (oI h) (some (nI i)) (CF d 173 [.int (nI i), .int (nI n), .float u] h) := by
  obtain ⟨e, rfl⟩ : ∃ e, d = e + 1 := ⟨d - 1, by omega⟩
  refine rm_of (lv := [some (.int (nI i)), some (.int (nI n)), some (.float u)]) (k_J3_checkIndex_8e157 false) (by omega) rfl rfl (Nat.le_of_ble_eq_true rfl) ?_
  refine lm_le (n := 10) (by omega) ?_
  show Lm _ _ (run (CF e) _ _ _ _ _ _)
  refine r_pure rfl rfl ?_
  refine r_if1f rfl (decide_eq_false (nI_pos (by omega))) ?_
  refine r_pure rfl rfl ?_
  refine r_pure rfl rfl ?_
  refine r_if2t rfl (decide_eq_true (nI_lt hi (by omega))) ?_
  refine r_pure rfl rfl ?_
  exact r_retI rfl rfl
theorem chi_m {d : Nat} (hd : 2 ≤ d) {h : List AC} {i n : Nat} (hi : i < n) (hn : n < 50) : CF d 171 [.int (nI i), .int (nI n)] h = some (none, h) := by
  obtain ⟨e, rfl⟩ : ∃ e, d = e + 1 := ⟨d - 1, by omega⟩
  refine (?_ : Lm (fun (_ : Unit) => (none, h)) (Option.bind (some (nI i)) (fun _ => some ())) _) () rfl
  refine rm_of (lv := [some (.int (nI i)), some (.int (nI n))]) (k_J0_checkIndex_df160 false) (by omega) rfl rfl (Nat.le_of_ble_eq_true rfl) ?_
  refine lm_le (n := 10) (by omega) ?_
  show Lm _ _ (run (CF e) _ _ _ _ _ _)
  refine r_pure rfl rfl ?_
  refine r_pure rfl rfl ?_
  refine r_sp rfl rfl ?_
  refine r_callS_I rfl (Nat.le_of_ble_eq_true rfl) (Nat.le_of_ble_eq_true rfl) (chk_m (by omega) hi hn) (fun q => ?_)
  refine r_pure rfl rfl ?_
  exact r_retV rfl rfl
theorem sla_m {d : Nat} (hd : 3 ≤ d) {h : List AC} {u : UInt32} (hu : u.toNat < 8) {j : Nat} (hj : j < (strL.getD u.toNat []).length) : Lm (oI h) (some ((strL.getD u.toNat []).getD j 0)) (CF d 172 [.float (UInt32.ofNat (10 + u.toNat)), .int (nI j)] h) := by
  obtain ⟨e, rfl⟩ : ∃ e, d = e + 1 := ⟨d - 1, by omega⟩
  have h5 := sl_50 hu
  have hm : (strL.getD u.toNat []).getD j 0 ∈ strL.getD u.toNat [] := by
    exact gd_mem hj
  have hx := sl_ch hu _ hm
  refine rm_of (lv := [some (.float (UInt32.ofNat (10 + u.toNat))), some (.int (nI j))]) (k_J1_charAt_3b067 false) (by omega) rfl rfl (Nat.le_of_ble_eq_true rfl) ?_
  refine lm_le (n := 14) (by omega) ?_
  show Lm _ (Option.bind (some ()) (fun _ => some _)) (run (CF e) _ _ _ _ _ _)
  refine r_pure rfl rfl ?_
  refine r_pure rfl rfl ?_
  refine r_sp rfl (len_f hu) ?_
  refine r_callS (oc := fun _ => (none, h)) rfl (Nat.le_of_ble_eq_true rfl) (Nat.le_of_ble_eq_true rfl) (fun r _ => chi_m (by omega) hj h5) (fun q => ?_)
  refine r_pure rfl rfl ?_
  refine r_pure rfl rfl ?_
  refine r_sp rfl (byt_f hu hj) ?_
  refine r_pure rfl rfl ?_
  refine r_pure rfl rfl ?_
  refine r_pure rfl rfl ?_
  refine r_retN rfl (pk_nc _) ?_
  show _ = (some (Value.int ((((strL.getD u.toNat []).getD j 0 &&& (255 : Int32)).toUInt32 % 65536).toInt32)), h)
  rw [hx]
theorem str_at {d : Nat} (hd : 5 ≤ d) {h : List AC} {u : UInt32} {i : Int32} (hu : u.toNat < 8) : Lm (oI h) (sAt u i) (CF d 169 [.float u, .int i] h) := by
  intro r hr
  unfold sAt at hr
  split at hr
  · cases hr
  · next h0 =>
    obtain ⟨j, hj, rfl⟩ := nI_of h0
    rw [nI_clamp hj] at hr
    obtain ⟨hl, er⟩ := List.getElem?_eq_some_iff.mp hr
    have hq : r = (strL.getD u.toNat []).getD j 0 := by
      rw [List.getD_eq_getElem?_getD, hr]
      rfl
    subst hq
    have hm : (strL.getD u.toNat []).getD j 0 ∈ strL.getD u.toNat [] := by
      exact gd_mem hl
    have hx := sl_ch hu _ hm
    obtain ⟨e, rfl⟩ : ∃ e, d = e + 1 := ⟨d - 1, by omega⟩
    refine (?_ : Lm (oI h) (Option.bind (some (1 : Int32)) (fun _ => Option.bind (some ((strL.getD u.toNat []).getD j 0)) (fun x => some ((strL.getD u.toNat []).getD j 0)))) _) _ rfl
    refine rm_of (lv := [some (.float u), some (.int (nI j))]) (k_J0_charAt_5068e false) (by omega) rfl rfl (Nat.le_of_ble_eq_true rfl) ?_
    refine lm_le (n := 14) (by omega) ?_
    show Lm _ _ (run (CF e) _ _ _ _ _ _)
    refine r_pure rfl rfl ?_
    refine lm_bind (fun q hq => ?_)
    cases hq
    refine (?_ : Lm (oI h) (Option.bind (some (1 : Int32)) (fun q => if q = 0 then none else Option.bind (some ((strL.getD u.toNat []).getD j 0)) (fun x => if x = (strL.getD u.toNat []).getD j 0 then some x else none))) _ → _) ?_
    · intro g r hr
      cases hr
      refine g _ ?_
      rw [Option.bind_some, if_neg (by decide), Option.bind_some, if_pos rfl]
    · refine r_callT_I rfl rfl hu (Nat.le_of_ble_eq_true rfl) (lat_m (by omega) hu) (fun q => ?_)
      refine r_if1 rfl rfl lm_none ?_
      refine r_pure rfl rfl ?_
      refine r_sp rfl (val_f hu) ?_
      refine r_pure rfl rfl ?_
      refine r_callS_I rfl (Nat.le_of_ble_eq_true rfl) (Nat.le_of_ble_eq_true rfl) (sla_m (by omega) hu hl) (fun x => ?_)
      intro r hr
      split at hr
      · next hxx =>
        cases hr
        refine (r_retN (q := x) rfl ?_ rfl : Lm (oI h) (some x) _) x rfl
        rw [hxx, ← hx]
        exact pk_nc _
      · cases hr
