/-! walking the abstract run -/
section Go
variable {call : Call} {code : List Ent} {n pc : Nat} {lv : Lv} {st : List Value} {h : List AC} {res : Option Value × List AC}
theorem g_pure {f : Lv → List Value → Option (Nat × Lv × List Value)} {pc' : Nat} {lv' : Lv} {st' : List Value} (hl : look code pc = some (ePure pc f)) (hf : f lv st = some (pc', lv', st')) (g : run call code n pc' lv' st' h = some res) : run call code (n + 1) pc lv st h = some res := by
  unfold run
  rw [hl]
  simp only [ePure, hf]
  exact g
theorem g_if1 {f : Int32 → Bool} {t : Nat} {x : Int32} (hl : look code pc = some (ePure pc (fIf1 pc t f))) (kt : f x = true → run call code n t lv st h = some res) (kf : f x = false → run call code n (pc + 3) lv st h = some res) : run call code (n + 1) pc lv (.int x :: st) h = some res := by
  refine g_pure hl (pc' := if f x = true then t else pc + 3) (lv' := lv) (st' := st) rfl ?_
  cases hx : f x with
  | true => exact kt hx
  | false => exact kf hx
theorem g_if2 {f : Int32 → Int32 → Bool} {t : Nat} {x y : Int32} (hl : look code pc = some (ePure pc (fIf2 pc t f))) (kt : f x y = true → run call code n t lv st h = some res) (kf : f x y = false → run call code n (pc + 3) lv st h = some res) : run call code (n + 1) pc lv (.int y :: .int x :: st) h = some res := by
  refine g_pure hl (pc' := if f x y = true then t else pc + 3) (lv' := lv) (st' := st) rfl ?_
  cases hx : f x y with
  | true => exact kt hx
  | false => exact kf hx
theorem g_if1t {f : Int32 → Bool} {t : Nat} {x : Int32} (hl : look code pc = some (ePure pc (fIf1 pc t f))) (hx : f x = true) (g : run call code n t lv st h = some res) : run call code (n + 1) pc lv (.int x :: st) h = some res := g_if1 hl (fun _ => g) (fun z => by rw [hx] at z; cases z)
theorem g_if1f {f : Int32 → Bool} {t : Nat} {x : Int32} (hl : look code pc = some (ePure pc (fIf1 pc t f))) (hx : f x = false) (g : run call code n (pc + 3) lv st h = some res) : run call code (n + 1) pc lv (.int x :: st) h = some res := g_if1 hl (fun z => by rw [hx] at z; cases z) (fun _ => g)
theorem g_if2t {f : Int32 → Int32 → Bool} {t : Nat} {x y : Int32} (hl : look code pc = some (ePure pc (fIf2 pc t f))) (hx : f x y = true) (g : run call code n t lv st h = some res) : run call code (n + 1) pc lv (.int y :: .int x :: st) h = some res := g_if2 hl (fun _ => g) (fun z => by rw [hx] at z; cases z)
theorem g_if2f {f : Int32 → Int32 → Bool} {t : Nat} {x y : Int32} (hl : look code pc = some (ePure pc (fIf2 pc t f))) (hx : f x y = false) (g : run call code n (pc + 3) lv st h = some res) : run call code (n + 1) pc lv (.int y :: .int x :: st) h = some res := g_if2 hl (fun z => by rw [hx] at z; cases z) (fun _ => g)
theorem g_get {b ci k : Nat} {fs : List Value} {v : Value} (hl : look code pc = some (eGet pc ci k)) (hb : h[b]? = some (.inl (ci, fs))) (hv : fs[k]? = some v) (g : run call code n (pc + 3) lv (v :: st) h = some res) : run call code (n + 1) pc lv (.ref b :: st) h = some res := by
  unfold run
  rw [hl]
  simp only [eGet, hb, hv, if_true]
  exact g
theorem g_put {b ci k : Nat} {fs : List Value} {v : Value} {chk : Value → Bool} (hl : look code pc = some (ePut pc ci k chk)) (hb : h[b]? = some (.inl (ci, fs))) (hk : k < fs.length) (hc : chk v = true) (g : run call code n (pc + 3) lv st (h.set b (.inl (ci, fs.set k v))) = some res) : run call code (n + 1) pc lv (v :: .ref b :: st) h = some res := by
  unfold run
  rw [hl]
  simp only [ePut, hb]
  rw [if_pos ⟨trivial, hk, hc⟩]
  exact g
theorem g_put0 {b ci k : Nat} {fs : List Value} {v : Value} {chk : Value → Bool} (hl : look code pc = some (ePut pc ci k chk)) (hb : h[b]? = some (.inl (ci, fs))) (hk : fs[k]? = some v) (hc : chk v = true) (g : run call code n (pc + 3) lv st h = some res) : run call code (n + 1) pc lv (v :: .ref b :: st) h = some res := by
  refine g_put hl hb (lt_at hk) hc ?_
  have e1 : fs.set k v = fs := by
    apply List.ext_getElem?
    intro i
    rw [List.getElem?_set]
    split
    · next e => subst e; rw [if_pos (lt_at hk), hk]
    · rfl
  have e2 : h.set b (.inl (ci, fs)) = h := by
    apply List.ext_getElem?
    intro i
    rw [List.getElem?_set]
    split
    · next e => subst e; rw [if_pos (lt_at hb), hb]
    · rfl
  rw [e1, e2]
  exact g
theorem g_iald {b t : Nat} {i x : Int32} {xs : List Int32} (hl : look code pc = some (eIald pc t)) (hb : h[b]? = some (.inr (t, .inl xs))) (hi : ¬ i < 0) (hx : xs[i.toNatClampNeg]? = some x) (g : run call code n (pc + 1) lv (.int x :: st) h = some res) : run call code (n + 1) pc lv (.int i :: .ref b :: st) h = some res := by
  unfold run
  rw [hl]
  simp only [eIald, hb, hx]
  rw [if_pos ⟨trivial, hi⟩]
  exact g
theorem g_iast {b t : Nat} {i x : Int32} {xs : List Int32} {nar : Int32 → Int32} (hl : look code pc = some (eIast pc t nar)) (hb : h[b]? = some (.inr (t, .inl xs))) (hi : ¬ i < 0) (hx : i.toNatClampNeg < xs.length) (g : run call code n (pc + 1) lv st (h.set b (.inr (t, .inl (xs.set i.toNatClampNeg (nar x))))) = some res) : run call code (n + 1) pc lv (.int x :: .int i :: .ref b :: st) h = some res := by
  unfold run
  rw [hl]
  simp only [eIast, hb]
  rw [if_pos ⟨trivial, hi, hx⟩]
  exact g
theorem g_len {b : Nat} {xs : List Int32} (hl : look code pc = some (eLen pc)) (hb : h[b]? = some (.inr (0, .inl xs))) (g : run call code n (pc + 1) lv (.int (nI xs.length) :: st) h = some res) : run call code (n + 1) pc lv (.ref b :: st) h = some res := by
  unfold run
  rw [hl]
  simp only [eLen, hb, if_true]
  exact g
theorem g_copy {a a0 : Nat} {k : Int32} {xs ys : List Int32} (hl : look code pc = some (eCopy pc)) (h0 : h[a0]? = some (.inr (0, .inl xs))) (h1 : h[a]? = some (.inr (0, .inl ys))) (hk : ¬ k < 0) (l0 : k.toNatClampNeg = xs.length) (l1 : k.toNatClampNeg = ys.length) (hc : cats st ≤ 8) (g : run call code n (pc + 3) lv st (h.set a (.inr (0, .inl xs))) = some res) : run call code (n + 1) pc lv (.int k :: .int 0 :: .ref a :: .int 0 :: .ref a0 :: st) h = some res := by
  unfold run
  rw [hl]
  simp only [eCopy, h0, h1]
  rw [if_pos ⟨trivial, trivial, trivial, trivial, hk, l0, l1, hc⟩]
  exact g
theorem g_min {x y : Int32} (hl : look code pc = some (eMin pc)) (hc : cats st ≤ 8) (g : run call code n (pc + 3) lv (.int (if y < x then y else x) :: st) h = some res) : run call code (n + 1) pc lv (.int y :: .int x :: st) h = some res := by
  unfold run
  rw [hl]
  simp only [eMin]
  rw [if_pos hc]
  exact g
theorem g_aald {b k : Nat} {i : Int32} {xs : List (Option Nat)} (hl : look code pc = some (eAald pc)) (hb : h[b]? = some (.inr (3, .inr (.inr xs)))) (hi : ¬ i < 0) (hx : xs[i.toNatClampNeg]? = some (some k)) (g : run call code n (pc + 1) lv (.ref k :: st) h = some res) : run call code (n + 1) pc lv (.int i :: .ref b :: st) h = some res := by
  unfold run
  rw [hl]
  simp only [eAald, hb, hx]
  rw [if_pos ⟨trivial, hi⟩]
  exact g
theorem g_sp {f : List Value → Option (List Value)} {k : Nat} {st' : List Value} (hl : look code pc = some (eSp pc k f)) (hf : f st = some st') (g : run call code n (pc + k) lv st' h = some res) : run call code (n + 1) pc lv st h = some res := by
  unfold run
  rw [hl]
  simp only [eSp, hf]
  exact g
theorem g_callV {b k id ci : Nat} {fs : List Value} {r : List Value} {v : Option Value} {h' : List AC} (hl : look code pc = some (eCallV pc k id ci)) (hd : st.drop k = .ref b :: r) (hb : h[b]? = some (.inl (ci, fs))) (hc : cats r ≤ 8) (hm : call id (.ref b :: (st.take k).reverse) h = some (v, h')) (g : run call code n (pc + 3) lv (v.toList ++ r) h' = some res) : run call code (n + 1) pc lv st h = some res := by
  unfold run
  rw [hl]
  simp only [eCallV, hd, hb, hm]
  rw [if_pos ⟨trivial, hc⟩]
  exact g
theorem g_callS {k id : Nat} {v : Option Value} {h' : List AC} (hl : look code pc = some (eCallS pc k id)) (hk : k ≤ st.length) (hc : cats (st.drop k) ≤ 8) (hm : call id (st.take k).reverse h = some (v, h')) (g : run call code n (pc + 3) lv (v.toList ++ st.drop k) h' = some res) : run call code (n + 1) pc lv st h = some res := by
  unfold run
  rw [hl]
  simp only [eCallS, hm]
  rw [if_pos ⟨hk, hc⟩]
  exact g
theorem g_retI {x : Int32} (hl : look code pc = some (eRetI pc)) (hr : res = (some (.int x), h)) : run call code (n + 1) pc lv [.int x] h = some res := by
  unfold run
  rw [hl, hr]
  rfl
theorem g_retZ {x : Int32} (hl : look code pc = some (eRetZ pc)) (hx : x = 0 ∨ x = 1) (hr : res = (some (.int x), h)) : run call code (n + 1) pc lv [.int x] h = some res := by
  unfold run
  rw [hl, hr]
  simp only [eRetZ]
  rw [if_pos hx]
theorem g_retV (hl : look code pc = some (eRetV pc)) (hr : res = (none, h)) : run call code (n + 1) pc lv [] h = some res := by
  unfold run
  rw [hl, hr]
  rfl
end Go
theorem callD_of {code : Nat → List Ent} {mI : Nat → MI} {f d id : Nat} {as : List Value} {h : List AC} {res : Option Value × List AC} (cd : List Ent) (hcd : code id = cd) (hc : cats as ≤ (mI id).2.2.1) (g : run (callD code mI f d) cd f 0 (lvE (mI id).2.2.1 as) [] h = some res) : callD code mI f (d + 1) id as h = some res := by
  unfold callD
  rw [if_pos hc, hcd]
  exact g
abbrev CC (d : Nat) : Call := callD (codeT true) mI 100000 d
/-- more steps do no harm -/
theorem run_le {call : Call} {code : List Ent} : ∀ {n m pc : Nat} {lv : Lv} {st : List Value} {h : List AC} {res : Option Value × List AC}, n ≤ m → run call code n pc lv st h = some res → run call code m pc lv st h = some res := by
  intro n
  induction n with
  | zero => intro m pc lv st h res _ hr; cases hr
  | succ n ih =>
    intro m pc lv st h res hm hr
    cases m with
    | zero => omega
    | succ m =>
      unfold run at hr ⊢
      split at hr
      · cases hr
      · next en hl =>
        split at hr
        · cases hr
        · exact hr
        · exact ih (by omega) hr
/-! what a program can compare -/
def eqAC (a b : AC) : Bool := match a, b with
  | .inl x, .inl y => decide (x = y)
  | .inr (t, .inl xs), .inr (u, .inl ys) => decide (t = u) && decide (xs = ys)
  | .inr (t, .inr (.inl xs)), .inr (u, .inr (.inl ys)) => decide (t = u) && decide (xs = ys)
  | .inr (t, .inr (.inr xs)), .inr (u, .inr (.inr ys)) => decide (t = u) && decide (xs = ys)
  | _, _ => false
theorem eqAC_ok {a b : AC} (h : eqAC a b = true) : a = b := by
  unfold eqAC at h
  split at h
  · rw [of_decide_eq_true h]
  · simp only [Bool.and_eq_true, decide_eq_true_eq] at h
    rw [h.1, h.2]
  · simp only [Bool.and_eq_true, decide_eq_true_eq] at h
    rw [h.1, h.2]
  · simp only [Bool.and_eq_true, decide_eq_true_eq] at h
    rw [h.1, h.2]
  · cases h
def eqH : List AC → List AC → Bool
  | [], [] => true
  | a :: r, b :: s => eqAC a b && eqH r s
  | _, _ => false
theorem eqH_ok : ∀ {a b : List AC}, eqH a b = true → a = b
  | [], [], _ => rfl
  | a :: r, b :: s, h => by
    simp only [eqH, Bool.and_eq_true] at h
    rw [eqAC_ok h.1, eqH_ok h.2]
  | [], _ :: _, h => by cases h
  | _ :: _, [], h => by cases h
def eqO (a b : Option AC) : Bool := match a, b with
  | some x, some y => eqAC x y
  | none, none => true
  | _, _ => false
theorem eqO_ok {a b : Option AC} (h : eqO a b = true) : a = b := by
  unfold eqO at h
  split at h
  · rw [eqAC_ok h]
  · rfl
  · cases h
def eqG (a b : Option (Lv × List Value × List AC)) : Bool := match a, b with
  | some x, some y => decide (x.1 = y.1) && (decide (x.2.1 = y.2.1) && eqH x.2.2 y.2.2)
  | _, _ => false
theorem eqG_ok {a b : Option (Lv × List Value × List AC)} (h : eqG a b = true) : a = b := by
  unfold eqG at h
  split at h
  · next x y =>
    simp only [Bool.and_eq_true, decide_eq_true_eq] at h
    obtain ⟨x1, x2, x3⟩ := x
    obtain ⟨y1, y2, y3⟩ := y
    dsimp only at h
    rw [h.1, h.2.1, eqH_ok h.2.2]
  · cases h
def eqR (a b : Option (Option Value × List AC)) : Bool := match a, b with
  | some x, some y => decide (x.1 = y.1) && eqH x.2 y.2
  | _, _ => false
theorem eqR_ok {a b : Option (Option Value × List AC)} (h : eqR a b = true) : a = b := by
  unfold eqR at h
  split at h
  · next x y =>
    simp only [Bool.and_eq_true, decide_eq_true_eq] at h
    obtain ⟨x1, x2⟩ := x
    obtain ⟨y1, y2⟩ := y
    dsimp only at h
    rw [h.1, eqH_ok h.2]
  · cases h
