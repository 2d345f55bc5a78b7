/-! walking the law -/
section LawRows
variable {call : Call} {code : List Ent} {n pc L : Nat} {xs : Nat → Int32} {lv : Lv} {st : List Value} {h : List AC} {res : Option Value × List AC} {stop : Nat} {out : Lv × List Value × List AC}
theorem g_slen {u : Nat} (hl : look code pc = some (eSlen pc L)) (g : run call code n (pc + 1) lv (.int (Int32.ofNat L) :: st) h = some res) : run call code (n + 1) pc lv (.retAddr u :: st) h = some res := by
  unfold run
  rw [hl]
  exact g
theorem g_sld {u : Nat} {i : Int32} (hl : look code pc = some (eSld pc L xs)) (hi : ¬ i < 0 ∧ i.toNatClampNeg < L) (g : run call code n (pc + 1) lv (.int (xs i.toNatClampNeg) :: st) h = some res) : run call code (n + 1) pc lv (.int i :: .retAddr u :: st) h = some res := by
  unfold run
  rw [hl]
  simp only [eSld]
  rw [if_pos hi]
  exact g
theorem g_sw {lo : Int} {ts : List Nat} {t0 t : Nat} {x : Int32} (hl : look code pc = some (ePure pc (fSw lo ts t0))) (hx : swt x.toInt lo ts t0 = t) (g : run call code n t lv st h = some res) : run call code (n + 1) pc lv (.int x :: st) h = some res := by
  refine g_pure hl (pc' := swt x.toInt lo ts t0) (lv' := lv) (st' := st) rfl ?_
  rw [hx]
  exact g
theorem t_stop : goTo call code stop (n + 1) stop lv st h = some (lv, st, h) := by
  unfold goTo
  rw [if_pos rfl]
theorem t_pure {f : Lv → List Value → Option (Nat × Lv × List Value)} {pc' : Nat} {lv' : Lv} {st' : List Value} (hne : pc ≠ stop) (hl : look code pc = some (ePure pc f)) (hf : f lv st = some (pc', lv', st')) (g : goTo call code stop n pc' lv' st' h = some out) : goTo call code stop (n + 1) pc lv st h = some out := by
  unfold goTo
  rw [if_neg hne, hl]
  simp only [ePure, hf]
  exact g
theorem t_get {b ci k : Nat} {fs : List Value} {v : Value} (hne : pc ≠ stop) (hl : look code pc = some (eGet pc ci k)) (hb : h[b]? = some (.inl (ci, fs))) (hv : fs[k]? = some v) (g : goTo call code stop n (pc + 3) lv (v :: st) h = some out) : goTo call code stop (n + 1) pc lv (.ref b :: st) h = some out := by
  unfold goTo
  rw [if_neg hne, hl]
  simp only [eGet, hb, hv, if_true]
  exact g
theorem t_callV {b k id ci : Nat} {fs : List Value} {r : List Value} {v : Option Value} {h' : List AC} (hne : pc ≠ stop) (hl : look code pc = some (eCallV pc k id ci)) (hd : st.drop k = .ref b :: r) (hb : h[b]? = some (.inl (ci, fs))) (hc : cats r ≤ 8) (hm : call id (.ref b :: (st.take k).reverse) h = some (v, h')) (g : goTo call code stop n (pc + 3) lv (v.toList ++ r) h' = some out) : goTo call code stop (n + 1) pc lv st h = some out := by
  unfold goTo
  rw [if_neg hne, hl]
  simp only [eCallV, hd, hb, hm]
  rw [if_pos ⟨trivial, hc⟩]
  exact g
theorem t_if1 {f : Int32 → Bool} {t pc' : Nat} {x : Int32} (hne : pc ≠ stop) (hl : look code pc = some (ePure pc (fIf1 pc t f))) (hx : (if f x = true then t else pc + 3) = pc') (g : goTo call code stop n pc' lv st h = some out) : goTo call code stop (n + 1) pc lv (.int x :: st) h = some out := by
  refine t_pure hne hl (pc' := if f x = true then t else pc + 3) (lv' := lv) (st' := st) rfl ?_
  rw [hx]
  exact g
theorem t_if2 {f : Int32 → Int32 → Bool} {t pc' : Nat} {x y : Int32} (hne : pc ≠ stop) (hl : look code pc = some (ePure pc (fIf2 pc t f))) (hx : (if f x y = true then t else pc + 3) = pc') (g : goTo call code stop n pc' lv st h = some out) : goTo call code stop (n + 1) pc lv (.int y :: .int x :: st) h = some out := by
  refine t_pure hne hl (pc' := if f x y = true then t else pc + 3) (lv' := lv) (st' := st) rfl ?_
  rw [hx]
  exact g
theorem t_slen {u : Nat} (hne : pc ≠ stop) (hl : look code pc = some (eSlen pc L)) (g : goTo call code stop n (pc + 1) lv (.int (Int32.ofNat L) :: st) h = some out) : goTo call code stop (n + 1) pc lv (.retAddr u :: st) h = some out := by
  unfold goTo
  rw [if_neg hne, hl]
  exact g
theorem t_sld {u : Nat} {i : Int32} (hne : pc ≠ stop) (hl : look code pc = some (eSld pc L xs)) (hi : ¬ i < 0 ∧ i.toNatClampNeg < L) (g : goTo call code stop n (pc + 1) lv (.int (xs i.toNatClampNeg) :: st) h = some out) : goTo call code stop (n + 1) pc lv (.int i :: .retAddr u :: st) h = some out := by
  unfold goTo
  rw [if_neg hne, hl]
  simp only [eSld]
  rw [if_pos hi]
  exact g
theorem t_sw {lo : Int} {ts : List Nat} {t0 t : Nat} {x : Int32} (hne : pc ≠ stop) (hl : look code pc = some (ePure pc (fSw lo ts t0))) (hx : swt x.toInt lo ts t0 = t) (g : goTo call code stop n t lv st h = some out) : goTo call code stop (n + 1) pc lv (.int x :: st) h = some out := by
  refine t_pure hne hl (pc' := swt x.toInt lo ts t0) (lv' := lv) (st' := st) rfl ?_
  rw [hx]
  exact g
end LawRows
abbrev eh (S M : HS) : List AC := en false M S
theorem eh_eq {S M : HS} : en false M S = en true S M := by
  unfold en
  apply List.map_congr_left
  intro k _
  by_cases z : 137 ≤ k
  · rw [decide_eq_true z, if_neg (by decide), if_pos rfl]
  · rw [decide_eq_false z, if_pos rfl, if_neg (by decide)]
def lvI (i : Nat) (j5 j6 : Option Value) : Lv := [some (.retAddr 0), some (.ref 0), some (.ref 137), some (.ref 151), some (.int (nI i)), j5, j6]
theorem ixI {i k L : Nat} (h : i + k < L) (hL : L < 2 ^ 31) : (¬ (o_iadd (nI i) (nI k)) < 0 ∧ (o_iadd (nI i) (nI k)).toNatClampNeg < L) ∧ (o_iadd (nI i) (nI k)).toNatClampNeg = i + k := by
  have e : o_iadd (nI i) (nI k) = nI (i + k) := nI_add i k
  rw [e, nI_clamp (by omega)]
  exact ⟨⟨nI_pos (by omega), h⟩, rfl⟩
theorem c0_ {S M : HS} : (en false M S)[0]? = some (.inl (7, fo 7 S 0)) := en_get (b := false) (k := 0) (L := 11) ⟨rfl, by decide⟩ rfl
theorem c137_ {S M : HS} : (en true S M)[137]? = some (.inl (8, fo 8 M 137)) := en_get (b := true) (k := 137) (L := 12) ⟨rfl, by decide⟩ rfl
set_option maxRecDepth 100000 in
theorem op_feed {xs : Nat → Int32} {L i n : Nat} {j5 j6 : Option Value} {S S1 M M1 : HS} {v1 v2 : Int32} (hL : L < 2 ^ 31) (hi : i + 6 ≤ L) (e1 : s_X7_feed (xs (i + 1)) (xs (i + 2)) (xs (i + 3)) (xs (i + 4)) (xs (i + 5)) S = some (v1, S1)) (e2 : s_X8_feed (xs (i + 1)) (xs (i + 2)) (xs (i + 3)) (xs (i + 4)) (xs (i + 5)) M = some (v2, M1)) : goTo (CF 30) (k_lawQ false L xs) 769 (n + 90) 144 (lvI i j5 j6) [] (eh S M) = some (lvI i j5 j6, [], eh S1 M1) := by
  unfold eh
  refine t_pure (by decide) rfl rfl ?_
  refine t_pure (by decide) rfl rfl ?_
  refine t_pure (by decide) rfl rfl ?_
  refine t_pure (by decide) rfl rfl ?_
  refine t_pure (by decide) rfl rfl ?_
  refine t_sld (by decide) rfl (ixI (k := 1) (by omega) hL).1 ?_
  rw [(show (o_iadd (nI i) 1).toNatClampNeg = i + 1 from (ixI (L := L) (k := 1) (by omega) hL).2)]
  refine t_pure (by decide) rfl rfl ?_
  refine t_pure (by decide) rfl rfl ?_
  refine t_pure (by decide) rfl rfl ?_
  refine t_pure (by decide) rfl rfl ?_
  refine t_sld (by decide) rfl (ixI (k := 2) (by omega) hL).1 ?_
  rw [(show (o_iadd (nI i) 2).toNatClampNeg = i + 2 from (ixI (L := L) (k := 2) (by omega) hL).2)]
  refine t_pure (by decide) rfl rfl ?_
  refine t_pure (by decide) rfl rfl ?_
  refine t_pure (by decide) rfl rfl ?_
  refine t_pure (by decide) rfl rfl ?_
  refine t_sld (by decide) rfl (ixI (k := 3) (by omega) hL).1 ?_
  rw [(show (o_iadd (nI i) 3).toNatClampNeg = i + 3 from (ixI (L := L) (k := 3) (by omega) hL).2)]
  refine t_pure (by decide) rfl rfl ?_
  refine t_pure (by decide) rfl rfl ?_
  refine t_pure (by decide) rfl rfl ?_
  refine t_pure (by decide) rfl rfl ?_
  refine t_sld (by decide) rfl (ixI (k := 4) (by omega) hL).1 ?_
  rw [(show (o_iadd (nI i) 4).toNatClampNeg = i + 4 from (ixI (L := L) (k := 4) (by omega) hL).2)]
  refine t_pure (by decide) rfl rfl ?_
  refine t_pure (by decide) rfl rfl ?_
  refine t_pure (by decide) rfl rfl ?_
  refine t_pure (by decide) rfl rfl ?_
  refine t_sld (by decide) rfl (ixI (k := 5) (by omega) hL).1 ?_
  rw [(show (o_iadd (nI i) 5).toNatClampNeg = i + 5 from (ixI (L := L) (k := 5) (by omega) hL).2)]
  refine t_callV (by decide) rfl rfl c0_ (Nat.le_of_ble_eq_true rfl) (rf_X7_feed (by omega) _ _ _ _ _ S _ e1) ?_
  show goTo _ _ _ _ _ _ [.int v1] (en false M S1) = _
  refine t_pure (by decide) rfl rfl ?_
  refine t_pure (by decide) rfl rfl ?_
  refine t_pure (by decide) rfl rfl ?_
  refine t_pure (by decide) rfl rfl ?_
  refine t_pure (by decide) rfl rfl ?_
  refine t_pure (by decide) rfl rfl ?_
  refine t_sld (by decide) rfl (ixI (k := 1) (by omega) hL).1 ?_
  rw [(show (o_iadd (nI i) 1).toNatClampNeg = i + 1 from (ixI (L := L) (k := 1) (by omega) hL).2)]
  refine t_pure (by decide) rfl rfl ?_
  refine t_pure (by decide) rfl rfl ?_
  refine t_pure (by decide) rfl rfl ?_
  refine t_pure (by decide) rfl rfl ?_
  refine t_sld (by decide) rfl (ixI (k := 2) (by omega) hL).1 ?_
  rw [(show (o_iadd (nI i) 2).toNatClampNeg = i + 2 from (ixI (L := L) (k := 2) (by omega) hL).2)]
  refine t_pure (by decide) rfl rfl ?_
  refine t_pure (by decide) rfl rfl ?_
  refine t_pure (by decide) rfl rfl ?_
  refine t_pure (by decide) rfl rfl ?_
  refine t_sld (by decide) rfl (ixI (k := 3) (by omega) hL).1 ?_
  rw [(show (o_iadd (nI i) 3).toNatClampNeg = i + 3 from (ixI (L := L) (k := 3) (by omega) hL).2)]
  refine t_pure (by decide) rfl rfl ?_
  refine t_pure (by decide) rfl rfl ?_
  refine t_pure (by decide) rfl rfl ?_
  refine t_pure (by decide) rfl rfl ?_
  refine t_sld (by decide) rfl (ixI (k := 4) (by omega) hL).1 ?_
  rw [(show (o_iadd (nI i) 4).toNatClampNeg = i + 4 from (ixI (L := L) (k := 4) (by omega) hL).2)]
  refine t_pure (by decide) rfl rfl ?_
  refine t_pure (by decide) rfl rfl ?_
  refine t_pure (by decide) rfl rfl ?_
  refine t_pure (by decide) rfl rfl ?_
  refine t_sld (by decide) rfl (ixI (k := 5) (by omega) hL).1 ?_
  rw [(show (o_iadd (nI i) 5).toNatClampNeg = i + 5 from (ixI (L := L) (k := 5) (by omega) hL).2)]
  rw [eh_eq]
  refine t_callV (by decide) rfl rfl c137_ (Nat.le_of_ble_eq_true rfl) (rf_X8_feed (by omega) _ _ _ _ _ M _ e2) ?_
  show goTo _ _ _ _ _ _ (.int v2 :: _) (en true S1 M1) = _
  rw [← eh_eq]
  refine t_pure (by decide) rfl rfl ?_
  refine t_pure (by decide) rfl rfl ?_
  exact t_stop
set_option maxRecDepth 100000 in
theorem op_end {xs : Nat → Int32} {L i n : Nat} {j5 j6 : Option Value} {S S1 M M1 : HS} {v1 v2 : Int32} (hL : L < 2 ^ 31) (hi : i + 6 ≤ L) (e1 : s_X7_end (xs (i + 1)) S = some (v1, S1)) (e2 : s_X8_end (xs (i + 1)) M = some (v2, M1)) : goTo (CF 30) (k_lawQ false L xs) 769 (n + 90) 217 (lvI i j5 j6) [] (eh S M) = some (lvI i j5 j6, [], eh S1 M1) := by
  unfold eh
  refine t_pure (by decide) rfl rfl ?_
  refine t_pure (by decide) rfl rfl ?_
  refine t_pure (by decide) rfl rfl ?_
  refine t_pure (by decide) rfl rfl ?_
  refine t_pure (by decide) rfl rfl ?_
  refine t_sld (by decide) rfl (ixI (k := 1) (by omega) hL).1 ?_
  rw [(show (o_iadd (nI i) 1).toNatClampNeg = i + 1 from (ixI (L := L) (k := 1) (by omega) hL).2)]
  refine t_callV (by decide) rfl rfl c0_ (Nat.le_of_ble_eq_true rfl) (rf_X7_end (by omega) _ S _ e1) ?_
  show goTo _ _ _ _ _ _ [.int v1] (en false M S1) = _
  refine t_pure (by decide) rfl rfl ?_
  refine t_pure (by decide) rfl rfl ?_
  refine t_pure (by decide) rfl rfl ?_
  refine t_pure (by decide) rfl rfl ?_
  refine t_pure (by decide) rfl rfl ?_
  refine t_pure (by decide) rfl rfl ?_
  refine t_sld (by decide) rfl (ixI (k := 1) (by omega) hL).1 ?_
  rw [(show (o_iadd (nI i) 1).toNatClampNeg = i + 1 from (ixI (L := L) (k := 1) (by omega) hL).2)]
  rw [eh_eq]
  refine t_callV (by decide) rfl rfl c137_ (Nat.le_of_ble_eq_true rfl) (rf_X8_end (by omega) _ M _ e2) ?_
  show goTo _ _ _ _ _ _ (.int v2 :: _) (en true S1 M1) = _
  rw [← eh_eq]
  refine t_pure (by decide) rfl rfl ?_
  refine t_pure (by decide) rfl rfl ?_
  exact t_stop
set_option maxRecDepth 100000 in
theorem op_text {xs : Nat → Int32} {L i n : Nat} {j5 j6 : Option Value} {S S1 M M1 : HS} {v1 v2 : Int32} (hL : L < 2 ^ 31) (hi : i + 6 ≤ L) (e1 : s_X7_text S = some (v1, S1)) (e2 : s_X8_text M = some (v2, M1)) : goTo (CF 30) (k_lawQ false L xs) 769 (n + 90) 242 (lvI i j5 j6) [] (eh S M) = some (lvI i j5 j6, [], eh S1 M1) := by
  unfold eh
  refine t_pure (by decide) rfl rfl ?_
  refine t_callV (by decide) rfl rfl c0_ (Nat.le_of_ble_eq_true rfl) (rf_X7_text (by omega) S _ e1) ?_
  show goTo _ _ _ _ _ _ [.int v1] (en false M S1) = _
  refine t_pure (by decide) rfl rfl ?_
  refine t_pure (by decide) rfl rfl ?_
  rw [eh_eq]
  refine t_callV (by decide) rfl rfl c137_ (Nat.le_of_ble_eq_true rfl) (rf_X8_text (by omega) M _ e2) ?_
  show goTo _ _ _ _ _ _ (.int v2 :: _) (en true S1 M1) = _
  rw [← eh_eq]
  refine t_pure (by decide) rfl rfl ?_
  refine t_pure (by decide) rfl rfl ?_
  exact t_stop
set_option maxRecDepth 100000 in
theorem op_fault {xs : Nat → Int32} {L i n : Nat} {j5 j6 : Option Value} {S M M1 : HS} {v1 v2 : Int32} (hL : L < 2 ^ 31) (hi : i + 6 ≤ L) (e1 : s_X7_fault S = some v1) (e2 : s_X8_fault M = some (v2, M1)) : goTo (CF 30) (k_lawQ false L xs) 769 (n + 90) 255 (lvI i j5 j6) [] (eh S M) = some (lvI i j5 j6, [], eh S M1) := by
  unfold eh
  refine t_pure (by decide) rfl rfl ?_
  refine t_callV (by decide) rfl rfl c0_ (Nat.le_of_ble_eq_true rfl) (rf_X7_fault (by omega) S _ e1) ?_
  show goTo _ _ _ _ _ _ [.int v1] (en false M S) = _
  refine t_pure (by decide) rfl rfl ?_
  refine t_pure (by decide) rfl rfl ?_
  rw [eh_eq]
  refine t_callV (by decide) rfl rfl c137_ (Nat.le_of_ble_eq_true rfl) (rf_X8_fault (by omega) M _ e2) ?_
  show goTo _ _ _ _ _ _ (.int v2 :: _) (en true S M1) = _
  rw [← eh_eq]
  refine t_pure (by decide) rfl rfl ?_
  refine t_pure (by decide) rfl rfl ?_
  exact t_stop
set_option maxRecDepth 100000 in
theorem op_now {xs : Nat → Int32} {L i n : Nat} {j5 j6 : Option Value} {S M M1 : HS} {v1 v2 : Int32} (hL : L < 2 ^ 31) (hi : i + 6 ≤ L) (e1 : s_X7_now (xs (i + 1)) S = some v1) (e2 : s_X8_now (xs (i + 1)) M = some (v2, M1)) : goTo (CF 30) (k_lawQ false L xs) 769 (n + 90) 268 (lvI i j5 j6) [] (eh S M) = some (lvI i j5 j6, [], eh S M1) := by
  unfold eh
  refine t_pure (by decide) rfl rfl ?_
  refine t_pure (by decide) rfl rfl ?_
  refine t_pure (by decide) rfl rfl ?_
  refine t_pure (by decide) rfl rfl ?_
  refine t_pure (by decide) rfl rfl ?_
  refine t_sld (by decide) rfl (ixI (k := 1) (by omega) hL).1 ?_
  rw [(show (o_iadd (nI i) 1).toNatClampNeg = i + 1 from (ixI (L := L) (k := 1) (by omega) hL).2)]
  refine t_callV (by decide) rfl rfl c0_ (Nat.le_of_ble_eq_true rfl) (rf_X7_now (by omega) _ S _ e1) ?_
  show goTo _ _ _ _ _ _ [.int v1] (en false M S) = _
  refine t_pure (by decide) rfl rfl ?_
  refine t_pure (by decide) rfl rfl ?_
  refine t_pure (by decide) rfl rfl ?_
  refine t_pure (by decide) rfl rfl ?_
  refine t_pure (by decide) rfl rfl ?_
  refine t_pure (by decide) rfl rfl ?_
  refine t_sld (by decide) rfl (ixI (k := 1) (by omega) hL).1 ?_
  rw [(show (o_iadd (nI i) 1).toNatClampNeg = i + 1 from (ixI (L := L) (k := 1) (by omega) hL).2)]
  rw [eh_eq]
  refine t_callV (by decide) rfl rfl c137_ (Nat.le_of_ble_eq_true rfl) (rf_X8_now (by omega) _ M _ e2) ?_
  show goTo _ _ _ _ _ _ (.int v2 :: _) (en true S M1) = _
  rw [← eh_eq]
  refine t_pure (by decide) rfl rfl ?_
  refine t_pure (by decide) rfl rfl ?_
  exact t_stop
set_option maxRecDepth 100000 in
theorem op_compartment {xs : Nat → Int32} {L i n : Nat} {j5 j6 : Option Value} {S M M1 : HS} {v1 v2 : Int32} (hL : L < 2 ^ 31) (hi : i + 6 ≤ L) (e1 : s_X7_compartment (xs (i + 1)) (xs (i + 2)) S = some v1) (e2 : s_X8_compartment (xs (i + 1)) (xs (i + 2)) M = some (v2, M1)) : goTo (CF 30) (k_lawQ false L xs) 769 (n + 90) 293 (lvI i j5 j6) [] (eh S M) = some (lvI i j5 j6, [], eh S M1) := by
  unfold eh
  refine t_pure (by decide) rfl rfl ?_
  refine t_pure (by decide) rfl rfl ?_
  refine t_pure (by decide) rfl rfl ?_
  refine t_pure (by decide) rfl rfl ?_
  refine t_pure (by decide) rfl rfl ?_
  refine t_sld (by decide) rfl (ixI (k := 1) (by omega) hL).1 ?_
  rw [(show (o_iadd (nI i) 1).toNatClampNeg = i + 1 from (ixI (L := L) (k := 1) (by omega) hL).2)]
  refine t_pure (by decide) rfl rfl ?_
  refine t_pure (by decide) rfl rfl ?_
  refine t_pure (by decide) rfl rfl ?_
  refine t_pure (by decide) rfl rfl ?_
  refine t_sld (by decide) rfl (ixI (k := 2) (by omega) hL).1 ?_
  rw [(show (o_iadd (nI i) 2).toNatClampNeg = i + 2 from (ixI (L := L) (k := 2) (by omega) hL).2)]
  refine t_callV (by decide) rfl rfl c0_ (Nat.le_of_ble_eq_true rfl) (rf_X7_compartment (by omega) _ _ S _ e1) ?_
  show goTo _ _ _ _ _ _ [.int v1] (en false M S) = _
  refine t_pure (by decide) rfl rfl ?_
  refine t_pure (by decide) rfl rfl ?_
  refine t_pure (by decide) rfl rfl ?_
  refine t_pure (by decide) rfl rfl ?_
  refine t_pure (by decide) rfl rfl ?_
  refine t_pure (by decide) rfl rfl ?_
  refine t_sld (by decide) rfl (ixI (k := 1) (by omega) hL).1 ?_
  rw [(show (o_iadd (nI i) 1).toNatClampNeg = i + 1 from (ixI (L := L) (k := 1) (by omega) hL).2)]
  refine t_pure (by decide) rfl rfl ?_
  refine t_pure (by decide) rfl rfl ?_
  refine t_pure (by decide) rfl rfl ?_
  refine t_pure (by decide) rfl rfl ?_
  refine t_sld (by decide) rfl (ixI (k := 2) (by omega) hL).1 ?_
  rw [(show (o_iadd (nI i) 2).toNatClampNeg = i + 2 from (ixI (L := L) (k := 2) (by omega) hL).2)]
  rw [eh_eq]
  refine t_callV (by decide) rfl rfl c137_ (Nat.le_of_ble_eq_true rfl) (rf_X8_compartment (by omega) _ _ M _ e2) ?_
  show goTo _ _ _ _ _ _ (.int v2 :: _) (en true S M1) = _
  rw [← eh_eq]
  refine t_pure (by decide) rfl rfl ?_
  refine t_pure (by decide) rfl rfl ?_
  exact t_stop
set_option maxRecDepth 100000 in
theorem op_may {xs : Nat → Int32} {L i n : Nat} {j5 j6 : Option Value} {S M M1 : HS} {v1 v2 : Int32} (hL : L < 2 ^ 31) (hi : i + 6 ≤ L) (e1 : s_X7_may (xs (i + 1)) (xs (i + 2)) S = some v1) (e2 : s_X8_may (xs (i + 1)) (xs (i + 2)) M = some (v2, M1)) : goTo (CF 30) (k_lawQ false L xs) 769 (n + 90) 370 (lvI i j5 j6) [] (eh S M) = some (lvI i j5 j6, [], eh S M1) := by
  unfold eh
  refine t_pure (by decide) rfl rfl ?_
  refine t_pure (by decide) rfl rfl ?_
  refine t_pure (by decide) rfl rfl ?_
  refine t_pure (by decide) rfl rfl ?_
  refine t_pure (by decide) rfl rfl ?_
  refine t_sld (by decide) rfl (ixI (k := 1) (by omega) hL).1 ?_
  rw [(show (o_iadd (nI i) 1).toNatClampNeg = i + 1 from (ixI (L := L) (k := 1) (by omega) hL).2)]
  refine t_pure (by decide) rfl rfl ?_
  refine t_pure (by decide) rfl rfl ?_
  refine t_pure (by decide) rfl rfl ?_
  refine t_pure (by decide) rfl rfl ?_
  refine t_sld (by decide) rfl (ixI (k := 2) (by omega) hL).1 ?_
  rw [(show (o_iadd (nI i) 2).toNatClampNeg = i + 2 from (ixI (L := L) (k := 2) (by omega) hL).2)]
  refine t_callV (by decide) rfl rfl c0_ (Nat.le_of_ble_eq_true rfl) (rf_X7_may (by omega) _ _ S _ e1) ?_
  show goTo _ _ _ _ _ _ [.int v1] (en false M S) = _
  refine t_pure (by decide) rfl rfl ?_
  refine t_pure (by decide) rfl rfl ?_
  refine t_pure (by decide) rfl rfl ?_
  refine t_pure (by decide) rfl rfl ?_
  refine t_pure (by decide) rfl rfl ?_
  refine t_pure (by decide) rfl rfl ?_
  refine t_sld (by decide) rfl (ixI (k := 1) (by omega) hL).1 ?_
  rw [(show (o_iadd (nI i) 1).toNatClampNeg = i + 1 from (ixI (L := L) (k := 1) (by omega) hL).2)]
  refine t_pure (by decide) rfl rfl ?_
  refine t_pure (by decide) rfl rfl ?_
  refine t_pure (by decide) rfl rfl ?_
  refine t_pure (by decide) rfl rfl ?_
  refine t_sld (by decide) rfl (ixI (k := 2) (by omega) hL).1 ?_
  rw [(show (o_iadd (nI i) 2).toNatClampNeg = i + 2 from (ixI (L := L) (k := 2) (by omega) hL).2)]
  rw [eh_eq]
  refine t_callV (by decide) rfl rfl c137_ (Nat.le_of_ble_eq_true rfl) (rf_X8_may (by omega) _ _ M _ e2) ?_
  show goTo _ _ _ _ _ _ (.int v2 :: _) (en true S M1) = _
  rw [← eh_eq]
  refine t_pure (by decide) rfl rfl ?_
  refine t_pure (by decide) rfl rfl ?_
  exact t_stop
set_option maxRecDepth 100000 in
theorem op_would {xs : Nat → Int32} {L i n : Nat} {j5 j6 : Option Value} {S S1 M M1 : HS} {v1 v2 : Int32} (hL : L < 2 ^ 31) (hi : i + 6 ≤ L) (e1 : s_X7_would (xs (i + 1)) (xs (i + 2)) (xs (i + 3)) S = some (v1, S1)) (e2 : s_X8_would (xs (i + 1)) (xs (i + 2)) (xs (i + 3)) M = some (v2, M1)) : goTo (CF 30) (k_lawQ false L xs) 769 (n + 90) 407 (lvI i j5 j6) [] (eh S M) = some (lvI i j5 j6, [], eh S1 M1) := by
  unfold eh
  refine t_pure (by decide) rfl rfl ?_
  refine t_pure (by decide) rfl rfl ?_
  refine t_pure (by decide) rfl rfl ?_
  refine t_pure (by decide) rfl rfl ?_
  refine t_pure (by decide) rfl rfl ?_
  refine t_sld (by decide) rfl (ixI (k := 1) (by omega) hL).1 ?_
  rw [(show (o_iadd (nI i) 1).toNatClampNeg = i + 1 from (ixI (L := L) (k := 1) (by omega) hL).2)]
  refine t_pure (by decide) rfl rfl ?_
  refine t_pure (by decide) rfl rfl ?_
  refine t_pure (by decide) rfl rfl ?_
  refine t_pure (by decide) rfl rfl ?_
  refine t_sld (by decide) rfl (ixI (k := 2) (by omega) hL).1 ?_
  rw [(show (o_iadd (nI i) 2).toNatClampNeg = i + 2 from (ixI (L := L) (k := 2) (by omega) hL).2)]
  refine t_pure (by decide) rfl rfl ?_
  refine t_pure (by decide) rfl rfl ?_
  refine t_pure (by decide) rfl rfl ?_
  refine t_pure (by decide) rfl rfl ?_
  refine t_sld (by decide) rfl (ixI (k := 3) (by omega) hL).1 ?_
  rw [(show (o_iadd (nI i) 3).toNatClampNeg = i + 3 from (ixI (L := L) (k := 3) (by omega) hL).2)]
  refine t_callV (by decide) rfl rfl c0_ (Nat.le_of_ble_eq_true rfl) (rf_X7_would (by omega) _ _ _ S _ e1) ?_
  show goTo _ _ _ _ _ _ [.int v1] (en false M S1) = _
  refine t_pure (by decide) rfl rfl ?_
  refine t_pure (by decide) rfl rfl ?_
  refine t_pure (by decide) rfl rfl ?_
  refine t_pure (by decide) rfl rfl ?_
  refine t_pure (by decide) rfl rfl ?_
  refine t_pure (by decide) rfl rfl ?_
  refine t_sld (by decide) rfl (ixI (k := 1) (by omega) hL).1 ?_
  rw [(show (o_iadd (nI i) 1).toNatClampNeg = i + 1 from (ixI (L := L) (k := 1) (by omega) hL).2)]
  refine t_pure (by decide) rfl rfl ?_
  refine t_pure (by decide) rfl rfl ?_
  refine t_pure (by decide) rfl rfl ?_
  refine t_pure (by decide) rfl rfl ?_
  refine t_sld (by decide) rfl (ixI (k := 2) (by omega) hL).1 ?_
  rw [(show (o_iadd (nI i) 2).toNatClampNeg = i + 2 from (ixI (L := L) (k := 2) (by omega) hL).2)]
  refine t_pure (by decide) rfl rfl ?_
  refine t_pure (by decide) rfl rfl ?_
  refine t_pure (by decide) rfl rfl ?_
  refine t_pure (by decide) rfl rfl ?_
  refine t_sld (by decide) rfl (ixI (k := 3) (by omega) hL).1 ?_
  rw [(show (o_iadd (nI i) 3).toNatClampNeg = i + 3 from (ixI (L := L) (k := 3) (by omega) hL).2)]
  rw [eh_eq]
  refine t_callV (by decide) rfl rfl c137_ (Nat.le_of_ble_eq_true rfl) (rf_X8_would (by omega) _ _ _ M _ e2) ?_
  show goTo _ _ _ _ _ _ (.int v2 :: _) (en true S1 M1) = _
  rw [← eh_eq]
  refine t_pure (by decide) rfl rfl ?_
  refine t_pure (by decide) rfl rfl ?_
  exact t_stop
set_option maxRecDepth 100000 in
theorem op_orders {xs : Nat → Int32} {L i n : Nat} {j5 j6 : Option Value} {S S1 M M1 : HS} {v1 v2 : Int32} (hL : L < 2 ^ 31) (hi : i + 6 ≤ L) (e1 : s_X7_orders S = some (v1, S1)) (e2 : s_X8_orders M = some (v2, M1)) : goTo (CF 30) (k_lawQ false L xs) 769 (n + 90) 456 (lvI i j5 j6) [] (eh S M) = some (lvI i j5 j6, [], eh S1 M1) := by
  unfold eh
  refine t_pure (by decide) rfl rfl ?_
  refine t_callV (by decide) rfl rfl c0_ (Nat.le_of_ble_eq_true rfl) (rf_X7_orders (by omega) S _ e1) ?_
  show goTo _ _ _ _ _ _ [.int v1] (en false M S1) = _
  refine t_pure (by decide) rfl rfl ?_
  refine t_pure (by decide) rfl rfl ?_
  rw [eh_eq]
  refine t_callV (by decide) rfl rfl c137_ (Nat.le_of_ble_eq_true rfl) (rf_X8_orders (by omega) M _ e2) ?_
  show goTo _ _ _ _ _ _ (.int v2 :: _) (en true S1 M1) = _
  rw [← eh_eq]
  refine t_pure (by decide) rfl rfl ?_
  refine t_pure (by decide) rfl rfl ?_
  exact t_stop
set_option maxRecDepth 100000 in
theorem op_ordered {xs : Nat → Int32} {L i n : Nat} {j5 j6 : Option Value} {S S1 M M1 : HS} {v1 v2 : Int32} (hL : L < 2 ^ 31) (hi : i + 6 ≤ L) (e1 : s_X7_ordered (xs (i + 1)) S = some (v1, S1)) (e2 : s_X8_ordered (xs (i + 1)) M = some (v2, M1)) : goTo (CF 30) (k_lawQ false L xs) 769 (n + 90) 469 (lvI i j5 j6) [] (eh S M) = some (lvI i j5 j6, [], eh S1 M1) := by
  unfold eh
  refine t_pure (by decide) rfl rfl ?_
  refine t_pure (by decide) rfl rfl ?_
  refine t_pure (by decide) rfl rfl ?_
  refine t_pure (by decide) rfl rfl ?_
  refine t_pure (by decide) rfl rfl ?_
  refine t_sld (by decide) rfl (ixI (k := 1) (by omega) hL).1 ?_
  rw [(show (o_iadd (nI i) 1).toNatClampNeg = i + 1 from (ixI (L := L) (k := 1) (by omega) hL).2)]
  refine t_callV (by decide) rfl rfl c0_ (Nat.le_of_ble_eq_true rfl) (rf_X7_ordered (by omega) _ S _ e1) ?_
  show goTo _ _ _ _ _ _ [.int v1] (en false M S1) = _
  refine t_pure (by decide) rfl rfl ?_
  refine t_pure (by decide) rfl rfl ?_
  refine t_pure (by decide) rfl rfl ?_
  refine t_pure (by decide) rfl rfl ?_
  refine t_pure (by decide) rfl rfl ?_
  refine t_pure (by decide) rfl rfl ?_
  refine t_sld (by decide) rfl (ixI (k := 1) (by omega) hL).1 ?_
  rw [(show (o_iadd (nI i) 1).toNatClampNeg = i + 1 from (ixI (L := L) (k := 1) (by omega) hL).2)]
  rw [eh_eq]
  refine t_callV (by decide) rfl rfl c137_ (Nat.le_of_ble_eq_true rfl) (rf_X8_ordered (by omega) _ M _ e2) ?_
  show goTo _ _ _ _ _ _ (.int v2 :: _) (en true S1 M1) = _
  rw [← eh_eq]
  refine t_pure (by decide) rfl rfl ?_
  refine t_pure (by decide) rfl rfl ?_
  exact t_stop
set_option maxRecDepth 100000 in
theorem op_without {xs : Nat → Int32} {L i n : Nat} {j5 j6 : Option Value} {S M M1 : HS} {v1 v2 : Int32} (hL : L < 2 ^ 31) (hi : i + 6 ≤ L) (e1 : s_X7_without (xs (i + 1)) S = some v1) (e2 : s_X8_without (xs (i + 1)) M = some (v2, M1)) : goTo (CF 30) (k_lawQ false L xs) 769 (n + 90) 494 (lvI i j5 j6) [] (eh S M) = some (lvI i j5 j6, [], eh S M1) := by
  unfold eh
  refine t_pure (by decide) rfl rfl ?_
  refine t_pure (by decide) rfl rfl ?_
  refine t_pure (by decide) rfl rfl ?_
  refine t_pure (by decide) rfl rfl ?_
  refine t_pure (by decide) rfl rfl ?_
  refine t_sld (by decide) rfl (ixI (k := 1) (by omega) hL).1 ?_
  rw [(show (o_iadd (nI i) 1).toNatClampNeg = i + 1 from (ixI (L := L) (k := 1) (by omega) hL).2)]
  refine t_callV (by decide) rfl rfl c0_ (Nat.le_of_ble_eq_true rfl) (rf_X7_without (by omega) _ S _ e1) ?_
  show goTo _ _ _ _ _ _ [.int v1] (en false M S) = _
  refine t_pure (by decide) rfl rfl ?_
  refine t_pure (by decide) rfl rfl ?_
  refine t_pure (by decide) rfl rfl ?_
  refine t_pure (by decide) rfl rfl ?_
  refine t_pure (by decide) rfl rfl ?_
  refine t_pure (by decide) rfl rfl ?_
  refine t_sld (by decide) rfl (ixI (k := 1) (by omega) hL).1 ?_
  rw [(show (o_iadd (nI i) 1).toNatClampNeg = i + 1 from (ixI (L := L) (k := 1) (by omega) hL).2)]
  rw [eh_eq]
  refine t_callV (by decide) rfl rfl c137_ (Nat.le_of_ble_eq_true rfl) (rf_X8_without (by omega) _ M _ e2) ?_
  show goTo _ _ _ _ _ _ (.int v2 :: _) (en true S M1) = _
  rw [← eh_eq]
  refine t_pure (by decide) rfl rfl ?_
  refine t_pure (by decide) rfl rfl ?_
  exact t_stop
set_option maxRecDepth 100000 in
theorem op_plan {xs : Nat → Int32} {L i n : Nat} {j5 j6 : Option Value} {S S1 M M1 : HS} {v1 v2 : Int32} (hL : L < 2 ^ 31) (hi : i + 6 ≤ L) (e1 : s_X7_plan (xs (i + 1)) S = some (v1, S1)) (e2 : s_X8_plan (xs (i + 1)) M = some (v2, M1)) : goTo (CF 30) (k_lawQ false L xs) 769 (n + 90) 519 (lvI i j5 j6) [] (eh S M) = some (lvI i j5 j6, [], eh S1 M1) := by
  unfold eh
  refine t_pure (by decide) rfl rfl ?_
  refine t_pure (by decide) rfl rfl ?_
  refine t_pure (by decide) rfl rfl ?_
  refine t_pure (by decide) rfl rfl ?_
  refine t_pure (by decide) rfl rfl ?_
  refine t_sld (by decide) rfl (ixI (k := 1) (by omega) hL).1 ?_
  rw [(show (o_iadd (nI i) 1).toNatClampNeg = i + 1 from (ixI (L := L) (k := 1) (by omega) hL).2)]
  refine t_callV (by decide) rfl rfl c0_ (Nat.le_of_ble_eq_true rfl) (rf_X7_plan (by omega) _ S _ e1) ?_
  show goTo _ _ _ _ _ _ [.int v1] (en false M S1) = _
  refine t_pure (by decide) rfl rfl ?_
  refine t_pure (by decide) rfl rfl ?_
  refine t_pure (by decide) rfl rfl ?_
  refine t_pure (by decide) rfl rfl ?_
  refine t_pure (by decide) rfl rfl ?_
  refine t_pure (by decide) rfl rfl ?_
  refine t_sld (by decide) rfl (ixI (k := 1) (by omega) hL).1 ?_
  rw [(show (o_iadd (nI i) 1).toNatClampNeg = i + 1 from (ixI (L := L) (k := 1) (by omega) hL).2)]
  rw [eh_eq]
  refine t_callV (by decide) rfl rfl c137_ (Nat.le_of_ble_eq_true rfl) (rf_X8_plan (by omega) _ M _ e2) ?_
  show goTo _ _ _ _ _ _ (.int v2 :: _) (en true S1 M1) = _
  rw [← eh_eq]
  refine t_pure (by decide) rfl rfl ?_
  refine t_pure (by decide) rfl rfl ?_
  exact t_stop
set_option maxRecDepth 100000 in
theorem op_washes {xs : Nat → Int32} {L i n : Nat} {j5 j6 : Option Value} {S S1 M M1 : HS} {v1 v2 : Int32} (hL : L < 2 ^ 31) (hi : i + 6 ≤ L) (e1 : s_X7_washes S = some (v1, S1)) (e2 : s_X8_washes M = some (v2, M1)) : goTo (CF 30) (k_lawQ false L xs) 769 (n + 90) 544 (lvI i j5 j6) [] (eh S M) = some (lvI i j5 j6, [], eh S1 M1) := by
  unfold eh
  refine t_pure (by decide) rfl rfl ?_
  refine t_callV (by decide) rfl rfl c0_ (Nat.le_of_ble_eq_true rfl) (rf_X7_washes (by omega) S _ e1) ?_
  show goTo _ _ _ _ _ _ [.int v1] (en false M S1) = _
  refine t_pure (by decide) rfl rfl ?_
  refine t_pure (by decide) rfl rfl ?_
  rw [eh_eq]
  refine t_callV (by decide) rfl rfl c137_ (Nat.le_of_ble_eq_true rfl) (rf_X8_washes (by omega) M _ e2) ?_
  show goTo _ _ _ _ _ _ (.int v2 :: _) (en true S1 M1) = _
  rw [← eh_eq]
  refine t_pure (by decide) rfl rfl ?_
  refine t_pure (by decide) rfl rfl ?_
  exact t_stop
set_option maxRecDepth 100000 in
theorem op_asks {xs : Nat → Int32} {L i n : Nat} {j5 j6 : Option Value} {S S1 M M1 : HS} {v1 v2 : Int32} (hL : L < 2 ^ 31) (hi : i + 6 ≤ L) (e1 : s_X7_asks (xs (i + 1)) (xs (i + 2)) S = some (v1, S1)) (e2 : s_X8_asks (xs (i + 1)) (xs (i + 2)) M = some (v2, M1)) : goTo (CF 30) (k_lawQ false L xs) 769 (n + 90) 557 (lvI i j5 j6) [] (eh S M) = some (lvI i j5 j6, [], eh S1 M1) := by
  unfold eh
  refine t_pure (by decide) rfl rfl ?_
  refine t_pure (by decide) rfl rfl ?_
  refine t_pure (by decide) rfl rfl ?_
  refine t_pure (by decide) rfl rfl ?_
  refine t_pure (by decide) rfl rfl ?_
  refine t_sld (by decide) rfl (ixI (k := 1) (by omega) hL).1 ?_
  rw [(show (o_iadd (nI i) 1).toNatClampNeg = i + 1 from (ixI (L := L) (k := 1) (by omega) hL).2)]
  refine t_pure (by decide) rfl rfl ?_
  refine t_pure (by decide) rfl rfl ?_
  refine t_pure (by decide) rfl rfl ?_
  refine t_pure (by decide) rfl rfl ?_
  refine t_sld (by decide) rfl (ixI (k := 2) (by omega) hL).1 ?_
  rw [(show (o_iadd (nI i) 2).toNatClampNeg = i + 2 from (ixI (L := L) (k := 2) (by omega) hL).2)]
  refine t_callV (by decide) rfl rfl c0_ (Nat.le_of_ble_eq_true rfl) (rf_X7_asks (by omega) _ _ S _ e1) ?_
  show goTo _ _ _ _ _ _ [.int v1] (en false M S1) = _
  refine t_pure (by decide) rfl rfl ?_
  refine t_pure (by decide) rfl rfl ?_
  refine t_pure (by decide) rfl rfl ?_
  refine t_pure (by decide) rfl rfl ?_
  refine t_pure (by decide) rfl rfl ?_
  refine t_pure (by decide) rfl rfl ?_
  refine t_sld (by decide) rfl (ixI (k := 1) (by omega) hL).1 ?_
  rw [(show (o_iadd (nI i) 1).toNatClampNeg = i + 1 from (ixI (L := L) (k := 1) (by omega) hL).2)]
  refine t_pure (by decide) rfl rfl ?_
  refine t_pure (by decide) rfl rfl ?_
  refine t_pure (by decide) rfl rfl ?_
  refine t_pure (by decide) rfl rfl ?_
  refine t_sld (by decide) rfl (ixI (k := 2) (by omega) hL).1 ?_
  rw [(show (o_iadd (nI i) 2).toNatClampNeg = i + 2 from (ixI (L := L) (k := 2) (by omega) hL).2)]
  rw [eh_eq]
  refine t_callV (by decide) rfl rfl c137_ (Nat.le_of_ble_eq_true rfl) (rf_X8_asks (by omega) _ _ M _ e2) ?_
  show goTo _ _ _ _ _ _ (.int v2 :: _) (en true S1 M1) = _
  rw [← eh_eq]
  refine t_pure (by decide) rfl rfl ?_
  refine t_pure (by decide) rfl rfl ?_
  exact t_stop
set_option maxRecDepth 100000 in
theorem op_cancel {xs : Nat → Int32} {L i n : Nat} {j5 j6 : Option Value} {S S1 M M1 : HS} {v1 v2 : Int32} (hL : L < 2 ^ 31) (hi : i + 6 ≤ L) (e1 : s_X7_cancel (xs (i + 1)) S = some (v1, S1)) (e2 : s_X8_cancel (xs (i + 1)) M = some (v2, M1)) : goTo (CF 30) (k_lawQ false L xs) 769 (n + 90) 594 (lvI i j5 j6) [] (eh S M) = some (lvI i j5 j6, [], eh S1 M1) := by
  unfold eh
  refine t_pure (by decide) rfl rfl ?_
  refine t_pure (by decide) rfl rfl ?_
  refine t_pure (by decide) rfl rfl ?_
  refine t_pure (by decide) rfl rfl ?_
  refine t_pure (by decide) rfl rfl ?_
  refine t_sld (by decide) rfl (ixI (k := 1) (by omega) hL).1 ?_
  rw [(show (o_iadd (nI i) 1).toNatClampNeg = i + 1 from (ixI (L := L) (k := 1) (by omega) hL).2)]
  refine t_callV (by decide) rfl rfl c0_ (Nat.le_of_ble_eq_true rfl) (rf_X7_cancel (by omega) _ S _ e1) ?_
  show goTo _ _ _ _ _ _ [.int v1] (en false M S1) = _
  refine t_pure (by decide) rfl rfl ?_
  refine t_pure (by decide) rfl rfl ?_
  refine t_pure (by decide) rfl rfl ?_
  refine t_pure (by decide) rfl rfl ?_
  refine t_pure (by decide) rfl rfl ?_
  refine t_pure (by decide) rfl rfl ?_
  refine t_sld (by decide) rfl (ixI (k := 1) (by omega) hL).1 ?_
  rw [(show (o_iadd (nI i) 1).toNatClampNeg = i + 1 from (ixI (L := L) (k := 1) (by omega) hL).2)]
  rw [eh_eq]
  refine t_callV (by decide) rfl rfl c137_ (Nat.le_of_ble_eq_true rfl) (rf_X8_cancel (by omega) _ M _ e2) ?_
  show goTo _ _ _ _ _ _ (.int v2 :: _) (en true S1 M1) = _
  rw [← eh_eq]
  refine t_pure (by decide) rfl rfl ?_
  refine t_pure (by decide) rfl rfl ?_
  exact t_stop
set_option maxRecDepth 100000 in
theorem op_put {xs : Nat → Int32} {L i n : Nat} {j5 j6 : Option Value} {S S1 M M1 : HS} {v1 v2 : Int32} (hL : L < 2 ^ 31) (hi : i + 6 ≤ L) (e1 : s_X7_put (xs (i + 1)) (xs (i + 2)) S = some (v1, S1)) (e2 : s_X8_put (xs (i + 1)) (xs (i + 2)) M = some (v2, M1)) : goTo (CF 30) (k_lawQ false L xs) 769 (n + 90) 619 (lvI i j5 j6) [] (eh S M) = some (lvI i j5 j6, [], eh S1 M1) := by
  unfold eh
  refine t_pure (by decide) rfl rfl ?_
  refine t_pure (by decide) rfl rfl ?_
  refine t_pure (by decide) rfl rfl ?_
  refine t_pure (by decide) rfl rfl ?_
  refine t_pure (by decide) rfl rfl ?_
  refine t_sld (by decide) rfl (ixI (k := 1) (by omega) hL).1 ?_
  rw [(show (o_iadd (nI i) 1).toNatClampNeg = i + 1 from (ixI (L := L) (k := 1) (by omega) hL).2)]
  refine t_pure (by decide) rfl rfl ?_
  refine t_pure (by decide) rfl rfl ?_
  refine t_pure (by decide) rfl rfl ?_
  refine t_pure (by decide) rfl rfl ?_
  refine t_sld (by decide) rfl (ixI (k := 2) (by omega) hL).1 ?_
  rw [(show (o_iadd (nI i) 2).toNatClampNeg = i + 2 from (ixI (L := L) (k := 2) (by omega) hL).2)]
  refine t_callV (by decide) rfl rfl c0_ (Nat.le_of_ble_eq_true rfl) (rf_X7_put (by omega) _ _ S _ e1) ?_
  show goTo _ _ _ _ _ _ [.int v1] (en false M S1) = _
  refine t_pure (by decide) rfl rfl ?_
  refine t_pure (by decide) rfl rfl ?_
  refine t_pure (by decide) rfl rfl ?_
  refine t_pure (by decide) rfl rfl ?_
  refine t_pure (by decide) rfl rfl ?_
  refine t_pure (by decide) rfl rfl ?_
  refine t_sld (by decide) rfl (ixI (k := 1) (by omega) hL).1 ?_
  rw [(show (o_iadd (nI i) 1).toNatClampNeg = i + 1 from (ixI (L := L) (k := 1) (by omega) hL).2)]
  refine t_pure (by decide) rfl rfl ?_
  refine t_pure (by decide) rfl rfl ?_
  refine t_pure (by decide) rfl rfl ?_
  refine t_pure (by decide) rfl rfl ?_
  refine t_sld (by decide) rfl (ixI (k := 2) (by omega) hL).1 ?_
  rw [(show (o_iadd (nI i) 2).toNatClampNeg = i + 2 from (ixI (L := L) (k := 2) (by omega) hL).2)]
  rw [eh_eq]
  refine t_callV (by decide) rfl rfl c137_ (Nat.le_of_ble_eq_true rfl) (rf_X8_put (by omega) _ _ M _ e2) ?_
  show goTo _ _ _ _ _ _ (.int v2 :: _) (en true S1 M1) = _
  rw [← eh_eq]
  refine t_pure (by decide) rfl rfl ?_
  refine t_pure (by decide) rfl rfl ?_
  exact t_stop
set_option maxRecDepth 100000 in
theorem op_load {xs : Nat → Int32} {L i n : Nat} {j5 j6 : Option Value} {S S1 M M1 : HS} {v1 v2 : Int32} (hL : L < 2 ^ 31) (hi : i + 6 ≤ L) (e1 : s_X7_load S = some (v1, S1)) (e2 : s_X8_load M = some (v2, M1)) : goTo (CF 30) (k_lawQ false L xs) 769 (n + 90) 656 (lvI i j5 j6) [] (eh S M) = some (lvI i j5 j6, [], eh S1 M1) := by
  unfold eh
  refine t_pure (by decide) rfl rfl ?_
  refine t_callV (by decide) rfl rfl c0_ (Nat.le_of_ble_eq_true rfl) (rf_X7_load (by omega) S _ e1) ?_
  show goTo _ _ _ _ _ _ [.int v1] (en false M S1) = _
  refine t_pure (by decide) rfl rfl ?_
  refine t_pure (by decide) rfl rfl ?_
  rw [eh_eq]
  refine t_callV (by decide) rfl rfl c137_ (Nat.le_of_ble_eq_true rfl) (rf_X8_load (by omega) M _ e2) ?_
  show goTo _ _ _ _ _ _ (.int v2 :: _) (en true S1 M1) = _
  rw [← eh_eq]
  refine t_pure (by decide) rfl rfl ?_
  refine t_pure (by decide) rfl rfl ?_
  exact t_stop
set_option maxRecDepth 100000 in
theorem op_unload {xs : Nat → Int32} {L i n : Nat} {j5 j6 : Option Value} {S S1 M M1 : HS} {v1 v2 : Int32} (hL : L < 2 ^ 31) (hi : i + 6 ≤ L) (e1 : s_X7_unload (xs (i + 1)) (xs (i + 2)) S = some (v1, S1)) (e2 : s_X8_unload (xs (i + 1)) (xs (i + 2)) M = some (v2, M1)) : goTo (CF 30) (k_lawQ false L xs) 769 (n + 90) 669 (lvI i j5 j6) [] (eh S M) = some (lvI i j5 j6, [], eh S1 M1) := by
  unfold eh
  refine t_pure (by decide) rfl rfl ?_
  refine t_pure (by decide) rfl rfl ?_
  refine t_pure (by decide) rfl rfl ?_
  refine t_pure (by decide) rfl rfl ?_
  refine t_pure (by decide) rfl rfl ?_
  refine t_sld (by decide) rfl (ixI (k := 1) (by omega) hL).1 ?_
  rw [(show (o_iadd (nI i) 1).toNatClampNeg = i + 1 from (ixI (L := L) (k := 1) (by omega) hL).2)]
  refine t_pure (by decide) rfl rfl ?_
  refine t_pure (by decide) rfl rfl ?_
  refine t_pure (by decide) rfl rfl ?_
  refine t_pure (by decide) rfl rfl ?_
  refine t_sld (by decide) rfl (ixI (k := 2) (by omega) hL).1 ?_
  rw [(show (o_iadd (nI i) 2).toNatClampNeg = i + 2 from (ixI (L := L) (k := 2) (by omega) hL).2)]
  refine t_callV (by decide) rfl rfl c0_ (Nat.le_of_ble_eq_true rfl) (rf_X7_unload (by omega) _ _ S _ e1) ?_
  show goTo _ _ _ _ _ _ [.int v1] (en false M S1) = _
  refine t_pure (by decide) rfl rfl ?_
  refine t_pure (by decide) rfl rfl ?_
  refine t_pure (by decide) rfl rfl ?_
  refine t_pure (by decide) rfl rfl ?_
  refine t_pure (by decide) rfl rfl ?_
  refine t_pure (by decide) rfl rfl ?_
  refine t_sld (by decide) rfl (ixI (k := 1) (by omega) hL).1 ?_
  rw [(show (o_iadd (nI i) 1).toNatClampNeg = i + 1 from (ixI (L := L) (k := 1) (by omega) hL).2)]
  refine t_pure (by decide) rfl rfl ?_
  refine t_pure (by decide) rfl rfl ?_
  refine t_pure (by decide) rfl rfl ?_
  refine t_pure (by decide) rfl rfl ?_
  refine t_sld (by decide) rfl (ixI (k := 2) (by omega) hL).1 ?_
  rw [(show (o_iadd (nI i) 2).toNatClampNeg = i + 2 from (ixI (L := L) (k := 2) (by omega) hL).2)]
  rw [eh_eq]
  refine t_callV (by decide) rfl rfl c137_ (Nat.le_of_ble_eq_true rfl) (rf_X8_unload (by omega) _ _ M _ e2) ?_
  show goTo _ _ _ _ _ _ (.int v2 :: _) (en true S1 M1) = _
  rw [← eh_eq]
  refine t_pure (by decide) rfl rfl ?_
  refine t_pure (by decide) rfl rfl ?_
  exact t_stop
set_option maxRecDepth 100000 in
theorem op_empty {xs : Nat → Int32} {L i n : Nat} {j5 j6 : Option Value} {S S1 M M1 : HS} {v1 v2 : Int32} (hL : L < 2 ^ 31) (hi : i + 6 ≤ L) (e1 : s_X7_empty (xs (i + 1)) S = some (v1, S1)) (e2 : s_X8_empty (xs (i + 1)) M = some (v2, M1)) : goTo (CF 30) (k_lawQ false L xs) 769 (n + 90) 706 (lvI i j5 j6) [] (eh S M) = some (lvI i j5 j6, [], eh S1 M1) := by
  unfold eh
  refine t_pure (by decide) rfl rfl ?_
  refine t_pure (by decide) rfl rfl ?_
  refine t_pure (by decide) rfl rfl ?_
  refine t_pure (by decide) rfl rfl ?_
  refine t_pure (by decide) rfl rfl ?_
  refine t_sld (by decide) rfl (ixI (k := 1) (by omega) hL).1 ?_
  rw [(show (o_iadd (nI i) 1).toNatClampNeg = i + 1 from (ixI (L := L) (k := 1) (by omega) hL).2)]
  refine t_callV (by decide) rfl rfl c0_ (Nat.le_of_ble_eq_true rfl) (rf_X7_empty (by omega) _ S _ e1) ?_
  show goTo _ _ _ _ _ _ [.int v1] (en false M S1) = _
  refine t_pure (by decide) rfl rfl ?_
  refine t_pure (by decide) rfl rfl ?_
  refine t_pure (by decide) rfl rfl ?_
  refine t_pure (by decide) rfl rfl ?_
  refine t_pure (by decide) rfl rfl ?_
  refine t_pure (by decide) rfl rfl ?_
  refine t_sld (by decide) rfl (ixI (k := 1) (by omega) hL).1 ?_
  rw [(show (o_iadd (nI i) 1).toNatClampNeg = i + 1 from (ixI (L := L) (k := 1) (by omega) hL).2)]
  rw [eh_eq]
  refine t_callV (by decide) rfl rfl c137_ (Nat.le_of_ble_eq_true rfl) (rf_X8_empty (by omega) _ M _ e2) ?_
  show goTo _ _ _ _ _ _ (.int v2 :: _) (en true S1 M1) = _
  rw [← eh_eq]
  refine t_pure (by decide) rfl rfl ?_
  refine t_pure (by decide) rfl rfl ?_
  exact t_stop
set_option maxRecDepth 100000 in
theorem op_wash {xs : Nat → Int32} {L i n : Nat} {j5 j6 : Option Value} {S S1 M M1 : HS} {v1 v2 : Int32} (hL : L < 2 ^ 31) (hi : i + 6 ≤ L) (e1 : s_X7_wash (xs (i + 1)) S = some (v1, S1)) (e2 : s_X8_wash (xs (i + 1)) M = some (v2, M1)) : goTo (CF 30) (k_lawQ false L xs) 769 (n + 90) 731 (lvI i j5 j6) [] (eh S M) = some (lvI i j5 j6, [], eh S1 M1) := by
  unfold eh
  refine t_pure (by decide) rfl rfl ?_
  refine t_pure (by decide) rfl rfl ?_
  refine t_pure (by decide) rfl rfl ?_
  refine t_pure (by decide) rfl rfl ?_
  refine t_pure (by decide) rfl rfl ?_
  refine t_sld (by decide) rfl (ixI (k := 1) (by omega) hL).1 ?_
  rw [(show (o_iadd (nI i) 1).toNatClampNeg = i + 1 from (ixI (L := L) (k := 1) (by omega) hL).2)]
  refine t_callV (by decide) rfl rfl c0_ (Nat.le_of_ble_eq_true rfl) (rf_X7_wash (by omega) _ S _ e1) ?_
  show goTo _ _ _ _ _ _ [.int v1] (en false M S1) = _
  refine t_pure (by decide) rfl rfl ?_
  refine t_pure (by decide) rfl rfl ?_
  refine t_pure (by decide) rfl rfl ?_
  refine t_pure (by decide) rfl rfl ?_
  refine t_pure (by decide) rfl rfl ?_
  refine t_pure (by decide) rfl rfl ?_
  refine t_sld (by decide) rfl (ixI (k := 1) (by omega) hL).1 ?_
  rw [(show (o_iadd (nI i) 1).toNatClampNeg = i + 1 from (ixI (L := L) (k := 1) (by omega) hL).2)]
  rw [eh_eq]
  refine t_callV (by decide) rfl rfl c137_ (Nat.le_of_ble_eq_true rfl) (rf_X8_wash (by omega) _ M _ e2) ?_
  show goTo _ _ _ _ _ _ (.int v2 :: _) (en true S1 M1) = _
  rw [← eh_eq]
  refine t_pure (by decide) rfl rfl ?_
  refine t_pure (by decide) rfl rfl ?_
  exact t_stop
set_option maxRecDepth 100000 in
theorem op_undo {xs : Nat → Int32} {L i n : Nat} {j5 j6 : Option Value} {S S1 M M1 : HS} {v1 : Int32} (hL : L < 2 ^ 31) (hi : i + 6 ≤ L) (e1 : s_X7_undo S = some (v1, S1)) (e2 : s_X8_undo M = some (v1, M1)) : goTo (CF 30) (k_lawQ false L xs) 769 (n + 90) 756 (lvI i j5 j6) [] (eh S M) = some (lvI i j5 j6, [], eh S1 M1) := by
  unfold eh
  refine t_pure (by decide) rfl rfl ?_
  refine t_callV (by decide) rfl rfl c0_ (Nat.le_of_ble_eq_true rfl) (rf_X7_undo (by omega) S _ e1) ?_
  show goTo _ _ _ _ _ _ [.int v1] (en false M S1) = _
  refine t_pure (by decide) rfl rfl ?_
  rw [eh_eq]
  refine t_callV (by decide) rfl rfl c137_ (Nat.le_of_ble_eq_true rfl) (rf_X8_undo (by omega) M _ e2) ?_
  show goTo _ _ _ _ _ _ (.int v1 :: _) (en true S1 M1) = _
  rw [← eh_eq]
  refine t_if2 (by decide) rfl (pc' := 769) (if_pos (decide_eq_true rfl)) ?_
  exact t_stop
