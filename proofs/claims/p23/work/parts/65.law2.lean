/-! drop in the law; the head; one step; the first state -/
theorem g_last {call : Call} {code : List Ent} {n pc b : Nat} {lv : Lv} {st : List Value} {h : List AC} {res : Option Value × List AC} {i : Int32} {x : Int64} {xs : List Int64} (hl : look code pc = some (eLast pc)) (hb : h[b]? = some (.inr (2, .inr (.inl xs)))) (hi : ¬ i < 0) (hx : i.toNatClampNeg < xs.length) (g : run call code n (pc + 1) lv st (h.set b (.inr (2, .inr (.inl (xs.set i.toNatClampNeg x))))) = some res) : run call code (n + 1) pc lv (.long x :: .int i :: .ref b :: st) h = some res := by
  unfold run
  rw [hl]
  simp only [eLast, hb]
  rw [if_pos ⟨trivial, hi, hx⟩]
  exact g
theorem c151_ {S M : HS} : (en false M S)[151]? = some (.inr (2, .inr (.inl [gl M 151]))) := by
  rw [eh_eq]
  exact en_get (b := true) (k := 151) (L := 2) ⟨rfl, by decide⟩ rfl
theorem en_sJ {S M : HS} {x : Int64} : (en false M S).set 151 (.inr (2, .inr (.inl [x]))) = en false (sg M 151 x) S := by
  rw [eh_eq, eh_eq]
  refine en_set (b := true) (k := 151) (L := 2) ⟨rfl, by decide⟩ rfl ?_ (fun a ha => cell_ne (fun _ => rfl) ?_ (fun _ => rfl) rfl)
  · show (.inr (2, .inr (.inl [gl (sg M 151 x) 151])) : AC) = _
    rw [gl_sg, if_pos rfl]
  · rw [gl_sg, if_neg ha]
set_option maxRecDepth 100000 in
theorem ld_norm {S M : HS} {a b r : Int32} (e1 : s_X7_drop a b S = some r) : run (CF 20) k_ldN 20 0 (lvE 5 [.ref 0, .int a, .int b, .ref 151]) [] (eh S M) = some (some (.int 0), eh S (sg M 151 r.toInt64)) := by
  unfold eh
  refine g_pure rfl rfl ?_
  refine g_pure rfl rfl ?_
  refine g_pure rfl rfl ?_
  refine g_pure rfl rfl ?_
  refine g_pure rfl rfl ?_
  refine g_callV rfl rfl c0_ (Nat.le_of_ble_eq_true rfl) (rf_X7_drop (by omega) _ _ S _ e1) ?_
  show run _ _ _ _ _ [.int r, .int 0, .ref 151] (en false M S) = _
  refine g_pure rfl rfl ?_
  refine g_last rfl c151_ (by decide) (show (0 : Int32).toNatClampNeg < 1 by decide) ?_
  show run _ _ _ _ _ _ ((en false M S).set 151 (.inr (2, .inr (.inl [r.toInt64])))) = _
  rw [en_sJ]
  refine g_pure rfl rfl ?_
  refine g_pure rfl rfl ?_
  exact g_retI rfl rfl
set_option maxRecDepth 100000 in
theorem ld_thr {S M : HS} {a b : Int32} (h : s_X5_hasDrop a S = some 0 ∨ (s_X5_hasDrop a S = some 1 ∧ (b < 0 ∨ ¬ b ≤ 5))) : goTo (CF 20) k_dropP 20 20 0 (lvE 3 [.ref 0, .int a, .int b]) [] (eh S M) = some (lvE 3 [.ref 0, .int a, .int b], [], eh S M) := by
  unfold eh
  refine t_pure (by decide) rfl rfl ?_
  refine t_get (by decide) rfl c0_ (fo_get (S := S) rfl) ?_
  refine t_pure (by decide) rfl rfl ?_
  rcases h with e | ⟨e, hb⟩
  · refine t_callV (by decide) rfl rfl (en_get (b := false) (k := 22) (L := 9) ⟨rfl, by decide⟩ rfl) (Nat.le_of_ble_eq_true rfl) (rf_X5_hasDrop (by omega) a S _ e) ?_
    show goTo _ _ _ _ _ _ [.int 0] (en false M S) = _
    refine t_if1 (by decide) rfl (pc' := 20) (by decide) ?_
    exact t_stop
  · refine t_callV (by decide) rfl rfl (en_get (b := false) (k := 22) (L := 9) ⟨rfl, by decide⟩ rfl) (Nat.le_of_ble_eq_true rfl) (rf_X5_hasDrop (by omega) a S _ e) ?_
    show goTo _ _ _ _ _ _ [.int 1] (en false M S) = _
    refine t_if1 (by decide) rfl (pc' := 11) (by decide) ?_
    refine t_pure (by decide) rfl rfl ?_
    by_cases z : b < 0
    · refine t_if1 (by decide) rfl (pc' := 20) (if_pos (decide_eq_true z)) ?_
      exact t_stop
    · refine t_if1 (by decide) rfl (pc' := 15) (if_neg (by rw [show b1_lt b = false from decide_eq_false z]; decide)) ?_
      refine t_pure (by decide) rfl rfl ?_
      refine t_pure (by decide) rfl rfl ?_
      have z2 : ¬ b ≤ 5 := by
        rcases hb with q | q
        · exact absurd q z
        · exact q
      refine t_if2 (by decide) rfl (pc' := 20) (if_neg (by rw [show b2_le b 5 = false from decide_eq_false z2]; decide)) ?_
      exact t_stop
set_option maxRecDepth 100000 in
theorem op_drop1 {xs : Nat → Int32} {L i n : Nat} {j5 j6 : Option Value} {h : List AC} (hL : L < 2 ^ 31) (hi : i + 6 ≤ L) : goTo (CF 30) (k_lawQ false L xs) 344 (n + 90) 330 (lvI i j5 j6) [] h = some (lvI i j5 j6, [.ref 151, .int (xs (i + 2)), .int (xs (i + 1)), .ref 0], h) := by
  refine t_pure (by decide) rfl rfl ?_
  refine t_pure (by decide) rfl rfl ?_
  refine t_pure (by decide) rfl rfl ?_
  refine t_pure (by decide) rfl rfl ?_
  refine t_pure (by decide) rfl rfl ?_
  refine t_sld (by decide) rfl (ixI (k := 1) (by omega) hL).1 ?_
  rw [(show (o_iadd (nI i) 1).toNatClampNeg = i + 1 from (ixI (L := L) (k := 1) (by omega) hL).2)]
  refine t_pure (by decide) rfl rfl ?_
  refine t_pure (by decide) rfl rfl ?_
  refine t_pure (by decide) rfl rfl ?_
  refine t_pure (by decide) rfl rfl ?_
  refine t_sld (by decide) rfl (ixI (k := 2) (by omega) hL).1 ?_
  rw [(show (o_iadd (nI i) 2).toNatClampNeg = i + 2 from (ixI (L := L) (k := 2) (by omega) hL).2)]
  refine t_pure (by decide) rfl rfl ?_
  exact t_stop
set_option maxRecDepth 100000 in
theorem op_drop2 {xs : Nat → Int32} {L i n : Nat} {j5 j6 : Option Value} {S M M1 : HS} {k v2 : Int32} (hL : L < 2 ^ 31) (hi : i + 6 ≤ L) (e2 : s_X8_drop (xs (i + 1)) (xs (i + 2)) M = some (v2, M1)) : goTo (CF 30) (k_lawQ false L xs) 769 (n + 90) 347 (lvI i j5 j6) [.int k] (eh S M) = some (lvI i (some (.int k)) (some (.int v2)), [], eh S M1) := by
  unfold eh
  refine t_pure (by decide) rfl rfl ?_
  refine t_pure (by decide) rfl rfl ?_
  refine t_pure (by decide) rfl rfl ?_
  refine t_pure (by decide) rfl rfl ?_
  refine t_pure (by decide) rfl rfl ?_
  refine t_pure (by decide) rfl rfl ?_
  refine t_sld (by decide) rfl (ixI (k := 1) (by omega) hL).1 ?_
  rw [(show (o_iadd (nI i) 1).toNatClampNeg = i + 1 from (ixI (L := L) (k := 1) (by omega) hL).2)]
  refine t_pure (by decide) rfl rfl ?_
  refine t_pure (by decide) rfl rfl ?_
  refine t_pure (by decide) rfl rfl ?_
  refine t_pure (by decide) rfl rfl ?_
  refine t_sld (by decide) rfl (ixI (k := 2) (by omega) hL).1 ?_
  rw [(show (o_iadd (nI i) 2).toNatClampNeg = i + 2 from (ixI (L := L) (k := 2) (by omega) hL).2)]
  rw [eh_eq]
  refine t_callV (by decide) rfl rfl c137_ (Nat.le_of_ble_eq_true rfl) (rf_X8_drop (by omega) _ _ M _ e2) ?_
  show goTo _ _ _ _ _ _ (.int v2 :: _) (en true S M1) = _
  rw [← eh_eq]
  refine t_pure (by decide) rfl rfl ?_
  refine t_pure (by decide) rfl rfl ?_
  exact t_stop
theorem gt_no {i L : Nat} (hL : L < 2 ^ 31) (hi : i + 6 ≤ L) : b2_gt (nI i) (o_isub (Int32.ofNat L) 6) = false := by
  refine decide_eq_false ?_
  show ¬ (nI L - nI 6) < nI i
  rw [pk_sub (by omega)]
  exact nI_nlt (by omega) (by omega)
theorem gt_yes {i L : Nat} (hL : L < 2 ^ 30) (hi : L < i + 6) (h2 : i < 2 ^ 30) : b2_gt (nI i) (o_isub (Int32.ofNat L) 6) = true := by
  refine decide_eq_true ?_
  show (nI L - nI 6) < nI i
  by_cases z : 6 ≤ L
  · rw [pk_sub z]
    exact nI_lt (by omega) (by omega)
  · exact Int32.lt_of_lt_of_le (pk_sneg (by omega) (by omega)) (nI_pos' (by omega))
set_option maxRecDepth 100000 in
theorem law_go {xs : Nat → Int32} {L i n t stop : Nat} {j5 j6 : Option Value} {h : List AC} {out : Lv × List Value × List AC} (hs : stop = 769 ∨ stop = 344) (hL : L < 2 ^ 31) (hi : i + 6 ≤ L) (hsw : swt (o_iand (xs i) 31).toInt 0 [144, 217, 242, 255, 268, 293, 330, 370, 407, 456, 469, 494, 519, 544, 557, 594, 619, 656, 669, 706, 731, 756] 769 = t) (g : goTo (CF 30) (k_lawQ false L xs) stop n t (lvI i j5 j6) [] h = some out) : goTo (CF 30) (k_lawQ false L xs) stop (n + 12) 23 (lvI i j5 j6) [] h = some out := by
  have hg := gt_no hL hi
  rcases hs with rfl | rfl
  · refine t_pure (by decide) rfl rfl ?_
    refine t_pure (by decide) rfl rfl ?_
    refine t_slen (by decide) rfl ?_
    refine t_pure (by decide) rfl rfl ?_
    refine t_pure (by decide) rfl rfl ?_
    refine t_if2 (by decide) rfl (pc' := 33) (if_neg (by rw [hg]; decide)) ?_
    refine t_pure (by decide) rfl rfl ?_
    refine t_pure (by decide) rfl rfl ?_
    refine t_sld (by decide) rfl ⟨nI_pos (by omega), by rw [nI_clamp (by omega)]; omega⟩ ?_
    rw [nI_clamp (by omega)]
    refine t_pure (by decide) rfl rfl ?_
    refine t_pure (by decide) rfl rfl ?_
    exact t_sw (by decide) rfl hsw g
  · refine t_pure (by decide) rfl rfl ?_
    refine t_pure (by decide) rfl rfl ?_
    refine t_slen (by decide) rfl ?_
    refine t_pure (by decide) rfl rfl ?_
    refine t_pure (by decide) rfl rfl ?_
    refine t_if2 (by decide) rfl (pc' := 33) (if_neg (by rw [hg]; decide)) ?_
    refine t_pure (by decide) rfl rfl ?_
    refine t_pure (by decide) rfl rfl ?_
    refine t_sld (by decide) rfl ⟨nI_pos (by omega), by rw [nI_clamp (by omega)]; omega⟩ ?_
    rw [nI_clamp (by omega)]
    refine t_pure (by decide) rfl rfl ?_
    refine t_pure (by decide) rfl rfl ?_
    exact t_sw (by decide) rfl hsw g
set_option maxRecDepth 100000 in
theorem law_back {xs : Nat → Int32} {L i n : Nat} {j5 j6 : Option Value} {h : List AC} : goTo (CF 30) (k_lawQ false L xs) 23 (n + 3) 769 (lvI i j5 j6) [] h = some (lvI (i + 6) j5 j6, [], h) := by
  refine t_pure (by decide) rfl (lv' := [some (.retAddr 0), some (.ref 0), some (.ref 137), some (.ref 151), some (.int (nI i + 6)), j5, j6]) rfl ?_
  rw [show nI i + 6 = nI (i + 6) from nI_add i 6]
  refine t_pure (by decide) rfl rfl ?_
  exact t_stop
set_option maxRecDepth 100000 in
theorem law_fin {xs : Nat → Int32} {L i n : Nat} {j5 j6 : Option Value} {h : List AC} (hg : b2_gt (nI i) (o_isub (Int32.ofNat L) 6) = true) : run (CF 30) (k_lawQ false L xs) (n + 20) 23 (lvI i j5 j6) [] h = some (some (.int 1), h) := by
  refine g_pure rfl rfl ?_
  refine g_pure rfl rfl ?_
  refine g_slen rfl ?_
  refine g_pure rfl rfl ?_
  refine g_pure rfl rfl ?_
  refine g_if2t rfl hg ?_
  refine g_pure rfl rfl ?_
  exact g_retZ rfl (Or.inr rfl) rfl
theorem law_step {xs : Nat → Int32} {L i j : Nat} {j5 j6 : Option Value} {S M : HS} (hJ : JV S M) (hL : L < 2 ^ 31) (hi : i + 6 ≤ L) (hj : j < 32) (h6 : j ≠ 6) (ej : o_iand (xs i) 31 = nI j) : ∃ S1 M1, JV S1 M1 ∧ goTo (CF 30) (k_lawQ false L xs) 769 (90 + 12) 23 (lvI i j5 j6) [] (eh S M) = some (lvI i j5 j6, [], eh S1 M1) := by
  by_cases q : j = 0
  · subst q
    obtain ⟨v1, S1, M1, e1, e2, hJ1⟩ := jv_feed (a := xs (i + 1)) (b := xs (i + 2)) (c := xs (i + 3)) (d := xs (i + 4)) (e := xs (i + 5)) hJ
    exact ⟨S1, M1, hJ1, law_go (n := 90) (Or.inl rfl) hL hi (by rw [ej]; decide) (op_feed (n := 0) hL hi e1 e2)⟩
  by_cases q : j = 1
  · subst q
    obtain ⟨v1, S1, M1, e1, e2, hJ1⟩ := jv_end (a := xs (i + 1)) hJ
    exact ⟨S1, M1, hJ1, law_go (n := 90) (Or.inl rfl) hL hi (by rw [ej]; decide) (op_end (n := 0) hL hi e1 e2)⟩
  by_cases q : j = 2
  · subst q
    obtain ⟨v1, S1, M1, e1, e2, hJ1⟩ := jv_text hJ
    exact ⟨S1, M1, hJ1, law_go (n := 90) (Or.inl rfl) hL hi (by rw [ej]; decide) (op_text (n := 0) hL hi e1 e2)⟩
  by_cases q : j = 3
  · subst q
    obtain ⟨v1, M1, e1, e2, hJ1⟩ := jv_fault hJ
    exact ⟨S, M1, hJ1, law_go (n := 90) (Or.inl rfl) hL hi (by rw [ej]; decide) (op_fault (n := 0) hL hi e1 e2)⟩
  by_cases q : j = 4
  · subst q
    obtain ⟨v1, M1, e1, e2, hJ1⟩ := jv_now (a := xs (i + 1)) hJ
    exact ⟨S, M1, hJ1, law_go (n := 90) (Or.inl rfl) hL hi (by rw [ej]; decide) (op_now (n := 0) hL hi e1 e2)⟩
  by_cases q : j = 5
  · subst q
    obtain ⟨v1, M1, e1, e2, hJ1⟩ := jv_compartment (a := xs (i + 1)) (b := xs (i + 2)) hJ
    exact ⟨S, M1, hJ1, law_go (n := 90) (Or.inl rfl) hL hi (by rw [ej]; decide) (op_compartment (n := 0) hL hi e1 e2)⟩
  by_cases q : j = 7
  · subst q
    obtain ⟨v1, M1, e1, e2, hJ1⟩ := jv_may (a := xs (i + 1)) (b := xs (i + 2)) hJ
    exact ⟨S, M1, hJ1, law_go (n := 90) (Or.inl rfl) hL hi (by rw [ej]; decide) (op_may (n := 0) hL hi e1 e2)⟩
  by_cases q : j = 8
  · subst q
    obtain ⟨v1, S1, M1, e1, e2, hJ1⟩ := jv_would (a := xs (i + 1)) (b := xs (i + 2)) (c := xs (i + 3)) hJ
    exact ⟨S1, M1, hJ1, law_go (n := 90) (Or.inl rfl) hL hi (by rw [ej]; decide) (op_would (n := 0) hL hi e1 e2)⟩
  by_cases q : j = 9
  · subst q
    obtain ⟨v1, S1, M1, e1, e2, hJ1⟩ := jv_orders hJ
    exact ⟨S1, M1, hJ1, law_go (n := 90) (Or.inl rfl) hL hi (by rw [ej]; decide) (op_orders (n := 0) hL hi e1 e2)⟩
  by_cases q : j = 10
  · subst q
    obtain ⟨v1, v2, S1, M1, e1, e2, hJ1⟩ := jv_ordered (a := xs (i + 1)) hJ
    exact ⟨S1, M1, hJ1, law_go (n := 90) (Or.inl rfl) hL hi (by rw [ej]; decide) (op_ordered (n := 0) hL hi e1 e2)⟩
  by_cases q : j = 11
  · subst q
    obtain ⟨v1, M1, e1, e2, hJ1⟩ := jv_without (a := xs (i + 1)) hJ
    exact ⟨S, M1, hJ1, law_go (n := 90) (Or.inl rfl) hL hi (by rw [ej]; decide) (op_without (n := 0) hL hi e1 e2)⟩
  by_cases q : j = 12
  · subst q
    obtain ⟨v1, v2, S1, M1, e1, e2, hJ1⟩ := jv_plan (a := xs (i + 1)) hJ
    exact ⟨S1, M1, hJ1, law_go (n := 90) (Or.inl rfl) hL hi (by rw [ej]; decide) (op_plan (n := 0) hL hi e1 e2)⟩
  by_cases q : j = 13
  · subst q
    obtain ⟨v1, v2, S1, M1, e1, e2, hJ1⟩ := jv_washes hJ
    exact ⟨S1, M1, hJ1, law_go (n := 90) (Or.inl rfl) hL hi (by rw [ej]; decide) (op_washes (n := 0) hL hi e1 e2)⟩
  by_cases q : j = 14
  · subst q
    obtain ⟨v1, S1, M1, e1, e2, hJ1⟩ := jv_asks (a := xs (i + 1)) (b := xs (i + 2)) hJ
    exact ⟨S1, M1, hJ1, law_go (n := 90) (Or.inl rfl) hL hi (by rw [ej]; decide) (op_asks (n := 0) hL hi e1 e2)⟩
  by_cases q : j = 15
  · subst q
    obtain ⟨v1, S1, M1, e1, e2, hJ1⟩ := jv_cancel (a := xs (i + 1)) hJ
    exact ⟨S1, M1, hJ1, law_go (n := 90) (Or.inl rfl) hL hi (by rw [ej]; decide) (op_cancel (n := 0) hL hi e1 e2)⟩
  by_cases q : j = 16
  · subst q
    obtain ⟨v1, S1, M1, e1, e2, hJ1⟩ := jv_put (a := xs (i + 1)) (b := xs (i + 2)) hJ
    exact ⟨S1, M1, hJ1, law_go (n := 90) (Or.inl rfl) hL hi (by rw [ej]; decide) (op_put (n := 0) hL hi e1 e2)⟩
  by_cases q : j = 17
  · subst q
    obtain ⟨v1, S1, M1, e1, e2, hJ1⟩ := jv_load hJ
    exact ⟨S1, M1, hJ1, law_go (n := 90) (Or.inl rfl) hL hi (by rw [ej]; decide) (op_load (n := 0) hL hi e1 e2)⟩
  by_cases q : j = 18
  · subst q
    obtain ⟨v1, S1, M1, e1, e2, hJ1⟩ := jv_unload (a := xs (i + 1)) (b := xs (i + 2)) hJ
    exact ⟨S1, M1, hJ1, law_go (n := 90) (Or.inl rfl) hL hi (by rw [ej]; decide) (op_unload (n := 0) hL hi e1 e2)⟩
  by_cases q : j = 19
  · subst q
    obtain ⟨v1, S1, M1, e1, e2, hJ1⟩ := jv_empty (a := xs (i + 1)) hJ
    exact ⟨S1, M1, hJ1, law_go (n := 90) (Or.inl rfl) hL hi (by rw [ej]; decide) (op_empty (n := 0) hL hi e1 e2)⟩
  by_cases q : j = 20
  · subst q
    obtain ⟨v1, S1, M1, e1, e2, hJ1⟩ := jv_wash (a := xs (i + 1)) hJ
    exact ⟨S1, M1, hJ1, law_go (n := 90) (Or.inl rfl) hL hi (by rw [ej]; decide) (op_wash (n := 0) hL hi e1 e2)⟩
  by_cases q : j = 21
  · subst q
    obtain ⟨v1, S1, M1, e1, e2, hJ1⟩ := jv_undo hJ
    exact ⟨S1, M1, hJ1, law_go (n := 90) (Or.inl rfl) hL hi (by rw [ej]; decide) (op_undo (n := 0) hL hi e1 e2)⟩
  have h22 : 22 ≤ j := by omega
  refine ⟨S, M, hJ, law_go (n := 90) (t := 769) (Or.inl rfl) hL hi ?_ t_stop⟩
  rw [ej]
  exact (by decide : ∀ j : Fin 32, 22 ≤ j.val → swt (nI j.val).toInt 0 [144, 217, 242, 255, 268, 293, 330, 370, 407, 456, 469, 494, 519, 544, 557, 594, 619, 656, 669, 706, 731, 756] 769 = 769) ⟨j, hj⟩ h22
/-! the first state -/
def S0 : HS := (fun _ _ => 0, (fun _ => 0, (fun k j => if k = 0 ∧ j = 4 then .ref 4 else if k = 0 ∧ j = 5 then .ref 13 else .null, fun k => if k = 5 then [1, 0, 0, 0, 0, 0, 0, 0, 0] else if k = 9 ∨ k = 25 ∨ k = 26 then List.replicate 5 (-1) else if k = 139 then 1 :: List.replicate 156 0 else List.replicate (ln k) 0)))
set_option maxRecDepth 100000 in
theorem law_pre : goTo (CC 30) (k_lawP true) 23 1000 0 (lvE 7 [.retAddr 0]) [] [] = some (lvI 0 none none, [], eh S0 S0) := eqG_ok (by decide +kernel)
theorem s0_ga {k : Nat} (h1 : k ≠ 5) (h2 : k ≠ 9) (h3 : k ≠ 25) (h4 : k ≠ 26) (h5 : k ≠ 139) : ga S0 k = List.replicate (ln k) 0 := by
  show (if k = 5 then _ else if k = 9 ∨ k = 25 ∨ k = 26 then _ else if k = 139 then _ else _) = _
  rw [if_neg h1, if_neg (by omega), if_neg h5]
theorem s0_len {k : Nat} : (ga S0 k).length = ln k := by
  by_cases h1 : k = 5
  · subst h1
    rfl
  · by_cases h2 : k = 9
    · subst h2
      rfl
    · by_cases h3 : k = 25
      · subst h3
        rfl
      · by_cases h4 : k = 26
        · subst h4
          rfl
        · by_cases h5 : k = 139
          · subst h5
            rfl
          · rw [s0_ga h1 h2 h3 h4 h5, List.length_replicate]
theorem rep_0 {n i : Nat} : (List.replicate n (0 : Int32)).getD i 0 = 0 := by
  rw [List.getD_eq_getElem?_getD, List.getElem?_replicate]
  split <;> rfl

def Az0 (i : Nat) : Nat := if i = 0 then 1 else 0
theorem fh_0 : FH S0 S0 4 Az0 := by
  have z : ∀ i, i ≠ 0 → Az0 i = 0 := fun i hi => if_neg hi
  have hW : Wf Az0 := by
    refine ⟨⟨?_, ?_, ?_, ?_, ?_, ?_, fun i hi => ?_, ?_, fun c hc => ?_, fun c hc => ?_, fun a ha => ?_, fun d hd => ?_⟩, fun c _ _ => ⟨z _ (by omega), z _ (by omega)⟩, fun c hc => ?_, fun d hd => ?_, fun d hd => ?_, ?_⟩
    · rw [z 9 (by omega)]
      omega
    · rw [z 10 (by omega)]
      omega
    · rw [z 11 (by omega)]
      omega
    · rw [z 12 (by omega)]
      omega
    · rw [z 13 (by omega)]
      omega
    · exact ⟨by decide, by decide⟩
    · unfold Az0
      split <;> omega
    · rw [z 6 (by omega)]
      omega
    · rw [z 9 (by omega)] at hc
      omega
    · rw [z _ (by omega)]
      omega
    · rw [z _ (by omega)]
      omega
    · rw [z 13 (by omega)] at hd
      omega
    · rw [z 9 (by omega)] at hc
      omega
    · rw [z 13 (by omega)] at hd
      omega
    · rw [z 13 (by omega)] at hd
      omega
    · rw [z 13 (by omega)]
      exact Nat.zero_le _
  have r5 : ∀ c, c < 5 → (List.replicate 5 (-1 : Int32)).getD c 0 = -1 := fun c hc => grep_ hc
  have rf : ∀ (c : Prop) [Decidable c] (x : Nat), (if c then x else x) = x := fun c _ x => by split <;> rfl
  refine ⟨⟨fun k _ => s0_len, fun k _ _ => s0_len, rfl, Or.inl rfl, ⟨?_, ?_, fun i hi => ?_, fun c hc => ?_, fun i hi => ?_, ⟨0, by decide, rfl, fun a b _ _ => ?_⟩, fun d hd => ?_⟩, ⟨?_, ?_, fun c hc => ⟨?_, ?_, ?_, ?_⟩, fun d hd => ?_⟩, fun i hi => ?_, hW⟩, 0, 0, fun _ => Az0, by omega, by omega, rfl, rfl, rfl, fun i hi => absurd hi (Nat.not_lt_zero _), fun i j _ hj => absurd hj (Nat.not_lt_zero _)⟩
  · rw [z 9 (by omega)]
    rfl
  · rw [z 10 (by omega)]
    rfl
  · exact (by decide : ∀ i : Fin 9, ([1, 0, 0, 0, 0, 0, 0, 0, 0] : List Int32).getD i.val 0 = nI (Az0 i.val)) ⟨i, hi⟩
  · rw [z 9 (by omega)] at hc
    omega
  · rw [z 10 (by omega)] at hi
    omega
  · rw [z _ (by omega), Nat.zero_testBit, Nat.zero_testBit]
  · rw [z 13 (by omega)] at hd
    omega
  · rw [z 13 (by omega)]
    rfl
  · rw [z 14 (by omega)]
    rfl
  · rw [s0_ga (by omega) (by omega) (by omega) (by omega) (by omega), rep_0, z _ (by omega)]
    rfl
  · rw [z _ (by omega), dn_0]
    exact r5 c hc
  · rw [z _ (by omega), dn_0]
    exact r5 c hc
  · rw [s0_ga (by omega) (by omega) (by omega) (by omega) (by omega), rep_0, z (30 + 6 * c) (by omega), show nI 0 = 0 from rfl, Int32.zero_mul]
  · rw [z 13 (by omega)] at hd
    omega
  · cases i with
    | zero => rfl
    | succ i =>
      rw [z _ (by omega)]
      show ((1 : Int32) :: List.replicate 156 0).getD (i + 1) 0 = 0
      rw [List.getD_cons_succ, rep_0]
theorem jv_0 : JV S0 S0 := by
  have iT : ∀ t, isT t → IvT S0 t := by
    intro t ht
    have hn := isT_num ht
    refine ⟨⟨0, by omega, rfl⟩, ⟨0, by omega, rfl⟩, ⟨0, by omega, rfl⟩, fun i hi => ⟨0, by omega, ?_⟩⟩
    rw [s0_ga (by omega) (by omega) (by omega) (by omega) (by omega), rep_0]
    rfl
  have hf : ∀ i, 1 ≤ i → fM S0 i = 0 := by
    intro i hi
    obtain ⟨i, rfl⟩ : ∃ k, i = k + 1 := ⟨i - 1, by omega⟩
    show ((1 : Int32) :: List.replicate 156 0).getD (i + 1) 0 = 0
    rw [List.getD_cons_succ, rep_0]
  refine ⟨⟨fun k _ => s0_len, ⟨0, by omega, rfl⟩, ⟨4, Or.inl rfl, rfl⟩, ⟨13, Or.inr rfl, rfl⟩, iT, fun s _ => ⟨0, by omega, rfl⟩, ⟨0, by omega, rfl⟩, ⟨0, by omega, rfl⟩⟩, ⟨fun k _ _ => s0_len, ⟨0, 0, 0, by omega, by omega, by omega, hf _ (by omega), hf _ (by omega), hf _ (by omega), fun c _ => ⟨0, by omega, hf _ (by omega)⟩, fun c _ => ⟨0, by omega, hf _ (by omega)⟩, fun d _ => ⟨0, by omega, hf _ (by omega)⟩, fun d _ hz => ?_⟩, 0, by omega, rfl, fun j hj => by omega⟩, ⟨fun _ => 0, 0, by omega, fun k _ => s0_len, fun k _ _ => s0_len, rfl, rfl, fun i _ => ⟨show 0 < 256 by decide, ?_⟩, fun i _ => ⟨show 0 < 256 by decide, ?_⟩⟩, rfl, ⟨4, 13, Or.inl rfl, Or.inr rfl, by omega, rfl, rfl⟩, 4, Az0, fh_0⟩
  · rw [hf _ (by omega)] at hz
    exact absurd hz (by decide)
  · rw [s0_ga (by omega) (by omega) (by omega) (by omega) (by omega), rep_0]
    rfl
  · rw [s0_ga (by omega) (by omega) (by omega) (by omega) (by omega), rep_0]
    rfl
