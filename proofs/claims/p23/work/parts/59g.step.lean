/-! one row changed: what stays well-formed -/
theorem RgA.up {A B : Nat → Nat} (h : RgA A) (h1 : ∀ i, i < 13 → B i = A i) (h2 : ∀ i, 15 ≤ i → i < 27 → B i = A i) (h3 : ∀ c, c < 5 → B (27 + 6 * c) = A (27 + 6 * c) ∧ B (28 + 6 * c) = A (28 + 6 * c) ∧ B (29 + 6 * c) = A (29 + 6 * c)) (h13 : B 13 ≤ 20) (hl : ∀ c, c < 5 → B (32 + 6 * c) ≤ A 10) (hd : ∀ d, d < B 13 → B (57 + 5 * d) < A 10 ∧ 1 ≤ B (58 + 5 * d) ∧ B (58 + 5 * d) ≤ 4995) : RgA B := by
  obtain ⟨g1, g2, g3, g4, g5, g6, g7, g8, g9, g10, g11, g12⟩ := h
  have e10 := h1 10 (by omega)
  refine ⟨by rw [h1 9 (by omega)]; exact g1, by rw [e10]; exact g2, by rw [h1 11 (by omega)]; exact g3, by rw [h1 12 (by omega)]; exact g4, h13, by rw [h1 0 (by omega)]; exact g6, fun i hi => by rw [h1 i (by omega)]; exact g7 i hi, by rw [h1 6 (by omega)]; exact g8, fun c hc => ?_, fun c hc => by rw [e10]; exact hl c hc, fun a ha => by rw [h2 (21 + a) (by omega) (by omega)]; exact g11 a ha, fun d hd' => by rw [e10]; exact hd d hd'⟩
  rw [h1 9 (by omega)] at hc
  obtain ⟨x, y, z⟩ := h3 c (by omega)
  rw [x, y, z]
  exact g9 c hc
theorem RgA.tl {A B : Nat → Nat} (h : RgA A) (g : Tl A B) (hl : ∀ c, c < 5 → B (32 + 6 * c) ≤ A 10) : RgA B := by
  have h20 := h.2.2.2.2.1
  obtain ⟨g1, g2, g3, g4, g5⟩ := g
  refine h.up g1 g2 g3 (by omega) hl (fun d hd => ?_)
  obtain ⟨x, y⟩ := g5 d hd
  rw [x, y]
  exact h.2.2.2.2.2.2.2.2.2.2.2 d (by omega)
theorem tl2 {A B : Nat → Nat} (h13 : B 13 = A 13) (h20 : A 13 ≤ 20) (h : ∀ i, i ≠ 13 → i ≠ 14 → (∀ c, c < 5 → i ≠ 30 + 6 * c ∧ i ≠ 31 + 6 * c ∧ i ≠ 32 + 6 * c) → (∀ d, d < 20 → i ≠ 59 + 5 * d ∧ i ≠ 60 + 5 * d ∧ i ≠ 61 + 5 * d) → B i = A i) : Tl A B ∧ Tl B A := by
  have a : ∀ i, i < 13 → B i = A i := fun i hi => h i (by omega) (by omega) (fun c _ => by omega) (fun d _ => by omega)
  have b : ∀ i, 15 ≤ i → i < 27 → B i = A i := fun i h1 h2 => h i (by omega) (by omega) (fun c _ => by omega) (fun d _ => by omega)
  have c : ∀ c, c < 5 → B (27 + 6 * c) = A (27 + 6 * c) ∧ B (28 + 6 * c) = A (28 + 6 * c) ∧ B (29 + 6 * c) = A (29 + 6 * c) := fun c hc => ⟨h _ (by omega) (by omega) (fun c _ => by omega) (fun d _ => by omega), h _ (by omega) (by omega) (fun c _ => by omega) (fun d _ => by omega), h _ (by omega) (by omega) (fun c _ => by omega) (fun d _ => by omega)⟩
  have e : ∀ d, d < 20 → B (57 + 5 * d) = A (57 + 5 * d) ∧ B (58 + 5 * d) = A (58 + 5 * d) := fun d hd => ⟨h _ (by omega) (by omega) (fun c _ => by omega) (fun d _ => by omega), h _ (by omega) (by omega) (fun c _ => by omega) (fun d _ => by omega)⟩
  refine ⟨⟨a, b, c, by omega, fun d hd => e d (by omega)⟩, ⟨fun i hi => (a i hi).symm, fun i h1 h2 => (b i h1 h2).symm, fun i hi => ⟨(c i hi).1.symm, (c i hi).2.1.symm, (c i hi).2.2.symm⟩, by omega, fun d hd => ⟨(e d (by omega)).1.symm, (e d (by omega)).2.symm⟩⟩⟩
theorem ld_congr {A B : Nat → Nat} {d : Nat} : ∀ n, (∀ c, c < n → B (30 + 6 * c) = A (30 + 6 * c) ∧ B (31 + 6 * c) = A (31 + 6 * c)) → ldA B d n = ldA A d n := by
  intro n
  induction n with
  | zero => intro _; rfl
  | succ n ih =>
    intro h
    obtain ⟨x, y⟩ := h n (by omega)
    rw [ldA, ldA, ih (fun c hc => h c (by omega)), x, y]
theorem ld_in {A B : Nat → Nat} {c d x : Nat} (h0 : A (31 + 6 * c) = 0) (h1 : B (31 + 6 * c) = d + 1) (h2 : B (30 + 6 * c) = x) (ho : ∀ c', c' < 5 → c' ≠ c → B (30 + 6 * c') = A (30 + 6 * c') ∧ B (31 + 6 * c') = A (31 + 6 * c')) (d' : Nat) : ∀ n, n ≤ 5 → ldA B d' n = ldA A d' n + if c < n ∧ d' = d then x else 0 := by
  intro n
  induction n with
  | zero =>
    intro _
    rw [if_neg (by omega)]
    rfl
  | succ n ih =>
    intro hn
    rw [ldA, ldA, ih (by omega)]
    by_cases z : n = c
    · subst z
      rw [h0, h1, h2, if_neg (show ¬ (n < n ∧ d' = d) by omega), if_neg (show ¬ (0 = d' + 1) by omega)]
      by_cases y : d' = d
      · rw [if_pos (show d + 1 = d' + 1 by omega), if_pos (show n < n + 1 ∧ d' = d by omega)]
      · rw [if_neg (show ¬ d + 1 = d' + 1 by omega), if_neg (show ¬ (n < n + 1 ∧ d' = d) by omega)]
    · obtain ⟨u, v⟩ := ho n (by omega) z
      rw [u, v]
      by_cases y : c < n ∧ d' = d
      · rw [if_pos y, if_pos (show c < n + 1 ∧ d' = d by omega)]
        omega
      · rw [if_neg y, if_neg (show ¬ (c < n + 1 ∧ d' = d) by omega)]
        omega
theorem ld_in5 {A B : Nat → Nat} {c d x : Nat} (hc : c < 5) (h0 : A (31 + 6 * c) = 0) (h1 : B (31 + 6 * c) = d + 1) (h2 : B (30 + 6 * c) = x) (ho : ∀ c', c' < 5 → c' ≠ c → B (30 + 6 * c') = A (30 + 6 * c') ∧ B (31 + 6 * c') = A (31 + 6 * c')) (d' : Nat) : ldA B d' 5 = ldA A d' 5 + if d' = d then x else 0 := by
  rw [ld_in h0 h1 h2 ho d' 5 (by omega)]
  by_cases y : d' = d
  · rw [if_pos ⟨hc, y⟩, if_pos y]
  · rw [if_neg (fun z => y z.2), if_neg y]
theorem lq_congr {A B : Nat → Nat} {c : Nat} (h1 : B (31 + 6 * c) = A (31 + 6 * c)) (h2 : A (31 + 6 * c) ≠ 0 → B (57 + 5 * (A (31 + 6 * c) - 1)) = A (57 + 5 * (A (31 + 6 * c) - 1))) : lqA B c = lqA A c := by
  unfold lqA
  rw [h1]
  by_cases z : A (31 + 6 * c) = 0
  · rw [if_pos z, if_pos z]
  · rw [if_neg z, if_neg z, h2 z]
def putA (A : Nat → Nat) (c d x : Nat) : Nat → Nat := upA (upA (upA A (30 + 6 * c) x) (31 + 6 * c) (d + 1)) (32 + 6 * c) (A (57 + 5 * d) + 1)
def putB (A : Nat → Nat) (c d x : Nat) : Nat → Nat := if ldA A d 5 + x = A (58 + 5 * d) then upA (putA A c d x) (59 + 5 * d) 1 else putA A c d x
theorem putA_o {A : Nat → Nat} {c d x i : Nat} (h0 : i ≠ 30 + 6 * c) (h1 : i ≠ 31 + 6 * c) (h2 : i ≠ 32 + 6 * c) : putA A c d x i = A i := by
  unfold putA
  rw [upA_ne h2, upA_ne h1, upA_ne h0]
theorem putA_0 {A : Nat → Nat} {c d x : Nat} : putA A c d x (30 + 6 * c) = x ∧ putA A c d x (31 + 6 * c) = d + 1 ∧ putA A c d x (32 + 6 * c) = A (57 + 5 * d) + 1 := by
  unfold putA
  refine ⟨?_, ?_, ?_⟩
  · rw [upA_ne (by omega), upA_ne (by omega), upA_eq]
  · rw [upA_ne (by omega), upA_eq]
  · rw [upA_eq]
theorem putB_o {A : Nat → Nat} {c d x i : Nat} (h3 : i ≠ 59 + 5 * d) : putB A c d x i = putA A c d x i := by
  unfold putB
  split
  · rw [upA_ne h3]
  · rfl
theorem putB_s {A : Nat → Nat} {c d x : Nat} (hc : c < 5) (hs : A (59 + 5 * d) = 0) : putB A c d x (59 + 5 * d) = if ldA A d 5 + x = A (58 + 5 * d) then 1 else 0 := by
  unfold putB
  split
  · rw [upA_eq]
  · rw [putA_o (by omega) (by omega) (by omega)]
    exact hs
theorem put_step {S M : HS} {t c d x : Nat} {A : Nat → Nat} (h : FS S M t A) (hc : c < A 9) (hd : d < A 13) (h0 : A (31 + 6 * c) = 0) (hs : A (59 + 5 * d) = 0) (hx : 0 < x) (hx9 : x ≤ 999) (hxl : ldA A d 5 + x ≤ A (58 + 5 * d)) : ∃ M1, s_X8_puts (nI c) (nI d) (nI x) M = some M1 ∧ Fr w9 M M1 ∧ FS (layC S 23 t c (nI d) (A (57 + 5 * d)) (nI x)) M1 t (putB A c d x) ∧ Tl (putB A c d x) A ∧ Tl A (putB A c d x) ∧ ∀ d', ldA (putB A c d x) d' 5 = ldA A d' 5 + if d' = d then x else 0 := by
  obtain ⟨hL, hLM, hr, ht, hT, ⟨h13, h14, hC, hF⟩, hM, hW⟩ := h
  have h5 := hW.1.1
  have h20 := hW.1.2.2.2.2.1
  have htn := isT_num ht
  obtain ⟨hq6, hq1, hq4⟩ := hW.1.2.2.2.2.2.2.2.2.2.2.2 d hd
  have h6 := hW.1.2.1
  have oA : ∀ i, i ≠ 30 + 6 * c → i ≠ 31 + 6 * c → i ≠ 32 + 6 * c → i ≠ 59 + 5 * d → putB A c d x i = A i := fun i a b e f => (putB_o f).trans (putA_o a b e)
  have aS := putB_s (A := A) (c := c) (d := d) (x := x) (by omega) hs
  have a30 : putB A c d x (30 + 6 * c) = x := (putB_o (by omega)).trans putA_0.1
  have a31 : putB A c d x (31 + 6 * c) = d + 1 := (putB_o (by omega)).trans putA_0.2.1
  have a32 : putB A c d x (32 + 6 * c) = A (57 + 5 * d) + 1 := (putB_o (by omega)).trans putA_0.2.2
  have ldB := ld_in5 (A := A) (B := putB A c d x) (by omega) h0 a31 a30 (fun c' _ z => ⟨oA _ (by omega) (by omega) (by omega) (by omega), oA _ (by omega) (by omega) (by omega) (by omega)⟩)
  have ldP := ld_in5 (A := A) (B := putA A c d x) (by omega) h0 putA_0.2.1 putA_0.1 (fun c' _ z => ⟨putA_o (by omega) (by omega) (by omega), putA_o (by omega) (by omega) (by omega)⟩)
  have b13 : putB A c d x 13 = A 13 := oA _ (by omega) (by omega) (by omega) (by omega)
  have b9 : putB A c d x 9 = A 9 := oA _ (by omega) (by omega) (by omega) (by omega)
  have tl := tl2 (A := A) (B := putB A c d x) b13 h20 (fun i _ _ y z => oA i (y c (by omega)).1 (y c (by omega)).2.1 (y c (by omega)).2.2 (z d (by omega)).1)
  have lqc : lqA (putB A c d x) c = A (57 + 5 * d) := by
    unfold lqA
    rw [a31, if_neg (by omega), show d + 1 - 1 = d by omega]
    exact oA _ (by omega) (by omega) (by omega) (by omega)
  have lqo : ∀ i, i < 5 → i ≠ c → lqA (putB A c d x) i = lqA A i := fun i hi z => lq_congr (oA _ (by omega) (by omega) (by omega) (by omega)) (fun _ => by
    have := hW.o20 hi
    exact oA _ (by omega) (by omega) (by omega) (by omega))
  -- the model
  have hL3 : LnM (st (st (st M 139 (30 + 6 * c) (nI x)) 139 (31 + 6 * c) (nI (d + 1))) 139 (32 + 6 * c) (nI (A (57 + 5 * d) + 1))) := hLM.st.st.st
  have hM3 : RMt (st (st (st M 139 (30 + 6 * c) (nI x)) 139 (31 + 6 * c) (nI (d + 1))) 139 (32 + 6 * c) (nI (A (57 + 5 * d) + 1))) 139 (putA A c d x) := ((hM.st (nM139 hLM) (by omega)).st (nM139 hLM.st) (by omega)).st (nM139 hLM.st.st) (by omega)
  have eI : s_X8_its (nI d) 0 (st (st M 139 (30 + 6 * c) (nI x)) 139 (31 + 6 * c) (nI (d + 1))) = some (nI (A (57 + 5 * d))) := by
    have h2 : RMt (st (st M 139 (30 + 6 * c) (nI x)) 139 (31 + 6 * c) (nI (d + 1))) 139 (upA (upA A (30 + 6 * c) x) (31 + 6 * c) (d + 1)) := (hM.st (nM139 hLM) (by omega)).st (nM139 hLM.st) (by omega)
    rw [q_its hLM.st.st (by omega) (x := 0) (k := 0) (by omega) rfl]
    refine congrArg some ((h2 (57 + 5 * d) (by omega)).trans ?_)
    rw [upA_ne (by omega), upA_ne (by omega)]
  have eL : s_X8_loadedOf (nI d) (st (st (st M 139 (30 + 6 * c) (nI x)) 139 (31 + 6 * c) (nI (d + 1))) 139 (32 + 6 * c) (nI (A (57 + 5 * d) + 1))) = some (nI (ldA A d 5 + x)) := by
    have e9 : A 9 = putA A c d x 9 := (putA_o (by omega) (by omega) (by omega)).symm
    rw [q_mloaded (N := A 9) hL3 hM3 e9 h5 (fun i hi => by
      by_cases z : i = c
      · subst z
        rw [putA_0.2.1]
        omega
      · rw [putA_o (by omega) (by omega) (by omega)]
        exact hW.o20 (by omega)) (by omega), ← ld_5 h5 (fun i h1 h2 => by
      rw [putA_o (by omega) (by omega) (by omega)]
      exact (hW.2.1 i h1 h2).2), ldP d, if_pos rfl]
  have eQ : s_X8_its (nI d) 1 (st (st (st M 139 (30 + 6 * c) (nI x)) 139 (31 + 6 * c) (nI (d + 1))) 139 (32 + 6 * c) (nI (A (57 + 5 * d) + 1))) = some (nI (A (58 + 5 * d))) := by
    rw [q_its hL3 (by omega) (x := 1) (k := 1) (by omega) rfl]
    exact congrArg some ((hM3 (58 + 5 * d) (by omega)).trans (by rw [putA_o (by omega) (by omega) (by omega)]))
  have hP : ∃ M1, s_X8_puts (nI c) (nI d) (nI x) M = some M1 ∧ LnM M1 ∧ RMt M1 139 (putB A c d x) := by
    unfold s_X8_puts putB
    rw [w9_at hLM (x := (27 : Int32) + (6 : Int32) * nI c + (3 : Int32)) (i := 30 + 6 * c) (ix_k (k := 3)) (by omega), sb, ← nI_succ, w9_at hLM.st (x := (27 : Int32) + (6 : Int32) * nI c + (4 : Int32)) (i := 31 + 6 * c) (ix_k (k := 4)) (by omega), sb, eI, sb, ← nI_succ, w9_at hLM.st.st (x := (27 : Int32) + (6 : Int32) * nI c + (5 : Int32)) (i := 32 + 6 * c) (ix_k (k := 5)) (by omega), sb, eL, sb, eQ, sb]
    by_cases z : ldA A d 5 + x = A (58 + 5 * d)
    · rw [z, if_neg (fun y => y rfl), if_pos rfl, w9_at hL3 (x := (57 : Int32) + (5 : Int32) * nI d + (2 : Int32)) (i := 59 + 5 * d) (id_k (k := 2)) (by omega), sb]
      exact ⟨_, rfl, hL3.st, hM3.st (v := 1) (nM139 hL3) (by omega)⟩
    · rw [if_pos (show nI (ldA A d 5 + x) ≠ nI (A (58 + 5 * d)) from fun y => z ((nI_eq (by omega) (by omega)).mp y)), if_neg z]
      exact ⟨_, rfl, hL3, hM3⟩
  obtain ⟨M1, p1, p2, p3⟩ := hP
  -- the desk
  have lhold : (layC S 23 t c (nI d) (A (57 + 5 * d)) (nI x)) = layC S 23 t c (nI d) (A (57 + 5 * d)) (nI x) := rfl
  have hd6 : (ga S (t + 6)).getD (A (57 + 5 * d)) 0 = nI (A (15 + A (57 + 5 * d))) := hT.2.2.2.2.1 _ hq6
  have gas : ∀ k, k ≠ 24 → k ≠ 25 → k ≠ 26 → k ≠ 27 → ga (layC S 23 t c (nI d) (A (57 + 5 * d)) (nI x)) k = ga S k := by
    intro k k1 k2 k3 k4
    unfold layC
    rw [ga_st_ne (by omega), ga_st_ne (by omega), ga_st_ne (by omega), ga_st_ne (by omega)]
  have hRS : RSt (layC S 23 t c (nI d) (A (57 + 5 * d)) (nI x)) 22 (putB A c d x) := by
    refine ⟨?_, ?_, fun i hi => ?_, fun i hi => ?_⟩
    · rw [b13]
      exact h13
    · rw [oA 14 (by omega) (by omega) (by omega) (by omega)]
      exact h14
    · by_cases z : i = c
      · subst z
        rw [a30, a31, a32, lqc, oA (15 + A (57 + 5 * d)) (by omega) (by omega) (by omega) (by omega), dn_s, dn_s]
        unfold layC
        refine ⟨?_, ?_, ?_, ?_⟩
        · rw [gd_st (by omega), gd_st (by omega), gd_st (by omega), gd_st_eq (k := 23 + 1) (nD24 hL) (by omega)]
        · rw [gd_st (by omega), gd_st_eq (k := 23 + 2) (nD25 hL.st.st) (by omega)]
        · rw [gd_st_eq (k := 23 + 3) (nD26 hL.st.st.st) (by omega)]
        · rw [gd_st (by omega), gd_st (by omega), gd_st_eq (k := 23 + 4) (nD27 hL.st) (by omega), hd6]
      · obtain ⟨c1, c2, c3, c4⟩ := hC i hi
        rw [oA (30 + 6 * i) (by omega) (by omega) (by omega) (by omega), oA (31 + 6 * i) (by omega) (by omega) (by omega) (by omega), oA (32 + 6 * i) (by omega) (by omega) (by omega) (by omega), lqo i hi z]
        have hl6 : lqA A i < 6 := by
          by_cases y : i < A 9
          · exact lq_6 hW y
          · unfold lqA
            rw [if_pos (hW.2.1 i (by omega) hi).2]
            omega
        rw [oA (15 + lqA A i) (by omega) (by omega) (by omega) (by omega)]
        unfold layC
        refine ⟨?_, ?_, ?_, ?_⟩
        · rw [gd_st (by omega), gd_st (by omega), gd_st (by omega), gd_st (by omega)]
          exact c1
        · rw [gd_st (by omega), gd_st (by omega), gd_st (by omega), gd_st (by omega)]
          exact c2
        · rw [gd_st (by omega), gd_st (by omega), gd_st (by omega), gd_st (by omega)]
          exact c3
        · rw [gd_st (by omega), gd_st (by omega), gd_st (by omega), gd_st (by omega)]
          exact c4
    · rw [b13] at hi
      obtain ⟨f1, f2⟩ := hF i hi
      rw [gas (22 + 6) (by omega) (by omega) (by omega) (by omega), gas (22 + 7) (by omega) (by omega) (by omega) (by omega), oA (60 + 5 * i) (by omega) (by omega) (by omega) (by omega)]
      refine ⟨?_, f2⟩
      rw [f1]
      by_cases z : i = d
      · subst z
        rw [aS, hs]
        by_cases y : ldA A i 5 + x = A (58 + 5 * i)
        · rw [if_pos y]
          rfl
        · rw [if_neg y]
      · rw [oA (59 + 5 * i) (by omega) (by omega) (by omega) (by omega)]
  have hWB : Wf (putB A c d x) := by
    obtain ⟨w1, w2, w3, w4, w5, w6⟩ := hW
    refine ⟨w1.tl tl.1 (fun i hi => ?_), fun i hi h2 => ?_, fun i hi => ?_, fun i hi => ?_, fun i hi => ?_, ?_⟩
    · by_cases z : i = c
      · subst z
        rw [a32]
        omega
      · rw [oA _ (by omega) (by omega) (by omega) (by omega)]
        exact w1.2.2.2.2.2.2.2.2.2.1 i hi
    · rw [b9] at hi
      rw [oA _ (by omega) (by omega) (by omega) (by omega), oA _ (by omega) (by omega) (by omega) (by omega)]
      exact w2 i hi h2
    · rw [b9] at hi
      by_cases z : i = c
      · subst z
        rw [a30, a31, a32, lqc, b13]
        exact ⟨hx9, by omega, by omega, fun _ => rfl⟩
      · rw [oA (30 + 6 * i) (by omega) (by omega) (by omega) (by omega), oA (31 + 6 * i) (by omega) (by omega) (by omega) (by omega), oA (32 + 6 * i) (by omega) (by omega) (by omega) (by omega), lqo i (by omega) z, b13]
        exact w3 i hi
    · rw [b13] at hi
      rw [ldB i, oA (58 + 5 * i) (by omega) (by omega) (by omega) (by omega)]
      by_cases z : i = d
      · subst z
        rw [if_pos rfl, aS]
        by_cases y : ldA A i 5 + x = A (58 + 5 * i)
        · rw [if_pos y]
          exact Or.inr (Or.inl ⟨rfl, y⟩)
        · rw [if_neg y]
          exact Or.inl ⟨rfl, by omega⟩
      · rw [if_neg z, Nat.add_zero, oA (59 + 5 * i) (by omega) (by omega) (by omega) (by omega)]
        exact w4 i hi
    · rw [b13] at hi
      rw [oA (60 + 5 * i) (by omega) (by omega) (by omega) (by omega), oA (61 + 5 * i) (by omega) (by omega) (by omega) (by omega), oA (58 + 5 * i) (by omega) (by omega) (by omega) (by omega)]
      by_cases z : i = d
      · subst z
        have := (w5 i hi).2 (by omega)
        refine ⟨fun y => ?_, fun _ => this⟩
        rw [aS] at y
        exfalso
        split at y <;> omega
      · rw [oA (59 + 5 * i) (by omega) (by omega) (by omega) (by omega)]
        exact w5 i hi
    · rw [b13]
      refine Nat.le_trans (cnt_mono (A 13) 0 (fun i _ hi y => ?_)) w6
      have y := of_decide_eq_true y
      by_cases z : i = d
      · subst z
        exact decide_eq_true hs
      · rw [oA (59 + 5 * i) (by omega) (by omega) (by omega) (by omega)] at y
        exact decide_eq_true y
  refine ⟨M1, p1, fs_X8_puts fr_rf _ p1, ⟨hL.layC, p2, hr, ht, ?_, hRS, p3, hWB⟩, tl.2, tl.1, ldB⟩
  exact (hT.tl tl.1 h5 h6).keep (fun j => rfl) rfl (fun i hi => gas _ (by omega) (by omega) (by omega) (by omega))
