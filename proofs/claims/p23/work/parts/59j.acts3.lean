/-! unload and asks, alike -/
def goA (A : Nat → Nat) (d : Nat) : Nat → Nat → Nat
  | 0 => A
  | n + 1 => if A (31 + 6 * n) = d + 1 then upA (upA (goA A d n) (30 + 6 * n) 0) (31 + 6 * n) 0 else goA A d n
theorem goA_o {A : Nat → Nat} {d i : Nat} : ∀ n, (∀ c, c < n → i ≠ 30 + 6 * c ∧ i ≠ 31 + 6 * c) → goA A d n i = A i := by
  intro n
  induction n with
  | zero => intro _; rfl
  | succ n ih =>
    intro h
    rw [goA]
    split
    · rw [upA_ne (h n (by omega)).2, upA_ne (h n (by omega)).1]
      exact ih (fun c hc => h c (by omega))
    · exact ih (fun c hc => h c (by omega))
theorem goA_c {A : Nat → Nat} {d c : Nat} : ∀ n, goA A d n (30 + 6 * c) = (if c < n ∧ A (31 + 6 * c) = d + 1 then 0 else A (30 + 6 * c)) ∧ goA A d n (31 + 6 * c) = (if c < n ∧ A (31 + 6 * c) = d + 1 then 0 else A (31 + 6 * c)) := by
  intro n
  induction n with
  | zero =>
    rw [if_neg (by omega), if_neg (by omega)]
    exact ⟨rfl, rfl⟩
  | succ n ih =>
    rw [goA]
    by_cases z : n = c
    · subst z
      by_cases y : A (31 + 6 * n) = d + 1
      · rw [if_pos y, if_pos (show n < n + 1 ∧ A (31 + 6 * n) = d + 1 from ⟨by omega, y⟩), if_pos (show n < n + 1 ∧ A (31 + 6 * n) = d + 1 from ⟨by omega, y⟩), upA_eq, upA_ne (by omega), upA_eq]
        exact ⟨rfl, rfl⟩
      · rw [if_neg y, if_neg (fun q => y q.2), if_neg (fun q => y q.2)]
        rw [if_neg (fun q => y q.2), if_neg (fun q => y q.2)] at ih
        exact ih
    · have e : (if c < n + 1 ∧ A (31 + 6 * c) = d + 1 then 0 else A (30 + 6 * c)) = (if c < n ∧ A (31 + 6 * c) = d + 1 then 0 else A (30 + 6 * c)) := by
        by_cases q : c < n ∧ A (31 + 6 * c) = d + 1
        · rw [if_pos q, if_pos ⟨by omega, q.2⟩]
        · rw [if_neg q, if_neg (fun r => q ⟨by omega, r.2⟩)]
      have e2 : (if c < n + 1 ∧ A (31 + 6 * c) = d + 1 then 0 else A (31 + 6 * c)) = (if c < n ∧ A (31 + 6 * c) = d + 1 then 0 else A (31 + 6 * c)) := by
        by_cases q : c < n ∧ A (31 + 6 * c) = d + 1
        · rw [if_pos q, if_pos ⟨by omega, q.2⟩]
        · rw [if_neg q, if_neg (fun r => q ⟨by omega, r.2⟩)]
      rw [e, e2]
      split
      · rw [upA_ne (by omega), upA_ne (by omega), upA_ne (by omega), upA_ne (by omega)]
        exact ih
      · exact ih
theorem goA_5 {A : Nat → Nat} {d N : Nat} (h5 : N ≤ 5) (hz : ∀ c, N ≤ c → c < 5 → A (31 + 6 * c) = 0) : goA A d 5 = goA A d N := by
  have lp : ∀ k, N + k ≤ 5 → goA A d (N + k) = goA A d N := by
    intro k
    induction k with
    | zero => intro _; rfl
    | succ k ih =>
      intro h
      show goA A d (N + k + 1) = _
      rw [goA, if_neg (by rw [hz (N + k) (by omega) (by omega)]; omega)]
      exact ih (by omega)
  have e := lp (5 - N) (by omega)
  rw [show N + (5 - N) = 5 by omega] at e
  exact e
theorem ld_go {A : Nat → Nat} {d d' : Nat} : ∀ n, n ≤ 5 → ldA (goA A d 5) d' n = if d' = d then 0 else ldA A d' n := by
  intro n
  induction n with
  | zero =>
    intro _
    show 0 = if d' = d then 0 else 0
    split <;> rfl
  | succ n ih =>
    intro hn
    have e30 : goA A d 5 (30 + 6 * n) = if A (31 + 6 * n) = d + 1 then 0 else A (30 + 6 * n) := by
      rw [(goA_c 5).1]
      by_cases y : A (31 + 6 * n) = d + 1
      · rw [if_pos (show n < 5 ∧ A (31 + 6 * n) = d + 1 from ⟨by omega, y⟩), if_pos y]
      · rw [if_neg (show ¬ (n < 5 ∧ A (31 + 6 * n) = d + 1) from fun r => y r.2), if_neg y]
    have e31 : goA A d 5 (31 + 6 * n) = if A (31 + 6 * n) = d + 1 then 0 else A (31 + 6 * n) := by
      rw [(goA_c 5).2]
      by_cases y : A (31 + 6 * n) = d + 1
      · rw [if_pos (show n < 5 ∧ A (31 + 6 * n) = d + 1 from ⟨by omega, y⟩), if_pos y]
      · rw [if_neg (show ¬ (n < 5 ∧ A (31 + 6 * n) = d + 1) from fun r => y r.2), if_neg y]
    show ldA (goA A d 5) d' n + (if goA A d 5 (31 + 6 * n) = d' + 1 then goA A d 5 (30 + 6 * n) else 0) = if d' = d then 0 else ldA A d' n + (if A (31 + 6 * n) = d' + 1 then A (30 + 6 * n) else 0)
    rw [ih (by omega), e30, e31]
    by_cases z : d' = d
    · rw [if_pos z, if_pos z]
      by_cases y : A (31 + 6 * n) = d + 1
      · rw [if_pos y, if_pos y, if_neg (show ¬ 0 = d' + 1 by omega)]
      · rw [if_neg y, if_neg y, if_neg (show ¬ A (31 + 6 * n) = d' + 1 by omega)]
    · rw [if_neg z, if_neg z]
      by_cases y : A (31 + 6 * n) = d + 1
      · rw [if_pos y, if_pos y, if_neg (show ¬ 0 = d' + 1 by omega), if_neg (show ¬ A (31 + 6 * n) = d' + 1 by omega)]
      · rw [if_neg y, if_neg y]
theorem rca_go {S : HS} {A : Nat → Nat} {d p : Nat} (hL : LnD S) (h : RCa S 23 A) (hW : Wf A) (hd : d < 20) (hp : p < 32) (hb : ∀ c, c < 5 → p.testBit c = decide (A (31 + 6 * c) = d + 1)) : ∀ n, n ≤ 5 → RCa (up (fun j S => if bt (nI p) j then toC S 23 j else S) n 0 S) 23 (goA A d n) ∧ LnD (up (fun j S => if bt (nI p) j then toC S 23 j else S) n 0 S) ∧ (∀ k, k ≠ 24 → k ≠ 25 → k ≠ 27 → ga (up (fun j S => if bt (nI p) j then toC S 23 j else S) n 0 S) k = ga S k) ∧ (∀ k j, gf (up (fun j S => if bt (nI p) j then toC S 23 j else S) n 0 S) k j = gf S k j) ∧ (∀ k j, gr (up (fun j S => if bt (nI p) j then toC S 23 j else S) n 0 S) k j = gr S k j) ∧ (∀ k, gl (up (fun j S => if bt (nI p) j then toC S 23 j else S) n 0 S) k = gl S k) := by
  intro n
  induction n with
  | zero =>
    intro _
    exact ⟨h, hL, fun _ _ _ _ => rfl, fun _ _ => rfl, fun _ _ => rfl, fun _ => rfl⟩
  | succ n ih =>
    intro hn
    obtain ⟨i1, i2, i3, i4, i5, i6⟩ := ih (by omega)
    rw [up_last, Nat.zero_add]
    generalize up (fun j S => if bt (nI p) j then toC S 23 j else S) n 0 S = S1 at *
    rw [bt_nI (by omega) (by omega), hb n (by omega), goA]
    by_cases y : A (31 + 6 * n) = d + 1
    · rw [if_pos (decide_eq_true y), if_pos y]
      refine ⟨?_, i2.toC, fun k h1 h2 h3 => ?_, i4, i5, i6⟩
      · intro i hi
        obtain ⟨c1, c2, c3, c4⟩ := i1 i hi
        by_cases z : i = n
        · subst z
          rw [upA_ne (show 30 + 6 * i ≠ 31 + 6 * i by omega), upA_eq, upA_eq, dn_0, upA_ne (show 32 + 6 * i ≠ 31 + 6 * i by omega), upA_ne (show 32 + 6 * i ≠ 30 + 6 * i by omega)]
          unfold toC
          refine ⟨?_, ?_, ?_, ?_⟩
          · rw [gd_st (by omega), gd_st (by omega), gd_st_eq (k := 23 + 1) (nD24 i2) (by omega)]
            rfl
          · rw [gd_st_eq (k := 23 + 2) (nD25 i2.st.st) (by omega)]
          · rw [gd_st (by omega), gd_st (by omega), gd_st (by omega)]
            exact c3
          · rw [gd_st (by omega), gd_st_eq (k := 23 + 4) (nD27 i2.st) (by omega), show nI 0 = 0 from rfl, Int32.zero_mul]
        · have ho : ∀ k, k < 57 → k ≠ 30 + 6 * n → k ≠ 31 + 6 * n → upA (upA (goA A d n) (30 + 6 * n) 0) (31 + 6 * n) 0 k = goA A d n k := fun k _ h1 h2 => by rw [upA_ne h2, upA_ne h1]
          have e31 := ho (31 + 6 * i) (by omega) (by omega) (by omega)
          have hg20 : goA A d n (31 + 6 * i) ≤ 20 := by
            rw [(goA_c n).2]
            split
            · omega
            · exact hW.o20 hi
          have lq : lqA (upA (upA (goA A d n) (30 + 6 * n) 0) (31 + 6 * n) 0) i = lqA (goA A d n) i := lq_congr e31 (fun _ => by rw [upA_ne (by omega), upA_ne (by omega)])
          have hl : lqA (goA A d n) i < 6 := by
            unfold lqA
            split
            · omega
            · next q =>
              have e1 : goA A d n (57 + 5 * (goA A d n (31 + 6 * i) - 1)) = A (57 + 5 * (goA A d n (31 + 6 * i) - 1)) := goA_o n (fun c hc => by omega)
              have e2 : goA A d n (31 + 6 * i) = A (31 + 6 * i) := by
                have e3 := (goA_c (A := A) (d := d) (c := i) n).2
                rw [e3]
                rw [e3] at q
                split
                · next r =>
                  rw [if_pos r] at q
                  exact absurd rfl q
                · rfl
              rw [e1, e2]
              have hlt := lq_lt hW hi
              unfold lqA at hlt
              rw [e2] at q
              rw [if_neg q] at hlt
              exact hlt
          rw [e31, ho (30 + 6 * i) (by omega) (by omega) (by omega), ho (32 + 6 * i) (by omega) (by omega) (by omega), lq, ho (15 + lqA (goA A d n) i) (by omega) (by omega) (by omega)]
          unfold toC
          refine ⟨?_, ?_, ?_, ?_⟩
          · rw [gd_st (by omega), gd_st (by omega), gd_st (by omega)]
            exact c1
          · rw [gd_st (by omega), gd_st (by omega), gd_st (by omega)]
            exact c2
          · rw [gd_st (by omega), gd_st (by omega), gd_st (by omega)]
            exact c3
          · rw [gd_st (by omega), gd_st (by omega), gd_st (by omega)]
            exact c4
      · unfold toC
        rw [ga_st_ne (by omega), ga_st_ne (by omega), ga_st_ne (by omega)]
        exact i3 k h1 h2 h3
    · rw [if_neg (by rw [decide_eq_false y]; decide), if_neg y]
      exact ⟨i1, i2, i3, i4, i5, i6⟩
theorem m_goes {M : HS} {A : Nat → Nat} {d : Nat} (h5 : A 9 ≤ 5) (hd : d < 20) (h20 : ∀ c, c < 5 → A (31 + 6 * c) ≤ 20) (w x : Int32) : ∀ (m c : Nat) (M' : HS) (K : Nat), c + m = A 9 → m < K → LnM M' → RMt M' 139 (goA A d c) → ga M' 141 = ga M 141 → gf M' 137 14 = gf M 137 14 → ∃ M1, s_X8_unload_L70 (nI d) w x K (nI c) M' = some (x, st (st (st M1 139 (59 + 5 * d) 2) 139 (60 + 5 * d) w) 139 (61 + 5 * d) x) ∧ LnM M1 ∧ RMt M1 139 (goA A d (A 9)) ∧ ga M1 141 = ga M 141 ∧ gf M1 137 14 = gf M 137 14 := by
  intro m
  induction m with
  | zero =>
    intro c M' K h1 h2 hL hR g1 g2
    obtain ⟨K, rfl⟩ : ∃ k, K = k + 1 := ⟨K - 1, by omega⟩
    have e9 : fM M' 9 = nI (A 9) := (hR 9 (by omega)).trans (by rw [goA_o c (fun i hi => by omega)])
    have ec : c = A 9 := by omega
    rw [s_X8_unload_L70, m_at hL (x := 9) (i := 9) rfl (by omega), sb, e9, if_pos (nI_le (by omega) (by omega)), w9_at hL (x := (57 : Int32) + (5 : Int32) * nI d + (2 : Int32)) (i := 59 + 5 * d) (id_k (k := 2)) (by omega), sb, w9_at hL.st (x := (57 : Int32) + (5 : Int32) * nI d + (3 : Int32)) (i := 60 + 5 * d) (id_k (k := 3)) (by omega), sb, w9_at hL.st.st (x := (57 : Int32) + (5 : Int32) * nI d + (4 : Int32)) (i := 61 + 5 * d) (id_k (k := 4)) (by omega), sb]
    rw [ec] at hR
    exact ⟨M', rfl, hL, hR, g1, g2⟩
  | succ m ih =>
    intro c M' K h1 h2 hL hR g1 g2
    obtain ⟨K, rfl⟩ : ∃ k, K = k + 1 := ⟨K - 1, by omega⟩
    have e9 : fM M' 9 = nI (A 9) := (hR 9 (by omega)).trans (by rw [goA_o c (fun i hi => by omega)])
    have e31 : fM M' (27 + 4 + 6 * c) = nI (A (31 + 6 * c)) := (hR (31 + 6 * c) (by omega)).trans (by rw [goA_o c (fun i hi => by omega)])
    have ho := h20 c (by omega)
    rw [s_X8_unload_L70, m_at hL (x := 9) (i := 9) rfl (by omega), sb, e9, if_neg (nI_ge (by omega) (by omega)), q_holds hL (by omega) (x := 4) (k := 4) (by omega) rfl, sb, e31, ← nI_succ, ← nI_succ]
    by_cases y : A (31 + 6 * c) = d + 1
    · have eg : s_X8_goes (nI c) M' = some (st (st M' 139 (30 + 6 * c) 0) 139 (31 + 6 * c) 0) := by
        unfold s_X8_goes
        rw [w9_at hL (x := (27 : Int32) + (6 : Int32) * nI c + (3 : Int32)) (i := 30 + 6 * c) (ix_k (k := 3)) (by omega), sb, w9_at hL.st (x := (27 : Int32) + (6 : Int32) * nI c + (4 : Int32)) (i := 31 + 6 * c) (ix_k (k := 4)) (by omega), sb]
      rw [y, if_neg (fun q => q rfl), eg, sb]
      refine ih (c + 1) _ K (by omega) (by omega) hL.st.st ?_ ?_ g2
      · rw [goA, if_pos y]
        exact (hR.st (v := 0) (nM139 hL) (by omega)).st (v := 0) (nM139 hL.st) (by omega)
      · rw [ga_st_ne (by omega), ga_st_ne (by omega)]
        exact g1
    · rw [if_pos (show nI (A (31 + 6 * c)) ≠ nI (d + 1) from fun q => y ((nI_eq (by omega) (by omega)).mp q))]
      refine ih (c + 1) M' K (by omega) (by omega) hL ?_ g1 g2
      rw [goA, if_neg y]
      exact hR
theorem e_unload {S M : HS} {t : Nat} {A : Nat → Nat} {a b : Int32} (h : FH S M t A) : ∃ v S1 M1 A1, s_X7_unload a b S = some (v, S1) ∧ s_X8_unload a b M = some (v, M1) ∧ FH S1 M1 t A1 := by
  have h := h.thrown (x := 0)
  have h0 := h
  obtain ⟨hF, hH⟩ := h
  have hF0 := hF
  obtain ⟨M', e, f, hLM', hM', hPL, hRP, h144⟩ := fs_paper hF
  have hFp : FS S M' t A := ⟨hF.1, hLM', hF.2.2.1, hF.2.2.2.1, hF.2.2.2.2.1, hF.2.2.2.2.2.1, hM', hF.2.2.2.2.2.2.2⟩
  have hHp : HR S M' A := hH.of Tl.rf (fun _ _ _ _ => rfl) (fun _ _ _ => rfl) (f.1 137 14 (by unfold wN; omega)).1 (f.2.2.1 141 (by unfold wN; omega))
  have hW := hF.2.2.2.2.2.2.2
  have h5 := hW.1.1
  have h20 := hW.1.2.2.2.2.1
  have hLM := hF.2.1
  have hM := hF.2.2.2.2.2.2.1
  have hr := hF.2.2.1
  have ht := hF.2.2.2.1
  have htn := isT_num ht
  unfold s_X7_unload s_X8_unload
  rw [pf_ok, sb]
  rcases m_isSo (v := a) (w := 1) hF (by omega) with ⟨d, hd, rfl, es, e1, e2⟩ | ⟨e1, q⟩
  · obtain ⟨l1, l2⟩ := e_mload (d := d) hF (by omega)
    have h49 := ld_4995 hW hd
    rw [(show s_X7_isSo (nI d) 1 S = some 1 from e1), sb, i1e, l2, sb, e2, sb, i1e, q_its hLM (by omega) (x := 2) (k := 2) (by omega) rfl, sb, (show fM (sf M 137 0 0) (57 + 2 + 5 * d) = nI 1 from by rw [← es]; exact hM (59 + 5 * d) (by omega)), if_neg (show ¬ nI 1 ≠ 1 by decide), l1, sb, q_isInM, sb]
    by_cases x1 : b < 0
    · refine ⟨-1, S, sf M 137 0 0, A, ?_, ?_, h0⟩
      · rw [if_pos x1]
      · rw [if_neg (show ¬ (¬ b < 0 ∧ ¬ nI (ldA A d 5) < b) from fun q => q.1 x1), i0n]
    · obtain ⟨q, hq, rfl⟩ := nI_of x1
      by_cases x2 : q ≤ ldA A d 5
      · obtain ⟨z, z1, z2⟩ := e_gone (d := d) hF hLM' hM' hPL hRP h144 (by omega)
        rw [if_neg x1, if_pos (show nI q ≤ nI (ldA A d 5) from nI_le x2 (by omega)), if_pos (show ¬ nI q < 0 ∧ ¬ nI (ldA A d 5) < nI q from ⟨x1, nI_nlt x2 (by omega)⟩), i1n, q_partsOf (b := 23) (nD25 hF.1), sb, tl_ok hr ht, sb, z1, sb, e, sb, z2, sb]
        by_cases z0 : z = 0
        · obtain ⟨S1, M1, k1, k2, ⟨fL, fLM, fr, ft, fT, ⟨s1, s2, s3, s4⟩, fM', fW⟩, kH, g1, g2, g3, _, _, fZ⟩ := h_keep hFp hHp
          obtain ⟨p, hp32, ep, hb⟩ := pD_bits (S := S) (b := 23) (v := nI d)
          have hb2 : ∀ c, c < 5 → p.testBit c = decide (A (31 + 6 * c) = d + 1) := fun c hc => by
            have ho : A (31 + 6 * c) ≤ 20 := hW.o20 hc
            rw [hb c hc, show (ga S (23 + 2)).getD c 0 = _ from (hF.2.2.2.2.2.1.2.2.1 c hc).2.1]
            exact decide_eq_decide.mpr (dn_eq (by omega) (by omega))
          obtain ⟨r1, r2, r3, r4, r5, r6⟩ := rca_go (d := d) fL s3 hW (by omega) hp32 hb2 5 (by omega)
          have eL2 : s_X8_loadedOf (nI d) M1 = some (nI (ldA A d 5)) := by
            rw [q_mloaded fLM fM' rfl h5 (fun c hc => hW.o20 (by omega)) (by omega), ← ld_5 h5 (fun c h1 h2 => (hW.2.1 c h1 h2).2)]
          obtain ⟨M2, m1, m2, m3, m4, m5⟩ := m_goes (M := M1) (A := A) (d := d) h5 (by omega) (fun c hc => hW.o20 hc) (nI q) (nI (ldA A d 5) - nI q) (A 9) 0 M1 40 (by omega) (by omega) fLM fM' rfl rfl
          rw [← goA_5 h5 (fun c h1 h2 => (hW.2.1 c h1 h2).2)] at m3
          have hq58 : ldA A d 5 = A (58 + 5 * d) := by
            rcases hW.2.2.2.1 d hd with q | q | q
            · omega
            · exact q.2
            · omega
          rw [z0, i0e, i0e, k1, sb, ep, w_takeAll fL mC23, sb, wa_st (nD28 r2) (by omega) (by omega), sb, wa_st (nD29 r2.st) (by omega) (by omega), sb, gr_st, gr_st, r5, tl_ok fr ft, sb, k2, sb, eL2, sb, (show s_X8_unload_L70 (nI d) (nI q) (nI (ldA A d 5) - nI q) 40 0 M1 = _ from m1)]
          generalize up (fun j S => if bt (nI p) j then toC S 23 j else S) 5 0 S1 = S2 at *
          rw [q_short r2.st.st ft (by omega), sb]
          have hT2 : (ga S2 (t + 8)).getD d 0 = nI (A (58 + 5 * d)) := by
            rw [r3 (t + 8) (by omega) (by omega) (by omega)]
            exact (fT.2.2.2.2.2.2 d hd).2
          have esh : shD t d (st (st S2 28 d 2) 29 d (nI q)) = nI (ldA A d 5) - nI q := by
            unfold shD
            rw [gd_st (by omega), gd_st_eq (nD28 r2) (by omega), if_pos rfl, gd_st (by omega), gd_st (by omega), hT2, gd_st_eq (nD29 r2.st) (by omega), hq58]
          rw [esh]
          have hM3 : RMt (st (st (st M2 139 (59 + 5 * d) 2) 139 (60 + 5 * d) (nI q)) 139 (61 + 5 * d) (nI (ldA A d 5) - nI q)) 139 (upA (upA (upA (goA A d 5) (59 + 5 * d) 2) (60 + 5 * d) q) (61 + 5 * d) (ldA A d 5 - q)) := by
            rw [pk_sub x2]
            exact ((m3.st (v := 2) (nM139 m2) (by omega)).st (nM139 m2.st) (by omega)).st (nM139 m2.st.st) (by omega)
          have oA : ∀ i, (∀ c, c < 5 → i ≠ 30 + 6 * c ∧ i ≠ 31 + 6 * c) → i ≠ 59 + 5 * d → i ≠ 60 + 5 * d → i ≠ 61 + 5 * d → upA (upA (upA (goA A d 5) (59 + 5 * d) 2) (60 + 5 * d) q) (61 + 5 * d) (ldA A d 5 - q) i = A i := fun i h1 h2 h3 h4 => by
            rw [upA_ne h4, upA_ne h3, upA_ne h2, goA_o 5 h1]
          have oG : ∀ i, i < 57 → upA (upA (upA (goA A d 5) (59 + 5 * d) 2) (60 + 5 * d) q) (61 + 5 * d) (ldA A d 5 - q) i = goA A d 5 i := fun i h1 => by
            rw [upA_ne (by omega), upA_ne (by omega), upA_ne (by omega)]
          have o57 : ∀ i, upA (upA (upA (goA A d 5) (59 + 5 * d) 2) (60 + 5 * d) q) (61 + 5 * d) (ldA A d 5 - q) (57 + 5 * i) = goA A d 5 (57 + 5 * i) := fun i => by
            rw [upA_ne (by omega), upA_ne (by omega), upA_ne (by omega)]
          have o59 : upA (upA (upA (goA A d 5) (59 + 5 * d) 2) (60 + 5 * d) q) (61 + 5 * d) (ldA A d 5 - q) (59 + 5 * d) = 2 := by
            rw [upA_ne (by omega), upA_ne (by omega), upA_eq]
          have o60 : upA (upA (upA (goA A d 5) (59 + 5 * d) 2) (60 + 5 * d) q) (61 + 5 * d) (ldA A d 5 - q) (60 + 5 * d) = q := by
            rw [upA_ne (by omega), upA_eq]
          have o61 : upA (upA (upA (goA A d 5) (59 + 5 * d) 2) (60 + 5 * d) q) (61 + 5 * d) (ldA A d 5 - q) (61 + 5 * d) = ldA A d 5 - q := upA_eq
          generalize upA (upA (upA (goA A d 5) (59 + 5 * d) 2) (60 + 5 * d) q) (61 + 5 * d) (ldA A d 5 - q) = B at *
          have b13 := oA 13 (fun c hc => by omega) (by omega) (by omega) (by omega)
          have b9 := oA 9 (fun c hc => by omega) (by omega) (by omega) (by omega)
          have tl := tl2 (A := A) (B := B) b13 h20 (fun i _ _ y z => oA i (fun c hc => ⟨(y c hc).1, (y c hc).2.1⟩) (z d (by omega)).1 (z d (by omega)).2.1 (z d (by omega)).2.2)
          have c30 : ∀ c, c < 5 → B (30 + 6 * c) = if A (31 + 6 * c) = d + 1 then 0 else A (30 + 6 * c) := fun c hc => by
            rw [oG _ (by omega), (goA_c 5).1]
            by_cases y : A (31 + 6 * c) = d + 1
            · rw [if_pos ⟨hc, y⟩, if_pos y]
            · rw [if_neg (fun r => y r.2), if_neg y]
          have c31 : ∀ c, c < 5 → B (31 + 6 * c) = if A (31 + 6 * c) = d + 1 then 0 else A (31 + 6 * c) := fun c hc => by
            rw [oG _ (by omega), (goA_c 5).2]
            by_cases y : A (31 + 6 * c) = d + 1
            · rw [if_pos ⟨hc, y⟩, if_pos y]
            · rw [if_neg (fun r => y r.2), if_neg y]
          have ldB : ∀ i, ldA B i 5 = if i = d then 0 else ldA A i 5 := fun i => by
            rw [ld_congr (A := goA A d 5) 5 (fun c hc => ⟨oG _ (by omega), oG _ (by omega)⟩), ld_go 5 (by omega)]
          have rcB : RCa (st (st S2 28 d 2) 29 d (nI q)) 23 B := by
            intro i hi
            obtain ⟨c1, c2, c3, c4⟩ := r1 i hi
            have lq : lqA B i = lqA (goA A d 5) i := lq_congr (oG _ (by omega)) (fun _ => o57 _)
            have hl : lqA (goA A d 5) i < 6 := by
              rw [← lq]
              unfold lqA
              rw [c31 i hi]
              by_cases y : A (31 + 6 * i) = d + 1
              · rw [if_pos y, if_pos rfl]
                omega
              · rw [if_neg y]
                have hlt := lq_lt hW hi
                unfold lqA at hlt
                by_cases u : A (31 + 6 * i) = 0
                · rw [if_pos u]
                  omega
                · rw [if_neg u] at hlt ⊢
                  have := hW.o20 hi
                  rw [oA _ (fun c hc => by omega) (by omega) (by omega) (by omega)]
                  exact hlt
            rw [oG (30 + 6 * i) (by omega), oG (31 + 6 * i) (by omega), oG (32 + 6 * i) (by omega), lq, oG (15 + lqA (goA A d 5) i) (by omega), ga_st_ne (by omega), ga_st_ne (by omega), ga_st_ne (by omega), ga_st_ne (by omega), ga_st_ne (by omega), ga_st_ne (by omega), ga_st_ne (by omega), ga_st_ne (by omega)]
            exact ⟨c1, c2, c3, c4⟩
          refine ⟨nI (ldA A d 5) - nI q, _, _, B, rfl, rfl, ⟨r2.st.st, m2.st.st.st, ?_, ft, ?_, ⟨?_, ?_, rcB, fun i hi => ?_⟩, hM3, ?_⟩, ?_⟩
          · rw [gr_st, gr_st, r5]
            exact fr
          · refine (fT.tl tl.1 hW.1.1 hW.1.2.1).keep (fun j => by rw [gf_st, gf_st, r4]) (by rw [gl_st, gl_st, r6]) (fun i hi => ?_)
            rw [ga_st_ne (by omega), ga_st_ne (by omega)]
            exact r3 _ (by omega) (by omega) (by omega)
          · rw [gf_st, gf_st, r4, b13]
            exact s1
          · rw [gf_st, gf_st, r4, oA 14 (fun c hc => by omega) (by omega) (by omega) (by omega)]
            exact s2
          · rw [b13] at hi
            obtain ⟨f1, f2⟩ := s4 i hi
            by_cases y : i = d
            · subst y
              refine ⟨?_, ?_⟩
              · rw [gd_st (by omega), gd_st_eq (k := 22 + 6) (nD28 r2) (by omega), o59, if_neg (by omega)]
                rfl
              · rw [gd_st_eq (k := 22 + 7) (nD29 r2.st) (by omega), o60]
            · refine ⟨?_, ?_⟩
              · rw [gd_st (by omega), gd_st (by omega), r3 (22 + 6) (by omega) (by omega) (by omega), oA (59 + 5 * i) (fun c hc => by omega) (by omega) (by omega) (by omega)]
                exact f1
              · rw [gd_st (by omega), gd_st (by omega), r3 (22 + 7) (by omega) (by omega) (by omega), oA (60 + 5 * i) (fun c hc => by omega) (by omega) (by omega) (by omega)]
                exact f2
          · obtain ⟨w1, w2, w3, w4, w5, w6⟩ := hW
            refine ⟨w1.tl tl.1 (fun i hi => ?_), fun i hi h2 => ?_, fun i hi => ?_, fun i hi => ?_, fun i hi => ?_, ?_⟩
            · rw [oA _ (fun c hc => by omega) (by omega) (by omega) (by omega)]
              exact w1.2.2.2.2.2.2.2.2.2.1 i hi
            · rw [b9] at hi
              obtain ⟨u1, u2⟩ := w2 i hi h2
              rw [c30 i h2, c31 i h2, u2, if_neg (by omega), if_neg (by omega)]
              exact ⟨u1, rfl⟩
            · rw [b9] at hi
              obtain ⟨u1, u2, u3, u4⟩ := w3 i hi
              have u20 : A (31 + 6 * i) ≤ 20 := by omega
              rw [c30 i (by omega), c31 i (by omega), b13]
              by_cases y : A (31 + 6 * i) = d + 1
              · rw [if_pos y, if_pos y]
                exact ⟨by omega, Iff.rfl, by omega, fun r => absurd rfl r⟩
              · rw [if_neg y, if_neg y]
                refine ⟨u1, u2, u3, fun r => ?_⟩
                rw [oA (32 + 6 * i) (fun c hc => by omega) (by omega) (by omega) (by omega), u4 r]
                congr 1
                refine (lq_congr ?_ (fun _ => ?_)).symm
                · rw [c31 i (by omega), if_neg y]
                · exact oA _ (fun c hc => by omega) (by omega) (by omega) (by omega)
            · rw [b13] at hi
              rw [ldB i, oA (58 + 5 * i) (fun c hc => by omega) (by omega) (by omega) (by omega)]
              by_cases y : i = d
              · subst y
                rw [if_pos rfl, o59]
                exact Or.inr (Or.inr ⟨Or.inl rfl, rfl⟩)
              · rw [if_neg y, oA (59 + 5 * i) (fun c hc => by omega) (by omega) (by omega) (by omega)]
                exact w4 i hi
            · rw [b13] at hi
              rw [oA (58 + 5 * i) (fun c hc => by omega) (by omega) (by omega) (by omega)]
              by_cases y : i = d
              · subst y
                rw [o59, o60, o61]
                exact ⟨fun _ => ⟨by omega, by omega⟩, fun r => absurd rfl r⟩
              · rw [oA (59 + 5 * i) (fun c hc => by omega) (by omega) (by omega) (by omega), oA (60 + 5 * i) (fun c hc => by omega) (by omega) (by omega) (by omega), oA (61 + 5 * i) (fun c hc => by omega) (by omega) (by omega) (by omega)]
                exact w5 i hi
            · rw [b13]
              refine Nat.le_trans (cnt_mono (A 13) 0 (fun i _ hi y => ?_)) w6
              have y := of_decide_eq_true y
              by_cases z : i = d
              · subst z
                rw [o59] at y
                omega
              · rw [oA (59 + 5 * i) (fun c hc => by omega) (by omega) (by omega) (by omega)] at y
                exact decide_eq_true y
          · refine kH.of tl.2 (fun k j _ _ => by rw [gf_st, gf_st, r4]) (fun k h1 _ => ?_) m5 ?_
            · rw [ga_st_ne (by omega), ga_st_ne (by omega)]
              exact r3 k (by omega) (by omega) (by omega)
            · rw [ga_st_ne (by omega), ga_st_ne (by omega), ga_st_ne (by omega)]
              exact m4
        · refine ⟨-2, S, M', A, ?_, ?_, hFp, hHp⟩
          · rw [if_neg z0]
          · rw [if_neg z0]
      · refine ⟨-1, S, sf M 137 0 0, A, ?_, ?_, h0⟩
        · rw [if_neg x1, if_neg (show ¬ nI q ≤ nI (ldA A d 5) from nI_ge (by omega) (by omega))]
        · rw [if_neg (show ¬ (¬ nI q < 0 ∧ ¬ nI (ldA A d 5) < nI q) from fun r => r.2 (nI_lt (by omega) hq)), i0n]
  · refine ⟨-1, S, sf M 137 0 0, A, ?_, ?_, h0⟩
    · rw [(show s_X7_isSo a 1 S = some 0 from e1), sb, if_pos rfl]
    · rcases q with ⟨d, hd, rfl, en, e2⟩ | e2
      · have hs := hW.s3 hd
        rw [e2, sb, i1e, q_its hLM (by omega) (x := 2) (k := 2) (by omega) rfl, sb, (show fM (sf M 137 0 0) (57 + 2 + 5 * d) = nI (A (59 + 5 * d)) from hM (59 + 5 * d) (by omega)), if_pos (show nI (A (59 + 5 * d)) ≠ 1 from nI_nec 1 rfl (by omega) (by omega) en)]
      · rw [e2, sb, if_pos rfl]
