/-! what lies now, on the model's paper; a drop's load; those that wait -/
def lqA (A : Nat → Nat) (c : Nat) : Nat := if A (31 + 6 * c) = 0 then 0 else A (57 + 5 * (A (31 + 6 * c) - 1))
def LC (M : HS) (A : Nat → Nat) (c : Nat) : Prop := (ga M 142).getD c 0 = nI (A (30 + 6 * c)) ∧ (ga M 143).getD c 0 = nI (lqA A c) ∧ (ga M 144).getD c 0 = dn (A (31 + 6 * c))
theorem x_laysNow {M : HS} {N : Nat} {A : Nat → Nat} (hL : LnM M) (hA : RMt M 139 A) (hN : N = A 9) (h5 : N ≤ 5) (h20 : ∀ c, c < N → A (31 + 6 * c) ≤ 20) : ∃ M', s_X8_laysNow M = some M' ∧ Fr wN M M' ∧ ∀ c, c < N → LC M' A c := by
  have hf0 : ∀ i, i < 157 → fM M i = nI (A i) := hA
  have h9 : fM M 9 = nI N := by rw [hN]; exact hf0 9 (by omega)
  have lp : ∀ (m j : Nat) (M' : HS) (K : Nat), j + m = N → m < K → LnM M' → fM M' = fM M → (∀ c, c < j → LC M' A c) → ∃ M'', s_X8_laysNow_L2 K (nI j) M' = some M'' ∧ ∀ c, c < N → LC M'' A c := by
    intro m
    induction m with
    | zero =>
      intro j M' K h1 h2 hL' hf h3
      obtain ⟨K, rfl⟩ : ∃ k, K = k + 1 := ⟨K - 1, by omega⟩
      refine ⟨M', ?_, fun c hc => h3 c (by omega)⟩
      rw [s_X8_laysNow_L2, m_at hL' (x := 9) (i := 9) rfl (by omega), sb, hf, h9, if_pos (nI_le (by omega) (by omega))]
    | succ m ih =>
      intro j M' K h1 h2 hL' hf h3
      obtain ⟨K, rfl⟩ : ∃ k, K = k + 1 := ⟨K - 1, by omega⟩
      rw [s_X8_laysNow_L2, m_at hL' (x := 9) (i := 9) rfl (by omega), sb, hf, h9, if_neg (nI_ge (by omega) (by omega)), q_holds hL' (by omega) (x := 3) (k := 3) (by omega) rfl, sb, wa_st (nM142 hL') (by omega) (by omega), sb, q_holds hL'.st (by omega) (x := 4) (k := 4) (by omega) rfl, sb]
      have hf1 : ∀ x, fM (st M' 142 j x) = fM M := fun x => by
        unfold fM
        rw [ga_st_ne (by omega)]
        exact hf
      rw [hf1, hf, wa_st (nM144 hL'.st) (by omega) (by omega), sb, ag_ok (nM144 hL'.st.st) (by omega) (by omega), sb, gd_st_eq (nM144 hL'.st) (by omega), sb, ← nI_succ]
      have nx : ∃ M'', s_X8_laysNow_L2 K (nI (j + 1)) (st (st (st M' 142 j (fM M (27 + 3 + 6 * j))) 144 j (fM M (27 + 4 + 6 * j) - 1)) 143 j (nI (lqA A j))) = some M'' ∧ ∀ c, c < N → LC M'' A c := by
        refine ih (j + 1) _ K (by omega) (by omega) hL'.st.st.st ?_ ?_
        · unfold fM
          rw [ga_st_ne (by omega), ga_st_ne (by omega), ga_st_ne (by omega)]
          exact hf
        · intro c hc
          by_cases z : c = j
          · subst z
            refine ⟨?_, ?_, ?_⟩
            · rw [gd_st (by omega), gd_st (by omega), gd_st_eq (nM142 hL') (by omega)]
              exact hf0 (30 + 6 * c) (by omega)
            · rw [gd_st_eq (nM143 hL'.st.st) (by omega)]
            · rw [gd_st (by omega), gd_st_eq (nM144 hL'.st) (by omega)]
              show fM M (31 + 6 * c) - 1 = dn (A (31 + 6 * c))
              rw [hf0 (31 + 6 * c) (by omega)]
              rfl
          · obtain ⟨a, b, d⟩ := h3 c (by omega)
            refine ⟨?_, ?_, ?_⟩
            · rw [gd_st (by omega), gd_st (by omega), gd_st (by omega)]
              exact a
            · rw [gd_st (by omega), gd_st (by omega), gd_st (by omega)]
              exact b
            · rw [gd_st (by omega), gd_st (by omega), gd_st (by omega)]
              exact d
      have e4 : fM M (27 + 4 + 6 * j) = nI (A (31 + 6 * j)) := hf0 (31 + 6 * j) (by omega)
      have ho := h20 j (by omega)
      by_cases z : A (31 + 6 * j) = 0
      · have el : lqA A j = 0 := if_pos z
        rw [if_neg (fun y => y (by rw [e4, z]; decide))]
        rw [el] at nx
        rw [(show wa (st (st M' 142 j (fM M (27 + 3 + 6 * j))) 144 j (fM M (27 + 4 + 6 * j) - 1)) 143 (nI j) 0 = some (st (st (st M' 142 j (fM M (27 + 3 + 6 * j))) 144 j (fM M (27 + 4 + 6 * j) - 1)) 143 j (nI 0)) from wa_st (nM143 hL'.st.st) (by omega) (by omega)), sb]
        exact nx
      · obtain ⟨o, eo⟩ : ∃ p, A (31 + 6 * j) = p + 1 := ⟨A (31 + 6 * j) - 1, by omega⟩
        have el : lqA A j = A (57 + 5 * o) := by
          unfold lqA
          rw [if_neg z, eo]
          rfl
        have hf2 : fM (st (st M' 142 j (fM M (27 + 3 + 6 * j))) 144 j (fM M (27 + 4 + 6 * j) - 1)) = fM M := by
          unfold fM
          rw [ga_st_ne (by omega), ga_st_ne (by omega)]
          exact hf
        have ep : fM M (27 + 4 + 6 * j) - 1 = nI o := by rw [e4, eo, nI_pred]
        have eI : s_X8_its (fM M (27 + 4 + 6 * j) - 1) 0 (st (st M' 142 j (fM M (27 + 3 + 6 * j))) 144 j (fM M (27 + 4 + 6 * j) - 1)) = some (nI (lqA A j)) := by
          rw [show s_X8_its (fM M (27 + 4 + 6 * j) - 1) 0 = s_X8_its (nI o) 0 by rw [ep], q_its hL'.st.st (by omega) (x := 0) (k := 0) (by omega) rfl, hf2, el]
          exact congrArg some (hf0 (57 + 5 * o) (by omega))
        have en1 : ¬ fM M (27 + 4 + 6 * j) - 1 = -1 := by
          rw [ep]
          intro y
          exact nI_pos (show o < 2 ^ 31 by omega) (by rw [y]; decide)
        rw [if_pos en1, eI, sb, wa_st (nM143 hL'.st.st) (by omega) (by omega), sb]
        exact nx
  obtain ⟨M'', a, b⟩ := lp N 0 M 40 (by omega) (by omega) hL rfl (fun c hc => by omega)
  exact ⟨M'', a, fs_X8_laysNow fr_rf _ a, b⟩
/-- what of drop d is loaded -/
def ldA (A : Nat → Nat) (d : Nat) : Nat → Nat
  | 0 => 0
  | c + 1 => ldA A d c + if A (31 + 6 * c) = d + 1 then A (30 + 6 * c) else 0
theorem q_mloaded {M : HS} {N d : Nat} {A : Nat → Nat} (hL : LnM M) (hA : RMt M 139 A) (hN : N = A 9) (h5 : N ≤ 5) (h20 : ∀ c, c < N → A (31 + 6 * c) ≤ 20) (hd : d < 20) : s_X8_loadedOf (nI d) M = some (nI (ldA A d N)) := by
  have hf0 : ∀ i, i < 157 → fM M i = nI (A i) := hA
  have h9 : fM M 9 = nI N := by rw [hN]; exact hf0 9 (by omega)
  have lp : ∀ (m j K : Nat), j + m = N → m < K → s_X8_loadedOf_L4 (nI d) M K (nI (ldA A d j)) (nI j) = some (nI (ldA A d N)) := by
    intro m
    induction m with
    | zero =>
      intro j K h1 h2
      obtain ⟨K, rfl⟩ : ∃ k, K = k + 1 := ⟨K - 1, by omega⟩
      rw [s_X8_loadedOf_L4, m_at hL (x := 9) (i := 9) rfl (by omega), sb, h9, if_pos (nI_le (by omega) (by omega)), show j = N by omega]
    | succ m ih =>
      intro j K h1 h2
      obtain ⟨K, rfl⟩ : ∃ k, K = k + 1 := ⟨K - 1, by omega⟩
      have ho := h20 j (by omega)
      have n1 := ih (j + 1) K (by omega) (by omega)
      rw [s_X8_loadedOf_L4, m_at hL (x := 9) (i := 9) rfl (by omega), sb, h9, if_neg (nI_ge (by omega) (by omega)), q_holds hL (by omega) (x := 4) (k := 4) (by omega) rfl, sb, q_holds hL (by omega) (x := 3) (k := 3) (by omega) rfl, sb, ← nI_succ, ← nI_succ, show fM M (27 + 4 + 6 * j) = nI (A (31 + 6 * j)) from hf0 (31 + 6 * j) (by omega), show fM M (27 + 3 + 6 * j) = nI (A (30 + 6 * j)) from hf0 (30 + 6 * j) (by omega), nI_add]
      by_cases z : A (31 + 6 * j) = d + 1
      · rw [if_neg (fun y => y (by rw [z]))]
        rw [show ldA A d (j + 1) = ldA A d j + A (30 + 6 * j) by rw [ldA, if_pos z]] at n1
        exact n1
      · rw [if_pos (fun y => z ((nI_eq (by omega) (by omega)).mp y))]
        rw [show ldA A d (j + 1) = ldA A d j by rw [ldA, if_neg z, Nat.add_zero]] at n1
        exact n1
  exact lp N 0 40 (by omega) (by omega)
/-- the cargo of the desk's cell b, by the row A -/
def RCa (S : HS) (b : Nat) (A : Nat → Nat) : Prop := ∀ c, c < 5 → (ga S (b + 1)).getD c 0 = nI (A (30 + 6 * c)) ∧ (ga S (b + 2)).getD c 0 = dn (A (31 + 6 * c)) ∧ (ga S (b + 3)).getD c 0 = dn (A (32 + 6 * c)) ∧ (ga S (b + 4)).getD c 0 = nI (A (30 + 6 * c)) * nI (A (15 + lqA A c))
theorem dn_eq {m d : Nat} (hm : m ≤ 100) (hd : d ≤ 100) : dn m = nI d ↔ m = d + 1 := by
  cases m with
  | zero =>
    rw [dn_0]
    constructor
    · intro y
      exact absurd (show nI d < 0 by rw [← y]; decide) (nI_pos (by omega))
    · intro y
      omega
  | succ m =>
    rw [dn_s, nI_eq (by omega) (by omega)]
    omega
theorem q_dloaded {S : HS} {b d : Nat} {A : Nat → Nat} (hL : LnD S) (hb : isC b) (hC : RCa S b A) (h20 : ∀ c, c < 5 → A (31 + 6 * c) ≤ 20) (hd : d < 20) : s_X0_loaded b (nI d) S = some (nI (ldA A d 5)) := by
  rw [q_loaded (nC1 hL hb) (nC2 hL hb)]
  have lp : ∀ (m j : Nat), j + m = 5 → up (fun j a => if (ga S (b + 2)).getD j 0 = nI d then a + (ga S (b + 1)).getD j 0 else a) m j (nI (ldA A d j)) = nI (ldA A d 5) := by
    intro m
    induction m with
    | zero =>
      intro j h1
      rw [show j = 5 by omega]
      rfl
    | succ m ih =>
      intro j h1
      obtain ⟨c1, c2, _, _⟩ := hC j (by omega)
      have ho := h20 j (by omega)
      have n1 := ih (j + 1) (by omega)
      rw [up, c1, c2]
      by_cases z : A (31 + 6 * j) = d + 1
      · rw [if_pos ((dn_eq (by omega) (by omega)).mpr z), nI_add]
        rw [show ldA A d (j + 1) = ldA A d j + A (30 + 6 * j) by rw [ldA, if_pos z]] at n1
        exact n1
      · rw [if_neg (fun y => z ((dn_eq (by omega) (by omega)).mp y))]
        rw [show ldA A d (j + 1) = ldA A d j by rw [ldA, if_neg z, Nat.add_zero]] at n1
        exact n1
  exact congrArg some (lp 5 0 rfl)
theorem ld_5 {A : Nat → Nat} {N d : Nat} (h5 : N ≤ 5) (hz : ∀ c, N ≤ c → c < 5 → A (31 + 6 * c) = 0) : ldA A d 5 = ldA A d N := by
  have lp : ∀ k, N + k ≤ 5 → ldA A d (N + k) = ldA A d N := by
    intro k
    induction k with
    | zero => intro _; rfl
    | succ k ih =>
      intro h
      show ldA A d (N + k + 1) = _
      rw [ldA, if_neg (by rw [hz (N + k) (by omega) (by omega)]; omega), Nat.add_zero]
      exact ih (by omega)
  have e := lp (5 - N) (by omega)
  rw [show N + (5 - N) = 5 by omega] at e
  exact e
