/-! the desk's washes: the least number that do -/
def owW (A G : Nat → Nat) (n : Nat) : Nat := sP (fun d => if wtA A d = true then lfA A G d n else 0) (A 13)
def BDw (S : HS) (b : Nat) : Prop := (gf S 121 12 = 0 ∧ b = 99) ∨ (gf S 121 12 = 1 ∧ gf S 121 13 = nI b ∧ b ≤ 5)
theorem BDw.of {S S1 : HS} {b : Nat} (h : BDw S b) (g : BsD S S1) : BDw S1 b := by
  unfold BDw at h ⊢
  rw [g.1 12 (by omega), g.1 13 (by omega)]
  exact h
theorem wc_5 {A G : Nat → Nat} (hW : Wf A) : wcA A G ≤ 5 := Nat.le_trans (rnk_le_n (A 9)) hW.1.1
theorem q_hopelessW {S : HS} {t n b : Nat} {A G : Nat → Nat} (hW : Wf A) (h : PSw S t A G n) (hn : n ≤ A 9) (hB : BDw S b) : s_X3_isHopeless (nI n) S = some (if b ≤ wcA A G then 1 else if owW A G n ≤ rmA A n then 0 else 1) := by
  have h5 := hW.1.1
  have h20 := hW.1.2.2.2.2.1
  have h4 := wt4 hW
  have hw5 := wc_5 (G := G) hW
  have hL := h.1
  have hrm := rm_5000 hW hn
  have how : owW A G n ≤ 4 * 4995 := by
    refine Nat.le_trans (sP_leN (p := wtA A) (B := 4995) (A 13) (fun d hd => ?_)) (Nat.mul_le_mul_right _ h4)
    by_cases z : wtA A d = true
    · rw [if_pos z, if_pos z]
      exact lf_4995 hW hd n
    · rw [if_neg z]
      omega
  have lp : ∀ (m d : Nat) (K : Nat), d + m = A 13 → rnk (wtA A) (A 13) - rnk (wtA A) d < K → s_X3_isHopeless_L31 (nI n) S K (nI (sP (fun d => if wtA A d = true then lfA A G d n else 0) d)) (nI (rnk (wtA A) d)) = some (if owW A G n ≤ rmA A n then 0 else 1) := by
    intro m
    induction m with
    | zero =>
      intro d K h1 h2
      obtain ⟨K, rfl⟩ : ∃ k, K = k + 1 := ⟨K - 1, by omega⟩
      have ed : d = A 13 := by omega
      subst ed
      rw [s_X3_isHopeless_L31, h.2.2.2.2.2.2.2.1, if_pos (nI_le (Nat.le_refl _) (by omega)), ag_ok (nD134 hL) (by omega) (by omega), sb, h.2.2.2.2.2.2.2.2.2.1 n hn]
      show (if nI (owW A G n) ≤ nI (rmA A n) then some (0 : Int32) else some 1) = _
      by_cases z : owW A G n ≤ rmA A n
      · rw [if_pos z, if_pos (nI_le z (by omega))]
      · rw [if_neg z, if_neg (nI_ge (by omega) (by omega))]
    | succ m ih =>
      intro d K h1 h2
      have hd : d < A 13 := by omega
      have e1 : rnk (wtA A) (d + 1) = rnk (wtA A) d + if wtA A d = true then 1 else 0 := rfl
      have e2 : sP (fun d => if wtA A d = true then lfA A G d n else 0) (d + 1) = sP (fun d => if wtA A d = true then lfA A G d n else 0) d + (if wtA A d = true then lfA A G d n else 0) := rfl
      by_cases hw : wtA A d = true
      · obtain ⟨K, rfl⟩ : ∃ k, K = k + 1 := ⟨K - 1, by omega⟩
        have hlt := rnk_lt hd hw
        have nx := ih (d + 1) K (by omega) (by rw [e1, if_pos hw]; omega)
        rw [e1, e2, if_pos hw, if_pos hw] at nx
        obtain ⟨_, r2, r3⟩ := h.2.2.2.2.2.2.2.2.1 d hd hw
        rw [s_X3_isHopeless_L31, h.2.2.2.2.2.2.2.1, if_neg (nI_ge hlt (by omega)), h.2.2.2.2.2.2.1, i1n, ag_ok (nD133 hL) (by omega) (by omega), sb, r3, ← nI_succ, nI_add]
        exact nx
      · have nx := ih (d + 1) K (by omega) (by rw [e1, if_neg hw]; omega)
        rw [e1, e2, if_neg hw, if_neg hw] at nx
        exact nx
  have L := lp (A 13) 0 40 (by omega) (by omega)
  unfold s_X3_isHopeless
  rw [h.2.2.2.2.2.2.1, i1e, (show s_X3_isHopeless_L31 (nI n) S 40 0 0 = _ from L)]
  rcases hB with ⟨q1, q2⟩ | ⟨q1, q2, q3⟩
  · rw [q1, i0e, q2, if_neg (show ¬ 99 ≤ wcA A G by omega)]
  · rw [q1, i1e, h.2.2.2.2.2.2.2.2.2.2.2.2, q2]
    by_cases z : b ≤ wcA A G
    · rw [if_pos z, if_neg (nI_nlt z (by omega))]
    · rw [if_neg z, if_pos (nI_lt (by omega) (by omega))]
/-- what is owed does not go in: no deal from here serves all -/
theorem no_val {A G H : Nat → Nat} {n : Nat} (hW : Wf A) (hn : n ≤ A 9) (h : rmA A n < owW A G n) (hH : ∀ c, c < n → H c = G c) : ¬ VAl A H := by
  rintro ⟨hV, ham, hlf, hl⟩
  have h0 : rmA A n < owW A H n := by
    have e : owW A H n = owW A G n := by
      unfold owW
      refine sP_congr _ (fun d _ => ?_)
      rw [lf_congr n hH]
    rw [e]
    exact h
  have up : ∀ k, n + k ≤ A 9 → rmA A (n + k) < owW A H (n + k) := by
    intro k
    induction k with
    | zero => intro _; exact h0
    | succ k ih =>
      intro hk
      have h1 := ih (by omega)
      rw [rmA_s (c := n + k) (by omega)] at h1
      show rmA A (n + k + 1) < owW A H (n + k + 1)
      by_cases z : H (n + k) = 0
      · have e : owW A H (n + k + 1) = owW A H (n + k) := by
          unfold owW
          refine sP_congr _ (fun d _ => ?_)
          rw [lfA, if_neg (show ¬ H (n + k) = d + 1 by omega)]
        rw [e]
        omega
      · obtain ⟨d, ed⟩ : ∃ d, H (n + k) = d + 1 := ⟨H (n + k) - 1, by omega⟩
        have h30 : A (30 + 6 * (n + k)) = 0 := (hW.2.2.1 (n + k) (by omega)).2.1.mpr (hV (n + k) z).2.1
        rw [if_pos h30] at h1
        have key : owW A H (n + k) ≤ owW A H (n + k + 1) + tpA A (n + k) := by
          unfold owW
          refine (sP_one (d := d) (fun i hi => ?_) ?_ (A 13)).1
          · rw [lfA, if_neg (show ¬ H (n + k) = i + 1 by omega)]
            exact Nat.le_refl _
          · rw [lfA, if_pos ed]
            by_cases y : wtA A d = true
            · rw [if_pos y, if_pos y]
              omega
            · rw [if_neg y]
              omega
        omega
  have hend := up (A 9 - n) (by omega)
  rw [show n + (A 9 - n) = A 9 by omega, rmA_end] at hend
  obtain ⟨d, hd, hp⟩ := sP_pos _ hend
  by_cases y : wtA A d = true
  · rw [if_pos y, hlf d hd y] at hp
    exact absurd hp (Nat.lt_irrefl _)
  · rw [if_neg y] at hp
    exact absurd hp (Nat.lt_irrefl _)
theorem ord_c {S : HS} {t : Nat} {A G : Nat → Nat} (hW : Wf A) (hS : PSw S t A G (A 9)) (hV : GVa A G (A 9)) : OrdH S (Mc A (layA A G)) t 126 A (layA A G) (abG A G) := by
  have h20 := hW.1.2.2.2.2.1
  have h5 := hW.1.1
  obtain ⟨r1, r2, r3⟩ := lay_rows hW hV
  exact ⟨hS.1, mc_ln, hS.2.1, mC126, hS.2.2.2.2.1, mc_rm, hW.1, hS.2.2.2.2.2.2.2.2.2.2.1, fun c hc => ⟨mc_lc (by omega), r1 c hc⟩, r2, fun i h1 h2 => lay_out (Or.inl (by omega)), ab_lt h20, fun d => ab_bit, r3⟩
theorem e_leafW {S : HS} {t b : Nat} {A G : Nat → Nat} (hW : Wf A) (hS : PSw S t A G (A 9)) (hV : GVa A G (A 9)) (hg : ∀ c, c < A 9 → G c ≠ 0 → 0 < amA A G c) (hB : BDw S b) : ∃ S1 b1, s_X3_consider S = some S1 ∧ PSw S1 t A G (A 9) ∧ BDw S1 b1 ∧ (lawG A G → b1 = wcA A G) ∧ (¬ lawG A G → b1 = b) := by
  have h5 := hW.1.1
  have h20 := hW.1.2.2.2.2.1
  have hL := hS.1
  have hW4 := wt4 hW
  have hw5 := wc_5 (G := G) hW
  have lpC : ∀ (m j : Nat) (K : Nat) (v : Int32), j + m = rnk (wtA A) (A 13) → m < K → ∃ v', s_X3_consider_L4 K v (nI j) S = s_X3_consider_L4 1 v' (nI (rnk (wtA A) (A 13))) S := by
    intro m
    induction m with
    | zero =>
      intro j K v h1 h2
      obtain ⟨K, rfl⟩ : ∃ k, K = k + 1 := ⟨K - 1, by omega⟩
      have ej : j = rnk (wtA A) (A 13) := by omega
      refine ⟨v, ?_⟩
      rw [ej, s_X3_consider_L4, s_X3_consider_L4, hS.2.2.2.2.2.2.2.1, if_pos (nI_le (Nat.le_refl _) (by omega)), if_pos (nI_le (Nat.le_refl _) (by omega))]
    | succ m ih =>
      intro j K v h1 h2
      obtain ⟨K, rfl⟩ : ∃ k, K = k + 1 := ⟨K - 1, by omega⟩
      rw [s_X3_consider_L4, hS.2.2.2.2.2.2.2.1, if_neg (nI_ge (by omega) (by omega)), ag_ok (nD133 hL) (by omega) (by omega), sb, ← nI_succ]
      by_cases z : (ga S 133).getD j 0 ≠ 0
      · rw [if_pos z]
        exact ih (j + 1) K _ (by omega) (by omega)
      · rw [if_neg z]
        exact ih (j + 1) K _ (by omega) (by omega)
  obtain ⟨v, eC⟩ := lpC (rnk (wtA A) (A 13)) 0 40 0 (by omega) (by omega)
  have eC' : s_X3_consider S = s_X3_consider_L4 1 v (nI (rnk (wtA A) (A 13))) S := eC
  have hO := ord_c hW hS hV
  obtain ⟨hRP, hPL⟩ := hO.rp
  have hG0 : RG (Mc A (layA A G)) (A 9) 0 0 := by
    refine rg_of (p := 0) (g := 0) (O := fun c => layA A G (31 + 6 * c)) h5 (by omega) (by omega) (fun c hc => ⟨(mc_lc (B := layA A G) (A := A) (c := c) (by omega)).2.2, (hO.2.2.2.2.2.2.2.2.2.1 c (by omega)).1⟩) (fun c hc => ?_)
    rw [Nat.zero_testBit, Nat.zero_testBit]
    exact ⟨fun q => absurd q (by decide), fun q => absurd q.2 (by decide)⟩
  obtain ⟨_, _, eSt⟩ := st_eq rfl h5 hS.2.2.2.2.1 mc_rm hRP hG0
  have eD := q_standing (v := 0) hL mC126 hS.2.1 hS.2.2.2.2.1.1 h5
  obtain ⟨S4, eCt⟩ := e_count hO mO122
  have fC : Fr (wO 122) S S4 := fs_X2_count (o := 122) fr_rf _ eCt
  have hwle := owN_le (ok := okM (Mc A (layA A G)) (lqA (layA A G)) (A 9)) (a := abG A G) (D := A 13) (rnk5 h20 hO.2.2.2.2.2.2.2.2.2.2.2.2.2) 8 0
  have hw31 : owN (okM (Mc A (layA A G)) (lqA (layA A G)) (A 9)) (abG A G) (A 13) 8 0 < 2 ^ 31 := Nat.lt_of_le_of_lt hwle (by decide)
  have hPS4 : PSw S4 t A G (A 9) := hS.of (hL.fr fC) (fun k j hk => (fC.1 k j (by unfold wO; omega)).1) (fun j _ => (fC.1 121 j (by unfold wO; omega)).1) (fun j => (fC.1 121 j (by unfold wO; omega)).2) (fun k hk => fC.2.1 k (by unfold wO; omega)) (fun k hk => fC.2.2.1 k (by unfold wO; omega))
  have hBs4 : BsD S S4 := ⟨fun j _ => (fC.1 121 j (by unfold wO; omega)).1, fC.2.2.1 135 (by unfold wO; omega), fC.2.2.1 136 (by unfold wO; omega)⟩
  have hbet : s_X3_isBetter v S = some 1 := by
    unfold s_X3_isBetter
    rw [hS.2.2.2.2.2.2.1]
    rcases hB with ⟨q, _⟩ | ⟨q, _⟩
    · rw [q, i0e]
    · rw [q, i1e, i1n]
  rw [eC', s_X3_consider_L4, hS.2.2.2.2.2.2.2.1, if_pos (nI_le (Nat.le_refl _) (by omega)), hbet, sb, i1e, tl_ok hS.2.2.1 hS.2.1, sb, eD, sb, eSt]
  by_cases z : stM (Mc A (layA A G)) 0 (lqA (layA A G)) (A 9) = 0
  · rw [z, i0n, sb, rc_ok hS.2.2.2.1, sb, (show gf S 22 1 = nI (A 13) from hS.2.2.2.2.2.1.1), eCt, sb]
    by_cases y : owN (okM (Mc A (layA A G)) (lqA (layA A G)) (A 9)) (abG A G) (A 13) 8 0 = 0
    · refine ⟨S4, b, ?_, hPS4, hB.of hBs4, fun q => ?_, fun _ => rfl⟩
      · rw [y, if_pos (show nI 0 ≤ 0 by decide)]
      · have := q.2
        omega
    · obtain ⟨S9, e9⟩ : ∃ S9, S9 = sf (sf (sf (sf S4 121 12 1) 121 13 (gf S4 121 11)) 121 14 v) 121 15 (gf S4 121 10) := ⟨_, rfl⟩
      have hPS9 : PSw S9 t A G (A 9) := by
        rw [e9]
        refine hPS4.of hPS4.1 (fun k j hk => ?_) (fun j hj => ?_) (fun _ => rfl) (fun _ _ => rfl) (fun _ _ => rfl)
        · rw [gf_sf, if_neg (by omega), gf_sf, if_neg (by omega), gf_sf, if_neg (by omega), gf_sf, if_neg (by omega)]
        · rw [gf_sf, if_neg (by omega), gf_sf, if_neg (by omega), gf_sf, if_neg (by omega), gf_sf, if_neg (by omega)]
      obtain ⟨S10, eK, fK, _⟩ := q_keepDealW hW hPS9 hV hg
      have hP10 : PSw S10 t A G (A 9) := hPS9.of (hPS9.1.fr fK) (fun k j hk => (fK.1 k j (by unfold wKD; omega)).1) (fun j _ => (fK.1 121 j (by unfold wKD; omega)).1) (fun j => (fK.1 121 j (by unfold wKD; omega)).2) (fun k hk => fK.2.1 k (by unfold wKD; omega)) (fun k hk => fK.2.2.1 k (by unfold wKD; omega))
      have e11 : gf S4 121 11 = nI (wcA A G) := hPS4.2.2.2.2.2.2.2.2.2.2.2.2
      refine ⟨S10, wcA A G, ?_, hP10, Or.inr ⟨?_, ?_, hw5⟩, fun _ => rfl, fun q => absurd ⟨z, by omega⟩ q⟩
      · rw [if_neg (show ¬ nI (owN (okM (Mc A (layA A G)) (lqA (layA A G)) (A 9)) (abG A G) (A 13) 8 0) ≤ 0 from nI_ge (a := 0) (b := owN (okM (Mc A (layA A G)) (lqA (layA A G)) (A 9)) (abG A G) (A 13) 8 0) (by omega) hw31), pf_ok, sb, pf_ok, sb, pf_ok, sb, pf_ok, sb]
        have e9' : sf (sf (sf (sf S4 121 12 1) 121 13 (gf (sf S4 121 12 1) 121 11)) 121 14 v) 121 15 (gf (sf (sf (sf S4 121 12 1) 121 13 (gf (sf S4 121 12 1) 121 11)) 121 14 v) 121 10) = S9 := by
          rw [e9]
          rfl
        rw [e9', eK, sb]
      · rw [(fK.1 121 12 (by unfold wKD; omega)).1, e9, gf_sf, if_neg (by omega), gf_sf, if_neg (by omega), gf_sf, if_neg (by omega), gf_sf, if_pos ⟨rfl, rfl⟩]
      · rw [(fK.1 121 13 (by unfold wKD; omega)).1, e9, gf_sf, if_neg (by omega), gf_sf, if_neg (by omega), gf_sf, if_pos ⟨rfl, rfl⟩, e11]
  · refine ⟨S, b, ?_, hS, hB, fun q => absurd q.1 z, fun _ => rfl⟩
    rw [if_pos z]
theorem PSw.next {S : HS} {t n : Nat} {A G : Nat → Nat} (hG : G n = 0) : PSw S t A G n ↔ PSw S t A G (n + 1) := by
  have e : ∀ d, lfA A G d (n + 1) = lfA A G d n := fun d => by
    rw [lfA, if_neg (by omega)]
  unfold PSw
  simp only [e]
theorem wc_mono {A G H : Nat → Nat} {n : Nat} (hV : GVa A G n) (hH : ∀ c, c < n → H c = G c) : wcA A G ≤ wcA A H := rnk_imp (A 9) (fun c _ q => by
  unfold brG at q ⊢
  rw [Bool.and_eq_true] at q
  rw [hH c (hV c (of_decide_eq_true q.1)).1, q.1, q.2]
  rfl)
theorem e_dealW {t : Nat} {A : Nat → Nat} (hW : Wf A) : ∀ (r n : Nat) (G : Nat → Nat) (S : HS) (b : Nat), PSw S t A G n → GVa A G n → (∀ c, c < n → G c ≠ 0 → 0 < amA A G c) → BDw S b → n ≤ A 9 → A 9 < r + n → ∃ S1 b1, s_X3_deal r (nI n) S = some S1 ∧ PSw S1 t A G n ∧ BDw S1 b1 ∧ b1 ≤ b ∧ (∀ H, (∀ c, c < n → H c = G c) → VAl A H → b1 ≤ wcA A H) ∧ (b1 = b ∨ ∃ H, VAl A H ∧ b1 = wcA A H) := by
  have h5 := hW.1.1
  have h20 := hW.1.2.2.2.2.1
  have h4 := wt4 hW
  intro r
  induction r with
  | zero =>
    intro n G S b hS hV hg hB hn hr
    omega
  | succ r ih =>
    intro n G S b hS hV hg hB hn hr
    rw [s_X3_deal, s_X3_deal_B, q_hopelessW hW hS hn hB, sb]
    by_cases hp : b ≤ wcA A G
    · rw [if_pos hp, i1e]
      exact ⟨S, b, rfl, hS, hB, Nat.le_refl _, fun H hH _ => Nat.le_trans hp (wc_mono hV hH), Or.inl rfl⟩
    rw [if_neg hp]
    by_cases ho : owW A G n ≤ rmA A n
    · rw [if_pos ho, i0e, tl_ok hS.2.2.1 hS.2.1, sb, hS.2.2.2.2.1.1]
      by_cases z : n = A 9
      · subst z
        obtain ⟨S1, b1, e1, p1, p2, p3, p4⟩ := e_leafW hW hS hV hg hB
        rw [if_neg (show ¬ nI (A 9) < nI (A 9) from nI_nlt (Nat.le_refl _) (by omega)), e1, sb]
        have hall : ∀ d, d < A 13 → wtA A d = true → lfA A G d (A 9) = 0 := fun d hd hw => by
          rw [rmA_end] at ho
          have h6 := sP_ge (F := fun d => if wtA A d = true then lfA A G d (A 9) else 0) (A 13) hd
          have h7 : (if wtA A d = true then lfA A G d (A 9) else 0) = lfA A G d (A 9) := if_pos hw
          have h8 : (if wtA A d = true then lfA A G d (A 9) else 0) ≤ owW A G (A 9) := h6
          omega
        by_cases hl : lawG A G
        · have q := p3 hl
          refine ⟨S1, b1, rfl, p1, p2, by omega, fun H hH hv => ?_, Or.inr ⟨G, ⟨hV, hg, hall, hl⟩, q⟩⟩
          rw [gv_ext hV hv.1 hH]
          omega
        · have q := p4 hl
          refine ⟨S1, b1, rfl, p1, p2, by omega, fun H hH hv => ?_, Or.inl q⟩
          rw [gv_ext hV hv.1 hH] at hv
          exact absurd hv.2.2.2 hl
      · have hn9 : n < A 9 := by omega
        have hGn := gv_n hV
        have J : ∀ S' b0, PSw S' t A G n → BDw S' b0 → ∃ S1 b1, s_X3_deal_J75 (s_X3_deal r) (nI n) S' = some S1 ∧ PSw S1 t A G n ∧ BDw S1 b1 ∧ b1 ≤ b0 ∧ (∀ H, (∀ c, c < n → H c = G c) → H n = 0 → VAl A H → b1 ≤ wcA A H) ∧ (b1 = b0 ∨ ∃ H, VAl A H ∧ b1 = wcA A H) := by
          intro S' b0 hS' hB'
          obtain ⟨S1, b1, e1, p1, p2, p3, p4, p5⟩ := ih (n + 1) G S' b0 ((PSw.next hGn).mp hS') (fun c hc => ⟨by have := (hV c hc).1; omega, (hV c hc).2⟩) (fun c hc q => by
            by_cases u : c = n
            · subst u
              exact absurd hGn q
            · exact hg c (by omega) q) hB' (by omega) (by omega)
          unfold s_X3_deal_J75
          rw [← nI_succ, e1, sb]
          refine ⟨S1, b1, rfl, (PSw.next hGn).mpr p1, p2, p3, fun H hH h0 hv => p4 H (fun c hc => ?_) hv, p5⟩
          by_cases u : c = n
          · rw [u, h0, hGn]
          · exact hH c (by omega)
        have hl := hS.2.2.2.2.2.2.2.2.2.2.1 n (by omega)
        obtain ⟨l0, _, _⟩ := lay_c (A := A) (G := G) (c := n) (by omega)
        have hw3 := hW.2.2.1 n hn9
        rw [if_pos (show nI n < nI (A 9) from nI_lt hn9 (by omega)), ag_ok (nD127 hS.1) (by omega) (by omega), sb, show (ga S 127).getD n 0 = _ from hl.1, l0, if_pos hGn]
        by_cases z0 : A (31 + 6 * n) = 0
        · have z30 : A (30 + 6 * n) = 0 := hw3.2.1.mpr z0
          rw [z30, if_neg (show ¬ nI 0 ≠ 0 by decide)]
          have lp : ∀ (m d : Nat) (S' : HS) (b0 : Nat) (K : Nat), d + m = A 13 → rnk (wtA A) (A 13) - rnk (wtA A) d < K → PSw S' t A G n → BDw S' b0 → b0 ≤ b → (∀ H, (∀ c, c < n → H c = G c) → (∃ e, e < d ∧ H n = e + 1) → VAl A H → b0 ≤ wcA A H) → (b0 = b ∨ ∃ H, VAl A H ∧ b0 = wcA A H) → ∃ S1 b1, s_X3_deal_L39 (s_X3_deal r) (nI n) K (nI (rnk (wtA A) d)) S' = some S1 ∧ PSw S1 t A G n ∧ BDw S1 b1 ∧ b1 ≤ b ∧ (∀ H, (∀ c, c < n → H c = G c) → VAl A H → b1 ≤ wcA A H) ∧ (b1 = b ∨ ∃ H, VAl A H ∧ b1 = wcA A H) := by
            intro m
            induction m with
            | zero =>
              intro d S' b0 K h1 h3 hS' hB' hle hm ha
              obtain ⟨K, rfl⟩ : ∃ k, K = k + 1 := ⟨K - 1, by omega⟩
              have ed : d = A 13 := by omega
              subst ed
              obtain ⟨S1, b1, e1, p1, p2, p3, p4, p5⟩ := J S' b0 hS' hB'
              rw [s_X3_deal_L39, hS'.2.2.2.2.2.2.2.1, if_pos (nI_le (Nat.le_refl _) (by omega))]
              refine ⟨S1, b1, e1, p1, p2, by omega, fun H hH hv => ?_, ?_⟩
              · by_cases y : H n = 0
                · exact p4 H hH y hv
                · have q := hm H hH ⟨H n - 1, by have := (hv.1 n y).2.2.1; omega, by omega⟩ hv
                  omega
              · rcases p5 with q | q
                · rw [q]
                  exact ha
                · exact Or.inr q
            | succ m ihm =>
              intro d S' b0 K h1 h3 hS' hB' hle hm ha
              have hd : d < A 13 := by omega
              have e1 : rnk (wtA A) (d + 1) = rnk (wtA A) d + if wtA A d = true then 1 else 0 := rfl
              by_cases hw : wtA A d = true
              · obtain ⟨K, rfl⟩ : ∃ k, K = k + 1 := ⟨K - 1, by omega⟩
                have hlt := rnk_lt hd hw
                have hs0 : A (59 + 5 * d) = 0 := of_decide_eq_true hw
                have eG : upG G n (d + 1) n = d + 1 := if_pos rfl
                have hV2 : GVa A (upG G n (d + 1)) (n + 1) := gv_up hV (fun _ => ⟨z0, by omega, by rw [show d + 1 - 1 = d by omega]; exact hs0⟩)
                have nxt := fun S2 b2 hS2 hB2 hle2 hm2 ha2 => ihm (d + 1) S2 b2 K (by omega) (by rw [e1, if_pos hw]; omega) hS2 hB2 hle2 hm2 ha2
                rw [e1, if_pos hw] at nxt
                have split : ∀ H b2, (∀ c, c < n → H c = G c) → (∃ e, e < d + 1 ∧ H n = e + 1) → b2 ≤ b0 → (H n = d + 1 → b2 ≤ wcA A H) → VAl A H → b2 ≤ wcA A H := fun H b2 hH he hb2 hx hv => by
                  obtain ⟨e, he1, he2⟩ := he
                  by_cases y : e = d
                  · exact hx (by rw [he2, y])
                  · exact Nat.le_trans hb2 (hm H hH ⟨e, by omega, he2⟩ hv)
                rw [s_X3_deal_L39, hS'.2.2.2.2.2.2.2.1, if_neg (show ¬ nI (rnk (wtA A) (A 13)) ≤ nI (rnk (wtA A) d) from nI_ge hlt (by omega)), ← nI_succ, ← nI_succ]
                rcases q_givesW hW hS' hV hn9 hd hw z0 with ⟨eg, hbad⟩ | ⟨S2, eg, hgood, hS2, hBd⟩
                · rw [eg, sb, if_pos (show ((0 : Int32), S').1 = 0 from rfl)]
                  refine nxt S' b0 hS' hB' hle (fun H hH he hv => split H b0 hH he (Nat.le_refl _) (fun q => ?_) hv) ha
                  exfalso
                  have h6 := hv.2.1 n hn9 (by omega)
                  have h7 : amA A H n = min (lfA A G d n) (tpA A n) := by
                    unfold amA
                    rw [q, show d + 1 - 1 = d by omega, lf_congr n hH]
                  omega
                · obtain ⟨S3, b3, e3, p1, p2, p3, p4, p5⟩ := ih (n + 1) (upG G n (d + 1)) S2 b0 hS2 hV2 (fun c hc q => by
                    by_cases u : c = n
                    · subst u
                      rw [up_am]
                      exact hgood
                    · have e : upG G n (d + 1) c = G c := if_neg u
                      rw [am_congr (A := A) (G := G) (H := upG G n (d + 1)) (c := c) (fun i hi => if_neg (show ¬ i = n by omega))]
                      exact hg c (by omega) (by rw [← e]; exact q)) (hB'.of hBd) (by omega) (by omega)
                  obtain ⟨S4, e5, p6, p7⟩ := q_takeBackW hW p1 hV hn9 hd hw z0
                  rw [eg, sb, if_neg (show ¬ ((1 : Int32), S2).1 = 0 from by show ¬ (1 : Int32) = 0; decide), (show s_X3_deal r (nI (n + 1)) ((1 : Int32), S2).2 = some S3 from e3), sb, e5, sb]
                  refine nxt S4 b3 p6 (p2.of p7) (by omega) (fun H hH he hv => split H b3 hH he p3 (fun q => p4 H (fun c hc => ?_) hv) hv) ?_
                  · unfold upG
                    by_cases u : c = n
                    · rw [if_pos u, u, q]
                    · rw [if_neg u]
                      exact hH c (by omega)
                  · rcases p5 with q | q
                    · rw [q]
                      exact ha
                    · exact Or.inr q
              · have nxt := ihm (d + 1) S' b0 K (by omega) (by rw [e1, if_neg hw]; omega) hS' hB' hle (fun H hH he hv => by
                  obtain ⟨e, he1, he2⟩ := he
                  by_cases y : e = d
                  · exfalso
                    have q := (hv.1 n (by omega)).2.2.2
                    rw [he2, y, show d + 1 - 1 = d by omega] at q
                    exact hw (decide_eq_true q)
                  · exact hm H hH ⟨e, by omega, he2⟩ hv) ha
                rw [e1, if_neg hw] at nxt
                exact nxt
          exact lp (A 13) 0 S b 40 (by omega) (by omega) hS hB (Nat.le_refl _) (fun H _ he => by obtain ⟨e, q, _⟩ := he; omega) (Or.inl rfl)
        · have z30 : A (30 + 6 * n) ≠ 0 := fun q => z0 (hw3.2.1.mp q)
          rw [if_pos (nI_ne0 (n := A (30 + 6 * n)) (by omega) (by omega))]
          obtain ⟨S1, b1, e1, p1, p2, p3, p4, p5⟩ := J S b hS hB
          refine ⟨S1, b1, e1, p1, p2, p3, fun H hH hv => ?_, p5⟩
          by_cases y : H n = 0
          · exact p4 H hH y hv
          · exact absurd (hv.1 n y).2.1 z0
    · rw [if_neg ho, i1e]
      exact ⟨S, b, rfl, hS, hB, Nat.le_refl _, fun H hH hv => absurd hv (no_val hW hn (by omega) hH), Or.inl rfl⟩
def PrW_ (S M : HS) (t : Nat) (A : Nat → Nat) (n : Nat) : Prop := FS S M t A ∧ gr S 121 2 = .ref t ∧ gr S 121 3 = .ref 22 ∧ gf S 121 4 = 1 ∧ gf S 121 12 = 0 ∧ gf S 121 10 = 0 ∧ gf S 121 5 = nI (rnk (wtA A) n) ∧ (∀ d, d < n → wtA A d = true → (ga S 131).getD (rnk (wtA A) d) 0 = nI d ∧ (ga S 132).getD (rnk (wtA A) d) 0 = nI (lkA A d) ∧ (ga S 133).getD (rnk (wtA A) d) 0 = nI (lkA A d)) ∧ RCa S 126 A ∧ gf S 121 11 = 0
theorem e_roomW {S M : HS} {t : Nat} {A : Nat → Nat} (h : PrW_ S M t A (A 13)) : ∃ S1, s_X3_prepare_J165 t S = some S1 ∧ PSw S1 t A (fun _ => 0) 0 ∧ gf S1 121 12 = 0 := by
  obtain ⟨hF, p1, p2, p3, p4, p5, p6, p7, p8, p9⟩ := h
  have hL := hF.1
  have ht := hF.2.2.2.1
  have hT := hF.2.2.2.2.1
  have hSt := hF.2.2.2.2.2.1
  have hW := hF.2.2.2.2.2.2.2
  have h5 := hW.1.1
  have htn := isT_num ht
  have fin : ∀ S', LnD S' → (∀ k j, gf S' k j = gf S k j) → (∀ k j, gr S' k j = gr S k j) → (∀ k, gl S' k = gl S k) → (∀ k, k ≠ 134 → ga S' k = ga S k) → (∀ c, c ≤ A 9 → (ga S' 134).getD c 0 = nI (rmA A c)) → PSw S' t A (fun _ => 0) 0 ∧ gf S' 121 12 = 0 := by
    intro S' hL' g1 g2 g3 g4 g5
    have lay0 : ∀ c, c < 5 → layA A (fun _ => 0) (30 + 6 * c) = A (30 + 6 * c) ∧ layA A (fun _ => 0) (31 + 6 * c) = A (31 + 6 * c) ∧ layA A (fun _ => 0) (32 + 6 * c) = A (32 + 6 * c) := fun c hc => by
      obtain ⟨a, b, d⟩ := lay_c (A := A) (G := fun _ => 0) hc
      exact ⟨a.trans (if_pos rfl), b.trans (if_pos rfl), d.trans (if_pos rfl)⟩
    refine ⟨⟨hL', ht, (g2 _ _).trans p1, (g2 _ _).trans p2, hT.keep (fun j => g1 _ _) (g3 _) (fun i hi => g4 _ (by omega)), hSt.of (g1 _ _) (g1 _ _) (fun i _ _ => g4 _ (by omega)), (g1 _ _).trans p3, (g1 _ _).trans p6, fun d hd hw => ?_, g5, fun c hc => ?_, ?_, ?_⟩, (g1 _ _).trans p4⟩
    · rw [g4 131 (by omega), g4 132 (by omega), g4 133 (by omega)]
      exact p7 d hd hw
    · obtain ⟨a, b, d⟩ := lay0 c hc
      have hl := lq_lt hW hc
      have eq : lqA (layA A (fun _ => 0)) c = lqA A c := (lq_lay hc).trans (if_pos rfl)
      rw [a, b, d, eq, lay_out (A := A) (G := fun _ => 0) (i := 15 + lqA A c) (Or.inl (by omega)), g4 (126 + 1) (by omega), g4 (126 + 2) (by omega), g4 (126 + 3) (by omega), g4 (126 + 4) (by omega)]
      exact p8 c hc
    · rw [g1, p5]
      have e := rnk_stay (p := fun c => decide ((fun _ : Nat => (0 : Nat)) c ≠ 0)) (n := 0) (fun i _ => decide_eq_false (fun q => q rfl)) (A 9)
      rw [Nat.zero_add] at e
      rw [e]
      rfl
    · rw [g1, p9]
      unfold wcA
      have e := rnk_stay (p := brG A (fun _ => 0)) (n := 0) (fun i _ => rfl) (A 9)
      rw [Nat.zero_add] at e
      rw [e]
      rfl
  have L189 : ∀ (m : Nat) (S' : HS) (K : Nat), m ≤ A 9 → m < K → LnD S' → (∀ k j, gf S' k j = gf S k j) → (∀ k j, gr S' k j = gr S k j) → (∀ k, gl S' k = gl S k) → (∀ k, k ≠ 134 → ga S' k = ga S k) → (∀ c, m ≤ c → c ≤ A 9 → (ga S' 134).getD c 0 = nI (rmA A c)) → ∃ S1, s_X3_prepare_L189 t K (dn m) S' = some S1 ∧ PSw S1 t A (fun _ => 0) 0 ∧ gf S1 121 12 = 0 := by
    intro m
    induction m with
    | zero =>
      intro S' K h1 h2 hL' g1 g2 g3 g4 g5
      obtain ⟨K, rfl⟩ : ∃ k, K = k + 1 := ⟨K - 1, by omega⟩
      rw [dn_0, s_X3_prepare_L189, if_pos (by decide)]
      exact ⟨S', rfl, fin S' hL' g1 g2 g3 g4 (fun c hc => g5 c (by omega) hc)⟩
    | succ m ih =>
      intro S' K h1 h2 hL' g1 g2 g3 g4 g5
      obtain ⟨K, rfl⟩ : ∃ k, K = k + 1 := ⟨K - 1, by omega⟩
      have e127 : (ga S' 127).getD m 0 = nI (A (30 + 6 * m)) := by
        rw [g4 127 (by omega)]
        exact (p8 m (by omega)).1
      have hT' : RDt S' t A := hT.keep (fun j => g1 _ _) (g3 _) (fun i hi => g4 _ (by omega))
      have h30 := (hW.2.2.1 m (by omega)).1
      have nx : ∀ x, x = nI (rmA A m) → ∃ S1, s_X3_prepare_L189 t K (dn m) (st S' 134 m x) = some S1 ∧ PSw S1 t A (fun _ => 0) 0 ∧ gf S1 121 12 = 0 := by
        intro x ex
        refine ih (st S' 134 m x) K (by omega) (by omega) hL'.st g1 g2 g3 (fun k hk => (ga_st_ne hk).trans (g4 k hk)) (fun c hc h9 => ?_)
        by_cases u : c = m
        · subst u
          rw [gd_st_eq (nD134 hL') (by omega)]
          exact ex
        · rw [gd_st (by omega)]
          exact g5 c (by omega) h9
      rw [dn_s, s_X3_prepare_L189, if_neg (nI_pos (by omega)), ← nI_succ, ag_ok (nD134 hL') (by omega) (by omega), sb, g5 (m + 1) (Nat.le_refl _) h1, ag_ok (nD127 hL') (by omega) (by omega), sb, e127, dn_add, wa_st (nD134 hL') (by omega) (by omega), sb, tl_ok ((g2 _ _).trans p1) ht, sb, e_dtop hL' ht hT' hW (by omega), sb, wa_st (nD134 hL') (by omega) (by omega), sb]
      by_cases u : A (30 + 6 * m) = 0
      · rw [u, if_neg (show ¬ nI 0 ≠ 0 by decide)]
        refine nx _ ?_
        rw [nI_add, rmA_s (c := m) (by omega), if_pos u, Nat.add_comm]
      · rw [if_pos (nI_ne0 (n := A (30 + 6 * m)) (by omega) (by omega))]
        refine nx _ ?_
        rw [rmA_s (c := m) (by omega), if_neg u, Nat.zero_add, Int32.add_zero]
  rw [s_X3_prepare_J165, tl_ok p1 ht, sb, hT.1, wa_st (nD134 hL) (by omega) (by omega), sb, gr_st, tl_ok p1 ht, sb, gf_st, hT.1]
  refine L189 (A 9) (st S 134 (A 9) 0) 40 (Nat.le_refl _) (by omega) hL.st (fun _ _ => rfl) (fun _ _ => rfl) (fun _ => rfl) (fun k hk => ga_st_ne hk) (fun c h1 h2 => ?_)
  have ec : c = A 9 := by omega
  rw [ec, gd_st_eq (nD134 hL) (by omega), rmA_end]
  rfl
theorem e_prepareW {S M : HS} {t : Nat} {A : Nat → Nat} (h : FS S M t A) : ∃ S1, s_X3_prepare t 1 S = some S1 ∧ PSw S1 t A (fun _ => 0) 0 ∧ gf S1 121 12 = 0 := by
  have hW := h.2.2.2.2.2.2.2
  have h5 := hW.1.1
  have h20 := hW.1.2.2.2.2.1
  have h4 := wt4 hW
  have ht := h.2.2.2.1
  have htn := isT_num ht
  have lp : ∀ (m d : Nat) (S' : HS) (K : Nat), PrW_ S' M t A d → d + m = A 13 → m < K → ∃ S1, s_X3_prepare_L52 t K (nI d) S' = some S1 ∧ PSw S1 t A (fun _ => 0) 0 ∧ gf S1 121 12 = 0 := by
    intro m
    induction m with
    | zero =>
      intro d S' K hP h1 h2
      obtain ⟨K, rfl⟩ : ∃ k, K = k + 1 := ⟨K - 1, by omega⟩
      have ed : d = A 13 := by omega
      subst ed
      rw [s_X3_prepare_L52, rc_ok hP.2.2.1, sb, (show gf S' 22 1 = nI (A 13) from hP.1.2.2.2.2.2.1.1), if_pos (nI_le (Nat.le_refl _) (by omega))]
      exact e_roomW hP
    | succ m ih =>
      intro d S' K hP h1 h2
      obtain ⟨K, rfl⟩ : ∃ k, K = k + 1 := ⟨K - 1, by omega⟩
      have hd : d < A 13 := by omega
      have e1 : rnk (wtA A) (d + 1) = rnk (wtA A) d + if wtA A d = true then 1 else 0 := rfl
      have hmon := rnk_mono (p := wtA A) (m := d) (A 13 - d)
      rw [show d + (A 13 - d) = A 13 by omega] at hmon
      have hho := how_eq hP.1 hd
      have hs3 := hW.s3 hd
      have hP0 := hP
      obtain ⟨hF, p1, p2, p3, p4, p5, p6, p7, p8, p9⟩ := hP
      rw [s_X3_prepare_L52, rc_ok p2, sb, (show gf S' 22 1 = nI (A 13) from hF.2.2.2.2.2.1.1), if_neg (show ¬ nI (A 13) ≤ nI d from nI_ge hd (by omega)), p6]
      by_cases z4 : rnk (wtA A) d = 4
      · rw [z4, if_pos (show (4 : Int32) ≤ nI 4 by decide)]
        refine e_roomW ⟨hF, p1, p2, p3, p4, p5, ?_, fun e he hw => ?_, p8, p9⟩
        · rw [p6]
          congr 1
          omega
        · by_cases u : e < d
          · exact p7 e u hw
          · exfalso
            have q1 := rnk_lt (p := wtA A) he hw
            have q2 := rnk_mono (p := wtA A) (m := d) (e - d)
            rw [show d + (e - d) = e by omega] at q2
            omega
      · have hL := hF.1
        rw [if_neg (show ¬ (4 : Int32) ≤ nI (rnk (wtA A) d) from nI_ge (b := 4) (by omega) (by omega)), sb, tl_ok p1 ht, sb, q_how hL ht (by omega), sb, hho, ← nI_succ]
        by_cases hw : wtA A d = true
        · have hs0 : A (59 + 5 * d) = 0 := of_decide_eq_true hw
          have hL1 : LnD (st S' 131 (rnk (wtA A) d) (nI d)) := hL.st
          have hle : ldA A d 5 ≤ A (58 + 5 * d) := by
            rcases hW.2.2.2.1 d hd with w | w | w
            · omega
            · omega
            · omega
          have hC1 : RCa (st S' 131 (rnk (wtA A) d) (nI d)) 23 A := fun c hc => by
            rw [ga_st_ne (by omega), ga_st_ne (by omega), ga_st_ne (by omega), ga_st_ne (by omega)]
            exact hF.2.2.2.2.2.1.2.2.1 c hc
          have e8 : (ga S' (t + 8)).getD d 0 = nI (A (58 + 5 * d)) := (hF.2.2.2.2.1.2.2.2.2.2.2 d hd).2
          rw [hs0, if_neg (show ¬ nI 0 ≠ 0 by decide), wa_st (nD131 hL) (by omega) (by omega), sb, gr_st, tl_ok p1 ht, sb, ag_ok (nT8 hL1 ht) (by omega) (by omega), sb, gd_st (by omega), e8, gr_st, rc_ok p2, sb, q_dloaded hL1 mC23 hC1 (fun c hc => hW.o20 hc) (by omega), sb, gf_st, p6, pk_sub hle, wa_st (nD132 hL1) (by omega) (by omega), sb, gf_st, gf_st, p6, ag_ok (nD132 hL1.st) (by omega) (by omega), sb, gd_st_eq (nD132 hL1) (by omega), wa_st (nD133 hL1.st) (by omega) (by omega), sb, gf_st, gf_st, gf_st, p6, pf_ok, sb, ← nI_succ]
          refine ih (d + 1) _ K ⟨?_, p1, p2, ?_, ?_, ?_, ?_, fun e he hwe => ?_, fun c hc => ?_, ?_⟩ (by omega) (by omega)
          · refine hF.hi hL1.st.st.sf (fun k j hk => ?_) rfl (fun _ _ => rfl) (fun k hk => ?_)
            · rw [gf_sf, if_neg (by omega)]
              rfl
            · rw [ga_sf, ga_st_ne (by omega), ga_st_ne (by omega), ga_st_ne (by omega)]
          · rw [gf_sf, if_neg (by omega)]
            exact p3
          · rw [gf_sf, if_neg (by omega)]
            exact p4
          · rw [gf_sf, if_neg (by omega)]
            exact p5
          · rw [gf_sf, if_pos ⟨rfl, rfl⟩, e1, if_pos hw]
          · rw [ga_sf, ga_sf, ga_sf]
            by_cases u : e = d
            · subst u
              rw [gd_st (by omega), gd_st (by omega), gd_st_eq (nD131 hL) (by omega), gd_st (by omega), gd_st_eq (nD132 hL1) (by omega), gd_st_eq (nD133 hL1.st) (by omega)]
              exact ⟨rfl, rfl, rfl⟩
            · have hne := rnk_ne (p := wtA A) u hwe hw
              rw [gd_st (by omega), gd_st (by omega), gd_st (by omega), gd_st (by omega), gd_st (by omega), gd_st (by omega), gd_st (by omega), gd_st (by omega), gd_st (by omega)]
              exact p7 e (by omega) hwe
          · rw [ga_sf, ga_sf, ga_sf, ga_sf, ga_st_ne (by omega), ga_st_ne (by omega), ga_st_ne (by omega), ga_st_ne (by omega), ga_st_ne (by omega), ga_st_ne (by omega), ga_st_ne (by omega), ga_st_ne (by omega), ga_st_ne (by omega), ga_st_ne (by omega), ga_st_ne (by omega), ga_st_ne (by omega)]
            exact p8 c hc
          · rw [gf_sf, if_neg (by omega)]
            exact p9
        · have hs0 : A (59 + 5 * d) ≠ 0 := fun q => hw (decide_eq_true q)
          rw [if_pos (nI_ne0 (n := A (59 + 5 * d)) (by omega) (by omega))]
          refine ih (d + 1) S' K ⟨hF, p1, p2, p3, p4, p5, ?_, fun e he hwe => ?_, p8, p9⟩ (by omega) (by omega)
          · rw [p6, e1, if_neg hw]
            rfl
          · refine p7 e ?_ hwe
            by_cases u : e = d
            · subst u
              exact absurd hwe hw
            · omega
  have hL3 : LnD (sf (sr (sr S 121 2 (.ref t)) 121 3 (.ref 22)) 121 4 1) := h.1
  have hL4 : LnD (cpC (sf (sr (sr S 121 2 (.ref t)) 121 3 (.ref 22)) 121 4 1) 126 23) := by
    unfold cpC
    refine LnD.sa (LnD.sa (LnD.sa (LnD.sa hL3 ?_) ?_) ?_) ?_
    · exact nD24 hL3
    · exact nD27 hL3
    · exact nD25 hL3
    · exact nD26 hL3
  unfold s_X3_prepare
  rw [pr_ok, sb, pr_ok, sb, pz1, sb, rc_ok (by rfl), sb, w_copyC hL3 mC126 mC23 (by omega), sb, pf_ok, sb, pf_ok, sb, pf_ok, sb, pf_ok, sb]
  refine lp (A 13) 0 _ 40 ⟨?_, rfl, rfl, ?_, ?_, ?_, ?_, fun e he => absurd he (Nat.not_lt_zero _), fun c hc => ?_, ?_⟩ (by omega) (by omega)
  · refine h.hi hL4.sf.sf.sf.sf (fun k j hk => ?_) rfl (fun _ _ => rfl) (fun k hk => ?_)
    · rw [gf_sf, if_neg (by omega), gf_sf, if_neg (by omega), gf_sf, if_neg (by omega), gf_sf, if_neg (by omega)]
      show gf (sf (sr (sr S 121 2 (.ref t)) 121 3 (.ref 22)) 121 4 1) k j = _
      rw [gf_sf, if_neg (by omega)]
      rfl
    · rw [ga_sf, ga_sf, ga_sf, ga_sf, ga_cpC (by omega)]
      rfl
  · rw [gf_sf, if_neg (by omega), gf_sf, if_neg (by omega), gf_sf, if_neg (by omega), gf_sf, if_neg (by omega)]
    rfl
  · rw [gf_sf, if_neg (by omega), gf_sf, if_pos ⟨rfl, rfl⟩]
  · rw [gf_sf, if_neg (by omega), gf_sf, if_neg (by omega), gf_sf, if_neg (by omega), gf_sf, if_pos ⟨rfl, rfl⟩]
  · rw [gf_sf, if_pos ⟨rfl, rfl⟩]
    rfl
  · have hC := h.2.2.2.2.2.1.2.2.1 c hc
    rw [ga_sf, ga_sf, ga_sf, ga_sf, ga_sf, ga_sf, ga_sf, ga_sf, ga_sf, ga_sf, ga_sf, ga_sf, ga_sf, ga_sf, ga_sf, ga_sf]
    unfold cpC
    rw [ga_sa, if_neg (by omega), ga_sa, if_neg (by omega), ga_sa, if_neg (by omega), ga_sa, if_pos rfl]
    rw [ga_sa, if_neg (by omega), ga_sa, if_pos rfl]
    rw [ga_sa, if_pos rfl]
    rw [ga_sa, if_neg (by omega), ga_sa, if_neg (by omega), ga_sa, if_pos rfl]
    exact hC
  · rw [gf_sf, if_neg (by omega), gf_sf, if_neg (by omega), gf_sf, if_pos ⟨rfl, rfl⟩]
theorem e_washes {S M : HS} {t : Nat} {A : Nat → Nat} (h : FS S M t A) : ∃ v S1 M1, s_X7_washes S = some (v, S1) ∧ s_X8_washes M = some (v, M1) := by
  have hW := h.2.2.2.2.2.2.2
  have h5 := hW.1.1
  obtain ⟨x, M1, eM, hx⟩ := m_washes hW h.2.1 h.2.2.2.2.2.2.1
  have hx2 := wb_wv hW hx
  obtain ⟨S1, e1, hS1, g12⟩ := e_prepareW h
  obtain ⟨S2, b, e2, p1, p2, _, p4, p5⟩ := e_dealW hW 8 0 (fun _ => 0) S1 99 hS1 (fun c hc => absurd rfl hc) (fun c hc => absurd hc (Nat.not_lt_zero _)) (Or.inl ⟨g12, rfl⟩) (by omega) (by omega)
  have hv : ∃ v, s_X7_washes S = some (v, S2) ∧ WVl A v := by
    unfold s_X7_washes s_X3_fewestWashes
    rw [tl_ok h.2.2.1 h.2.2.2.1, sb, e1, sb, (show s_X3_deal 8 0 S1 = _ from e2), sb]
    rcases p2 with ⟨q1, q2⟩ | ⟨q1, q2, q3⟩
    · rw [q1, i0e, sb]
      refine ⟨-2, ?_, Or.inl ⟨rfl, fun G hG => ?_⟩⟩
      · rw [if_neg (show ¬ ((-1 : Int32), S2).1 ≠ -1 from fun q => q rfl)]
      · have := p4 G (fun c hc => absurd hc (Nat.not_lt_zero _)) hG
        have := wc_5 (G := G) hW
        omega
    · rw [q1, i1e, sb, q2]
      refine ⟨nI b, ?_, Or.inr ⟨b, q3, rfl, ?_, fun G hG => p4 G (fun c hc => absurd hc (Nat.not_lt_zero _)) hG⟩⟩
      · rw [if_pos (show (nI b, S2).1 ≠ -1 from nI_nm (by omega))]
      · rcases p5 with q | ⟨H, hH, eH⟩
        · omega
        · exact ⟨H, hH, eH.symm⟩
  obtain ⟨v, eS, hv2⟩ := hv
  have evx := wv_uniq hv2 hx2
  rw [← evx] at eM
  exact ⟨v, S2, M1, eS, eM⟩
