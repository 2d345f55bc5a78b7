/-! words: both sides ask the same -/
def lu (u : Nat) : Nat := (strL.getD u []).length
def cu (u i : Nat) : Nat := ((strL.getD u []).getD i 0).toNatClampNeg
theorem cu_ok {u i : Nat} (hu : u < 8) (hi : i < lu u) : (strL.getD u [])[i]? = some (nI (cu u i)) ∧ 97 ≤ cu u i ∧ cu u i ≤ 122 := (by decide +kernel : ∀ u : Fin 8, ∀ i : Fin (lu u.val), (strL.getD u.val [])[i.val]? = some (nI (cu u.val i.val)) ∧ 97 ≤ cu u.val i.val ∧ cu u.val i.val ≤ 122) ⟨u, hu⟩ ⟨i, hi⟩
theorem lu_le {u : Nat} (hu : u < 8) : lu u ≤ 11 := (by decide +kernel : ∀ u : Fin 8, lu u.val ≤ 11) ⟨u, hu⟩
def wq (B : Nat → Nat) (s k u : Nat) : Prop := k = lu u ∧ ∀ i, i < lu u → B (s + i) = cu u i
theorem sB_neg {b : Nat} (h : b < 256) (h2 : 128 ≤ b) : sB b < 0 := (by decide +kernel : ∀ b : Fin 256, 128 ≤ b.val → sB b.val < 0) ⟨b, h⟩ h2
theorem sB_eq {b c : Nat} (hb : b < 256) (hc : c < 128) : sB b = nI c ↔ b = c := by
  by_cases h : b < 128
  · rw [sB_ld h, nI_eq (by omega) (by omega)]
  · constructor
    · intro z
      have := sB_neg hb (by omega)
      rw [z] at this
      exact absurd this (nI_pos (by omega))
    · intro z
      omega
theorem q_isW {S : HS} {B : Nat → Nat} {n kk p e : Nat} {u : UInt32} (hn : n ≤ 740) (hR : RdI S B n) (hu : u.toNat < 8) (h4 : gf S 2 4 = nI kk) (hk : kk ≤ 4) (h5 : gf S 2 5 = nI p) (h3 : gf S 2 3 = nI e) (hp : p ≤ e) (he : e ≤ n) : (kk = 1 ∧ wq B p (e - p) u.toNat ∧ s_X4_isWord u S = some 1) ∨ (¬ (kk = 1 ∧ wq B p (e - p) u.toNat) ∧ s_X4_isWord u S = some 0) := by
  have h11 := lu_le hu
  unfold s_X4_isWord
  rw [h4, h3, h5, show sLen u = some (nI (lu u.toNat)) from rfl, sb, pk_sub hp]
  by_cases c1 : kk = 1
  · rw [c1, if_neg (fun z => z rfl)]
    by_cases c2 : e - p = lu u.toNat
    · rw [if_pos (by rw [c2])]
      have L : ∀ (m i : Nat) (K : Nat), i + m = lu u.toNat → m < K → (∀ j, j < i → B (p + j) = cu u.toNat j) → (wq B p (e - p) u.toNat ∧ s_X4_isWord_L28 u S K (nI i) = some 1) ∨ (¬ wq B p (e - p) u.toNat ∧ s_X4_isWord_L28 u S K (nI i) = some 0) := by
        intro m
        induction m with
        | zero =>
          intro i K h1 h2 ha
          obtain ⟨K, rfl⟩ : ∃ k, K = k + 1 := ⟨K - 1, by omega⟩
          refine Or.inl ⟨⟨c2, fun j hj => ha j (by omega)⟩, ?_⟩
          rw [s_X4_isWord_L28, show sLen u = some (nI (lu u.toNat)) from rfl, sb, if_pos (nI_le (by omega) (by omega))]
        | succ m ih =>
          intro i K h1 h2 ha
          obtain ⟨K, rfl⟩ : ∃ k, K = k + 1 := ⟨K - 1, by omega⟩
          have hc := cu_ok hu (show i < lu u.toNat by omega)
          have hs : sAt u (nI i) = some (nI (cu u.toNat i)) := by
            unfold sAt
            rw [if_neg (nI_pos (by omega)), nI_clamp (by omega)]
            exact hc.1
          have hb := (hR.2.2.2 (p + i) (by omega)).1
          rw [s_X4_isWord_L28, show sLen u = some (nI (lu u.toNat)) from rfl, sb, if_neg (nI_ge (by omega) (by omega)), rc_ok hR.2.1, sb, h5, nI_add, tp_ag hR (by omega), sb, hs, sb, ← nI_succ]
          by_cases c3 : B (p + i) = cu u.toNat i
          · rw [if_pos ((sB_eq hb (by omega)).mpr c3)]
            refine ih (i + 1) K (by omega) (by omega) ?_
            intro j hj
            by_cases z : j = i
            · rw [z]
              exact c3
            · exact ha j (by omega)
          · rw [if_neg (fun z => c3 ((sB_eq hb (by omega)).mp z))]
            exact Or.inr ⟨fun z => c3 (z.2 i (by omega)), rfl⟩
      rcases L (lu u.toNat) 0 40 (by omega) (by omega) (fun j hj => by omega) with ⟨a, b⟩ | ⟨a, b⟩
      · exact Or.inl ⟨rfl, a, b⟩
      · exact Or.inr ⟨fun z => a z.2, b⟩
    · rw [if_neg (fun z => c2 ((nI_eq (by omega) (by omega)).mp z))]
      exact Or.inr ⟨fun z => c2 z.2.1, rfl⟩
  · rw [if_pos (show nI kk ≠ (1 : Int32) from fun z => c1 ((nI_eq (b := 1) (by omega) (by omega)).mp z))]
    exact Or.inr ⟨fun z => c1 z.1, rfl⟩
theorem lw_eq {B C : Nat → Nat} {s c : Nat} : ∀ (k l : Nat), lts B s k → (∀ i, i < l → 97 ≤ C (c + i)) → (lw B s k = lw C c l ↔ k = l ∧ ∀ i, i < l → B (s + i) = C (c + i)) := by
  intro k
  induction k with
  | zero =>
    intro l _ _
    cases l with
    | zero => exact ⟨fun _ => ⟨rfl, fun i hi => by omega⟩, fun _ => rfl⟩
    | succ l =>
      constructor
      · intro z
        cases z
      · intro z
        omega
  | succ k ih =>
    intro l hl hc
    cases l with
    | zero =>
      constructor
      · intro z
        cases z
      · intro z
        omega
    | succ l =>
      have h1 := lt_rng (hl k (by omega))
      have h2 := hc l (by omega)
      rw [lw, lw, List.cons.injEq, ih l (fun i hi => hl i (by omega)) (fun i hi => hc i (by omega))]
      constructor
      · rintro ⟨a, b, c⟩
        refine ⟨by omega, fun i hi => ?_⟩
        by_cases z : i = l
        · subst z
          subst b
          omega
        · exact c i (by omega)
      · rintro ⟨a, b⟩
        have ek : k = l := by omega
        subst ek
        have := b k (by omega)
        exact ⟨by omega, rfl, fun i hi => b i (by omega)⟩
theorem tkK_le {B : Nat → Nat} {n s : Nat} : tkK B n s ≤ 4 := by
  unfold tkK rk
  split
  · omega
  · split
    · omega
    · split
      · omega
      · split
        · omega
        · split
          · omega
          · split <;> omega
def wv (u : Nat) : Int64 := lN (bv (lw (cu u) 0 (lu u)))
theorem q_isM {M : HS} {B : Nat → Nat} {n s u : Nat} {c : Int64} (hu : u < 8) (hc : c = wv u) (hT : TkM B n s M) : (tkK B n s = 1 ∧ wq B s (tkE B n s - s) u ∧ s_X8_isWord c M = some 1) ∨ (¬ (tkK B n s = 1 ∧ wq B s (tkE B n s - s) u) ∧ s_X8_isWord c M = some 0) := by
  have h11 := lu_le hu
  unfold s_X8_isWord
  rw [hT.1]
  by_cases c1 : tkK B n s = 1
  · rw [c1, show nI (mk 1) = 2 from rfl, if_neg (fun z => z rfl)]
    obtain ⟨hl, hg⟩ := hT.2.2.2.2 c1
    generalize hk : tkE B n s - s = k at *
    have hlt : lts B s (min k 12) := fun i hi => hl i (by omega)
    have hlc : lts (cu u) 0 (lu u) := by
      intro i hi
      rw [Nat.zero_add]
      have := (cu_ok hu hi).2
      unfold isLt
      simp
      omega
    have b1 := bv_lt _ hlt
    have b2 := bv_lt _ hlc
    have p1 : 27 ^ (min k 12) ≤ 27 ^ 12 := Nat.pow_le_pow_right (by decide) (by omega)
    have p2 : 27 ^ (lu u) ≤ 27 ^ 12 := Nat.pow_le_pow_right (by decide) (by omega)
    have e : (gl M 137 = c) ↔ wq B s k u := by
      rw [hg, hc]
      unfold wv
      rw [pk_lEQ (by omega) (by omega)]
      constructor
      · intro z
        have z2 := bv_inj _ _ (lw_rng _ hlt) (lw_rng _ hlc) z
        have z3 := (lw_eq _ _ hlt (fun i hi => by rw [Nat.zero_add]; exact (cu_ok hu hi).2.1)).mp z2
        refine ⟨by omega, fun i hi => ?_⟩
        have := z3.2 i hi
        rw [Nat.zero_add] at this
        exact this
      · rintro ⟨z1, z2⟩
        congr 1
        refine (lw_eq _ _ hlt (fun i hi => by rw [Nat.zero_add]; exact (cu_ok hu hi).2.1)).mpr ⟨by omega, fun i hi => ?_⟩
        rw [Nat.zero_add]
        exact z2 i hi
    by_cases c2 : gl M 137 = c
    · rw [if_neg (fun z => z ((lg_cmp_eq _ _).mpr c2))]
      exact Or.inl ⟨rfl, e.mp c2, rfl⟩
    · rw [if_pos (fun z => c2 ((lg_cmp_eq _ _).mp z))]
      exact Or.inr ⟨fun z => c2 (e.mpr z.2), rfl⟩
  · rw [if_pos]
    · exact Or.inr ⟨fun z => c1 z.1, rfl⟩
    · exact (by decide : ∀ k : Fin 5, k.val ≠ 1 → nI (mk k.val) ≠ 2) ⟨tkK B n s, Nat.lt_succ_of_le tkK_le⟩ c1
theorem v_six {a b c d e f : Int32} : s_X8_six a b c d e f = some ((19683 : Int64) * ((((27 : Int64) * ((((27 : Int64) * (a.toInt64 - (96 : Int64))) + b.toInt64) - (96 : Int64))) + c.toInt64) - (96 : Int64)) + ((((27 : Int64) * ((((27 : Int64) * (d.toInt64 - (96 : Int64))) + e.toInt64) - (96 : Int64))) + f.toInt64) - (96 : Int64))) := rfl
theorem wv_0 : s_X8_six 116 97 110 107 101 114 = some (wv 0) := by decide +kernel
theorem wv_2 : s_X8_six 108 105 113 117 105 100 = some (wv 2) := by decide +kernel
theorem wv_3 : s_X8_three 98 97 114 = some (wv 3) := by decide +kernel
theorem wv_4 : s_X8_four 108 97 115 116 = some (wv 4) := by decide +kernel
theorem wv_5 : s_X8_four 100 114 111 112 = some (wv 5) := by decide +kernel
theorem wv_6 : s_X8_four 111 112 101 110 = some (wv 6) := by decide +kernel
/-! facts of tokens -/
theorem tkS_rng {B : Nat → Nat} {n a : Nat} (h : a ≤ n) : a ≤ tkS B n a ∧ tkS B n a ≤ n := by
  have := sk_ge (B := B) (n - a) a
  unfold tkS
  omega
theorem tkE_rng {B : Nat → Nat} {n s : Nat} (h : s ≤ n) : s ≤ tkE B n s ∧ tkE B n s ≤ n := by
  have := ru_ge (B := B) (n - s) s
  unfold tkE
  split
  · omega
  · split
    · omega
    · split <;> omega
theorem tkP_eq {B : Nat → Nat} {n s : Nat} (h : tkK B n s ≠ 0) : tkP n s = s := by
  unfold tkK at h
  unfold tkP
  split at h
  · omega
  · next z => rw [if_neg z]
theorem tkP_le {n s : Nat} (h : s ≤ n) : tkP n s ≤ n := by
  unfold tkP
  split <;> omega
theorem tkE_lt {B : Nat → Nat} {n s : Nat} (h : s ≤ n) (h0 : tkK B n s ≠ 0) (h4 : tkK B n s ≠ 4) : s < tkE B n s := by
  have := ru_ge (B := B) (n - s) s
  unfold tkK at h0 h4
  unfold tkE
  split at h0
  · omega
  · next z =>
    rw [if_neg z] at h4 ⊢
    split at h4
    · omega
    · next z2 =>
      rw [if_neg z2] at h0 ⊢
      split
      · omega
      · next z3 =>
        rw [if_neg z3] at h0
        unfold rk at h0
        split at h0
        · omega
        · omega
theorem dv_9999 {B : Nat → Nat} {n s : Nat} (h : tkK B n s = 2) : dvn B s (tkE B n s - s) ≤ 9999 := by
  unfold tkK at h
  unfold tkE
  split at h
  · omega
  · next z =>
    rw [if_neg z]
    split at h
    · omega
    · next z2 =>
      rw [if_neg z2]
      split at h
      · omega
      · next z3 =>
        rw [if_neg z3]
        unfold rk at h
        split at h
        · omega
        · split at h
          · omega
          · split at h
            · next q =>
              have h1 := dv_lt _ q.2
              have h2 : 10 ^ (ru B (n - s) s - s) ≤ 10 ^ 4 := Nat.pow_le_pow_right (by decide) q.1
              omega
            · omega
