/-! what always holds of the desk -/
def IvT (S : HS) (t : Nat) : Prop := (∃ n, n ≤ 5 ∧ gf S t 1 = nI n) ∧ (∃ n, n ≤ 6 ∧ gf S t 6 = nI n) ∧ (∃ n, n ≤ 4 ∧ gf S t 9 = nI n) ∧ ∀ i, i < 20 → ∃ q, q < 6 ∧ (ga S (t + 7)).getD i 0 = nI q
def IvD (S : HS) : Prop := LnD S ∧ (∃ n, n ≤ 740 ∧ gf S 0 1 = nI n) ∧ (∃ t, isT t ∧ gr S 0 4 = .ref t) ∧ (∃ t, isT t ∧ gr S 0 5 = .ref t) ∧ (∀ t, isT t → IvT S t) ∧ (∀ s, isS s → ∃ n, n ≤ 20 ∧ gf S s 1 = nI n) ∧ (∃ n, n < 10 ∧ gf S 30 1 = nI n) ∧ ∃ n, n ≤ 10 ∧ gf S 30 2 = nI n
theorem isT_num {t : Nat} (h : isT t) : t = 4 ∨ t = 13 := h
theorem isS_rng {s : Nat} (h : isS s) : s = 22 ∨ (32 ≤ s ∧ s ≤ 104) := (by decide : ∀ s ∈ [22, 32, 40, 48, 56, 64, 72, 80, 88, 96, 104], s = 22 ∨ (32 ≤ s ∧ s ≤ 104)) s h
theorem iv_of {S S1 : HS} (h : IvD S) (hL : LnD S1) (h0 : gf S1 0 1 = gf S 0 1) (hr : gr S1 0 4 = gr S 0 4) (hr5 : gr S1 0 5 = gr S 0 5) (hT : ∀ t j, isT t → gf S1 t j = gf S t j) (hT7 : ∀ t, isT t → ga S1 (t + 7) = ga S (t + 7)) (hS : ∀ s, isS s → ∃ n, n ≤ 20 ∧ gf S1 s 1 = nI n) (hH : ∃ n, n < 10 ∧ gf S1 30 1 = nI n) (hK : ∃ n, n ≤ 10 ∧ gf S1 30 2 = nI n) : IvD S1 := by
  obtain ⟨_, a, b, c, d, _, _, _⟩ := h
  refine ⟨hL, by rw [h0]; exact a, by rw [hr]; exact b, by rw [hr5]; exact c, fun t ht => ?_, hS, hH, hK⟩
  obtain ⟨d1, d2, d3, d4⟩ := d t ht
  refine ⟨by rw [hT _ _ ht]; exact d1, by rw [hT _ _ ht]; exact d2, by rw [hT _ _ ht]; exact d3, by rw [hT7 _ ht]; exact d4⟩
theorem iv_hi {W : Nat → Nat → Prop} {S S1 : HS} (h : IvD S) (f : Fr W S S1) (hw : ∀ k j, W k j → 112 ≤ k) : IvD S1 := by
  have e1 : ∀ k j, k < 112 → gf S1 k j = gf S k j := fun k j hk => (f.1 k j (fun z => by have := hw k j z; omega)).1
  have e2 : ∀ k j, k < 112 → gr S1 k j = gr S k j := fun k j hk => (f.1 k j (fun z => by have := hw k j z; omega)).2
  have e3 : ∀ k, k < 112 → ga S1 k = ga S k := fun k hk => f.2.2.1 k (fun z => by have := hw k _ z; omega)
  refine iv_of h (h.1.fr f) (e1 _ _ (by omega)) (e2 _ _ (by omega)) (e2 _ _ (by omega)) (fun t j ht => e1 _ _ (by have := isT_num ht; omega)) (fun t ht => e3 _ (by have := isT_num ht; omega)) (fun s hs => ?_) ?_ ?_
  · rw [e1 _ _ (by have := isS_rng hs; omega)]
    exact h.2.2.2.2.2.1 s hs
  · rw [e1 _ _ (by omega)]
    exact h.2.2.2.2.2.2.1
  · rw [e1 _ _ (by omega)]
    exact h.2.2.2.2.2.2.2
theorem iv_sa {S : HS} {k : Nat} {x : List Int32} (h : IvD S) (hx : x.length = ln k) (h1 : k ≠ 11) (h2 : k ≠ 20) : IvD (sa S k x) := by
  refine iv_of h (h.1.sa hx) rfl rfl rfl (fun t j ht => rfl) (fun t ht => ?_) h.2.2.2.2.2.1 h.2.2.2.2.2.2.1 h.2.2.2.2.2.2.2
  rw [ga_sa, if_neg]
  have := isT_num ht
  omega
theorem iv_st {S : HS} {k i : Nat} {x : Int32} (h : IvD S) (h1 : k ≠ 11) (h2 : k ≠ 20) : IvD (st S k i x) := by
  refine iv_of h h.1.st rfl rfl rfl (fun t j ht => rfl) (fun t ht => ?_) h.2.2.2.2.2.1 h.2.2.2.2.2.2.1 h.2.2.2.2.2.2.2
  rw [ga_st, if_neg]
  have := isT_num ht
  omega
theorem iv_sf {S : HS} {k j : Nat} {x : Int32} (h : IvD S) (h0 : k ≠ 0 ∨ j ≠ 1) (h1 : k ≠ 4 ∧ k ≠ 13) (h2 : j ≠ 1 ∨ 104 < k) (h3 : k ≠ 30) : IvD (sf S k j x) := by
  refine iv_of h h.1 ?_ rfl rfl (fun t j ht => ?_) (fun t ht => rfl) (fun s hs => ?_) ?_ ?_
  · rw [gf_sf, if_neg (by omega)]
  · rw [gf_sf, if_neg (by have := isT_num ht; omega)]
  · rw [gf_sf, if_neg (by have := isS_rng hs; omega)]
    exact h.2.2.2.2.2.1 s hs
  · rw [gf_sf, if_neg (by omega)]
    exact h.2.2.2.2.2.2.1
  · rw [gf_sf, if_neg (by omega)]
    exact h.2.2.2.2.2.2.2
theorem iv_sfS {S : HS} {s n : Nat} (h : IvD S) (hs : isS s) (hn : n ≤ 20) : IvD (sf S s 1 (nI n)) := by
  have hr := isS_rng hs
  refine iv_of h h.1 ?_ rfl rfl (fun t j ht => ?_) (fun t ht => rfl) (fun s' hs' => ?_) ?_ ?_
  · rw [gf_sf, if_neg (by omega)]
  · rw [gf_sf, if_neg (by have := isT_num ht; omega)]
  · rw [gf_sf]
    by_cases e : s' = s
    · rw [if_pos ⟨e, rfl⟩]
      exact ⟨n, hn, rfl⟩
    · rw [if_neg (fun z => e z.1)]
      exact h.2.2.2.2.2.1 s' hs'
  · rw [gf_sf, if_neg (by omega)]
    exact h.2.2.2.2.2.2.1
  · rw [gf_sf, if_neg (by omega)]
    exact h.2.2.2.2.2.2.2
theorem iv_h1 {S : HS} {n : Nat} (h : IvD S) (hn : n < 10) : IvD (sf S 30 1 (nI n)) := by
  refine iv_of h h.1 ?_ rfl rfl (fun t j ht => ?_) (fun t ht => rfl) (fun s' hs' => ?_) ⟨n, hn, ?_⟩ ?_
  · rw [gf_sf, if_neg (by omega)]
  · rw [gf_sf, if_neg (by have := isT_num ht; omega)]
  · rw [gf_sf, if_neg (by have := isS_rng hs'; omega)]
    exact h.2.2.2.2.2.1 s' hs'
  · rw [gf_sf, if_pos ⟨rfl, rfl⟩]
  · rw [gf_sf, if_neg (by omega)]
    exact h.2.2.2.2.2.2.2
theorem iv_h2 {S : HS} {n : Nat} (h : IvD S) (hn : n ≤ 10) : IvD (sf S 30 2 (nI n)) := by
  refine iv_of h h.1 ?_ rfl rfl (fun t j ht => ?_) (fun t ht => rfl) (fun s' hs' => ?_) ?_ ⟨n, hn, ?_⟩
  · rw [gf_sf, if_neg (by omega)]
  · rw [gf_sf, if_neg (by have := isT_num ht; omega)]
  · rw [gf_sf, if_neg (by have := isS_rng hs'; omega)]
    exact h.2.2.2.2.2.1 s' hs'
  · rw [gf_sf, if_neg (by omega)]
    exact h.2.2.2.2.2.2.1
  · rw [gf_sf, if_pos ⟨rfl, rfl⟩]
theorem iv_tp {S : HS} {n : Nat} (h : IvD S) (hn : n ≤ 740) : IvD (sf S 0 1 (nI n)) := by
  obtain ⟨a, b, c, d, e, f, g, k⟩ := h
  refine ⟨a, ⟨n, hn, ?_⟩, c, d, fun t ht => ?_, fun s' hs' => ?_, ?_, ?_⟩
  · rw [gf_sf, if_pos ⟨rfl, rfl⟩]
  · obtain ⟨d1, d2, d3, d4⟩ := e t ht
    have hn := isT_num ht
    refine ⟨?_, ?_, ?_, d4⟩
    · rw [gf_sf, if_neg (by omega)]
      exact d1
    · rw [gf_sf, if_neg (by omega)]
      exact d2
    · rw [gf_sf, if_neg (by omega)]
      exact d3
  · rw [gf_sf, if_neg (by have := isS_rng hs'; omega)]
    exact f s' hs'
  · rw [gf_sf, if_neg (by omega)]
    exact g
  · rw [gf_sf, if_neg (by omega)]
    exact k
/-! acts kept -/
def nxH (a : Nat) : Nat := if a = 9 then 0 else a + 1
def kpD (S : HS) (a k : Nat) : HS := sf (sf (cpS S (32 + 8 * a) 22) 30 1 (nI (nxH a))) 30 2 (nI (if k = 10 then 10 else k + 1))
theorem isS_row {a : Nat} (h : a < 10) : isS (32 + 8 * a) := (by decide : ∀ a : Fin 10, 32 + 8 * a.val ∈ [22, 32, 40, 48, 56, 64, 72, 80, 88, 96, 104]) ⟨a, h⟩
theorem gf_cpS {S : HS} {s r a j : Nat} (h : a ≠ s) : gf (cpS S s r) a j = gf S a j := by
  unfold cpS
  rw [gf_sf, if_neg (fun z => h z.1), gf_sa, gf_sa, gf_sf, if_neg (fun z => h z.1)]
  rfl
theorem w_keep {S : HS} {a k : Nat} (hL : LnD S) (ha : gf S 30 1 = nI a) (h9 : a < 10) (hk : gf S 30 2 = nI k) (h10 : k ≤ 10) : s_X1_keep S = some (kpD S a k) := by
  have eJ : ∀ x : Int32, s_X1_keep_J35 x (cpS S (32 + 8 * a) 22) = some (sf (sf (cpS S (32 + 8 * a) 22) 30 1 x) 30 2 (nI (if k = 10 then 10 else k + 1))) := by
    intro x
    unfold s_X1_keep_J35
    rw [pf_ok, sb, gf_sf, if_neg (by omega), gf_cpS (by omega), hk, pf_ok, sb]
    have e : mn (nI k + 1) (10 : Int32) = nI (if k = 10 then 10 else k + 1) := by
      unfold mn
      rw [← nI_succ, show (10 : Int32) = nI 10 from rfl]
      by_cases e : k = 10
      · rw [if_pos e, if_pos (nI_lt (by omega) (by omega))]
      · rw [if_neg e, if_neg (nI_nlt (by omega) (by omega))]
    rw [e]
  unfold s_X1_keep kpD
  rw [ha, rw_ok h9, sb, w_copyS hL (isS_row h9) mS22 (by omega), sb, gf_cpS (by omega), ha, ← nI_succ, eJ, eJ, show (10 : Int32) = nI 10 from rfl]
  unfold nxH
  by_cases e : a = 9
  · rw [if_pos (nI_le (by omega) (by omega)), if_pos e]
    rfl
  · rw [if_neg (nI_ge (by omega) (by omega)), if_neg e]
theorem ln_S {s i L : Nat} (hs : isS s) (h : ∀ s ∈ [22, 32, 40, 48, 56, 64, 72, 80, 88, 96, 104], ln (s + i) = L) : ln (s + i) = L := h s hs
theorem ln_C {s i L : Nat} (hs : isC s) (h : ∀ s ∈ [23, 33, 41, 49, 57, 65, 73, 81, 89, 97, 105, 112, 126], ln (s + i) = L) : ln (s + i) = L := h s hs
theorem iv_cpC {S : HS} {b c : Nat} (h : IvD S) (hb : isC b) (hc : isC c) : IvD (cpC S b c) := by
  have g := isC_ge hb
  unfold cpC
  refine iv_sa (iv_sa (iv_sa (iv_sa h ?_ (by omega) (by omega)) ?_ (by omega) (by omega)) ?_ (by omega) (by omega)) ?_ (by omega) (by omega)
  · rw [nC1 h.1 hc]
    exact (ln_C (i := 1) hb (by decide)).symm
  · rw [nC4 h.1 hc]
    exact (ln_C (i := 4) hb (by decide)).symm
  · rw [nC2 h.1 hc]
    exact (ln_C (i := 2) hb (by decide)).symm
  · rw [nC3 h.1 hc]
    exact (ln_C (i := 3) hb (by decide)).symm
theorem iv_cpS {S : HS} {s r : Nat} (h : IvD S) (hs : isS s) (hr : isS r) : IvD (cpS S s r) := by
  have g := isS_rng hs
  obtain ⟨n, hn, en⟩ := h.2.2.2.2.2.1 r hr
  unfold cpS
  rw [en]
  refine iv_sf (iv_sa (iv_sa (iv_sfS (iv_cpC h (isS_C hs) (isS_C hr)) hs hn) ?_ (by omega) (by omega)) ?_ (by omega) (by omega)) (by omega) (by omega) (Or.inl (by omega)) (by omega)
  · rw [nS6 h.1 hr]
    exact (ln_S (i := 6) hs (by decide)).symm
  · rw [nS7 h.1 hr]
    exact (ln_S (i := 7) hs (by decide)).symm
theorem iv_kpD {S : HS} {a k : Nat} (h : IvD S) (h9 : a < 10) (h10 : k ≤ 10) : IvD (kpD S a k) := by
  unfold kpD
  refine iv_h2 (iv_h1 (iv_cpS h (isS_row h9) mS22) ?_) ?_
  · unfold nxH
    split <;> omega
  · split <;> omega
theorem gf_kpD {S : HS} {a k c j : Nat} (h : c < 30) : gf (kpD S a k) c j = gf S c j := by
  unfold kpD
  rw [gf_sf, if_neg (by omega), gf_sf, if_neg (by omega), gf_cpS (by omega)]
theorem gr_kpD {S : HS} {a k c j : Nat} : gr (kpD S a k) c j = gr S c j := rfl
theorem gl_kpD {S : HS} {a k c : Nat} : gl (kpD S a k) c = gl S c := rfl
theorem ga_cpS {S : HS} {s r a : Nat} (h : a < s ∨ s + 7 < a) : ga (cpS S s r) a = ga S a := by
  unfold cpS
  rw [ga_sf, ga_sa, if_neg (by omega), ga_sa, if_neg (by omega), ga_sf, ga_cpC (by omega)]
theorem ga_kpD {S : HS} {a k c : Nat} (h : c < 32) : ga (kpD S a k) c = ga S c := by
  unfold kpD
  rw [ga_sf, ga_sf, ga_cpS (by omega)]
/-- keep, for whom the history is not looked at -/
theorem k_keep {S : HS} (h : IvD S) : ∃ S1, s_X1_keep S = some S1 ∧ IvD S1 ∧ (∀ c j, c < 30 → gf S1 c j = gf S c j) ∧ (∀ c j, gr S1 c j = gr S c j) ∧ (∀ c, gl S1 c = gl S c) ∧ ∀ c, c < 32 → ga S1 c = ga S c := by
  obtain ⟨a, h9, ha⟩ := h.2.2.2.2.2.2.1
  obtain ⟨k, h10, hk⟩ := h.2.2.2.2.2.2.2
  exact ⟨_, w_keep h.1 ha h9 hk h10, iv_kpD h h9 h10, fun c j hc => gf_kpD hc, fun c j => gr_kpD, fun c => gl_kpD, fun c hc => ga_kpD hc⟩
