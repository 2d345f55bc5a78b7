/-! what bars, alike; the bits of parts; may, without, would -/
theorem i1e {α : Type} {A B : α} : (if (1 : Int32) = 0 then A else B) = B := if_neg (by decide)
theorem i0e {α : Type} {A B : α} : (if (0 : Int32) = 0 then A else B) = A := if_pos rfl
theorem i1n {α : Type} {A B : α} : (if (1 : Int32) ≠ 0 then A else B) = A := if_pos (by decide)
theorem i0n {α : Type} {A B : α} : (if (0 : Int32) ≠ 0 then A else B) = B := if_neg (by decide)
theorem pf_lI {a : Nat} (h : a < 2 ^ 63) : (lN a).toInt = (a : Int) := lg_ofNat_toInt h
theorem pf_shr {a d : Nat} {D : Int64} (hD : (D.toBitVec.smod 64).toNat = d) (h : a < 2 ^ 62) : lN a >>> D = lN (a / 2 ^ d) := by
  have hd : a / 2 ^ d ≤ a := Nat.div_le_self _ _
  apply Int64.toInt_inj.mp
  have e : (lN a >>> D).toInt = (lN a).toInt >>> d := by
    rw [← hD]
    exact BitVec.toInt_sshiftRight ..
  rw [e, Int.shiftRight_eq_div_pow, pf_lI (by omega), pf_lI (by omega)]
  rfl
theorem bd_ix {k : Nat} (h : k < 64) : ((lN k &&& (63 : Int64)).toBitVec.smod 64).toNat = k := (by decide +kernel : ∀ k : Fin 64, ((lN k.val &&& (63 : Int64)).toBitVec.smod 64).toNat = k.val) ⟨k, h⟩
theorem and1_l {n : Nat} (h : n < 2 ^ 62) : lN n &&& (1 : Int64) = lN (n % 2) := by
  apply Int64.toBitVec_inj.mp
  apply BitVec.eq_of_toNat_eq
  have h2 : n % 2 < 2 := Nat.mod_lt _ (by decide)
  rw [Int64.toBitVec_and, BitVec.toNat_and, lN_tn (by omega), lN_tn (by omega)]
  exact Nat.and_two_pow_sub_one_eq_mod n 1
theorem nI_nm {a : Nat} (h : a < 2 ^ 31) : ¬ nI a = (-1 : Int32) := fun z => by
  have hp := nI_pos (n := a) h
  rw [z] at hp
  exact hp (by decide)
theorem br_eq {S : HS} {t a b : Nat} {A : Nat → Nat} (h : RBr S t A) (ha : a < 6) (hb : b < 6) : brD t (nI a) (nI b) S = (A (21 + a)).testBit b := by
  obtain ⟨m, hm, hg, hbit⟩ := h
  have hk : 6 * a + b < 36 := by omega
  have e1 : ((nI a * (6 : Int32)) + nI b).toInt64 = lN (6 * a + b) := by
    rw [show (6 : Int32) = nI 6 from rfl, pk_mul, nI_add, nI_l (by omega), show a * 6 + b = 6 * a + b by omega]
  have hd : m / 2 ^ (6 * a + b) ≤ m := Nat.div_le_self _ _
  have e2 : (lN m >>> (lN (6 * a + b) &&& (63 : Int64))) &&& (1 : Int64) = lN (m / 2 ^ (6 * a + b) % 2) := by
    rw [pf_shr (bd_ix (by omega)) (by omega), and1_l (by omega)]
  unfold brD
  rw [hg, e1, e2, decide_eq_false (nI_nm (a := a) (by omega)), ← hbit a b ha hb, Nat.testBit_eq_decide_div_mod_eq]
  have h2 : m / 2 ^ (6 * a + b) % 2 < 2 := Nat.mod_lt _ (by decide)
  by_cases z : m / 2 ^ (6 * a + b) % 2 = 1
  · rw [z, decide_eq_false (show ¬ lg_cmp (lN 1) (0 : Int64) = (0 : Int32) from by decide)]
    rfl
  · rw [show m / 2 ^ (6 * a + b) % 2 = 0 by omega, decide_eq_true (show lg_cmp (lN 0) (0 : Int64) = (0 : Int32) from by decide)]
    rfl
/-- barred: what was last in c bars the liquid b -/
def bA (A : Nat → Nat) (c b : Nat) : Bool := !decide (A (32 + 6 * c) = 0) && (A (21 + (A (32 + 6 * c) - 1))).testBit b
theorem br_bA {S : HS} {t c b : Nat} {A : Nat → Nat} (h : RBr S t A) (hR : RgA A) (hc : c < 5) (hb : b < 6) : brD t (dn (A (32 + 6 * c))) (nI b) S = bA A c b := by
  have h1 := hR.2.2.2.2.2.2.2.2.2.1 c hc
  have h2 := hR.2.1
  unfold bA
  by_cases z : A (32 + 6 * c) = 0
  · rw [z, dn_0, decide_eq_true (show (0 : Nat) = 0 from rfl)]
    unfold brD
    rw [decide_eq_true (show (-1 : Int32) = -1 from rfl)]
    rfl
  · obtain ⟨l, el⟩ : ∃ p, A (32 + 6 * c) = p + 1 := ⟨A (32 + 6 * c) - 1, by omega⟩
    rw [el, dn_s, br_eq h (by omega) hb, decide_eq_false (show ¬ l + 1 = 0 by omega), show l + 1 - 1 = l by omega]
    rfl
theorem q_lastIn {M : HS} {A : Nat → Nat} {c : Nat} (hL : LnM M) (hM : RMt M 139 A) (hW : Wf A) (hc : c < A 9) : s_X8_lastIn (nI c) M = some (dn (A (32 + 6 * c))) := by
  have hf0 : ∀ i, i < 157 → fM M i = nI (A i) := hM
  have h5 := hW.1.1
  have ho := (hW.2.2.1 c hc).2.2.1
  have h13 := hW.1.2.2.2.2.1
  unfold s_X8_lastIn
  rw [q_holds hL (by omega) (x := 4) (k := 4) (by omega) rfl, sb, q_holds hL (by omega) (x := 5) (k := 5) (by omega) rfl, sb, sb, hf0 (27 + 4 + 6 * c) (by omega), hf0 (27 + 5 + 6 * c) (by omega)]
  by_cases z : A (31 + 6 * c) = 0
  · rw [show A (27 + 4 + 6 * c) = 0 from z, if_pos (by decide)]
    rfl
  · obtain ⟨o, eo⟩ : ∃ p, A (31 + 6 * c) = p + 1 := ⟨A (31 + 6 * c) - 1, by omega⟩
    have el : A (32 + 6 * c) = A (57 + 5 * o) + 1 := by
      rw [(hW.2.2.1 c hc).2.2.2 z]
      unfold lqA
      rw [if_neg z, eo]
      rfl
    rw [show A (27 + 4 + 6 * c) = o + 1 from eo, if_neg (show ¬ nI (o + 1) ≤ 0 from nI_ge (a := 0) (b := o + 1) (by omega) (by omega)), nI_pred, q_its hL (by omega) (x := 0) (k := 0) (by omega) rfl, sb, hf0 (57 + 0 + 5 * o) (by omega), el, dn_s]
theorem q_mayCome {M : HS} {A : Nat → Nat} {c b : Nat} (hL : LnM M) (hM : RMt M 139 A) (hW : Wf A) (hc : c < A 9) (hb : b < 6) : s_X8_mayCome (nI c) (nI b) 0 M = some (z1 (!bA A c b)) := by
  have hf0 : ∀ i, i < 157 → fM M i = nI (A i) := hM
  have h5 := hW.1.1
  have h1 := hW.1.2.2.2.2.2.2.2.2.2.1 c (by omega)
  have h2 := hW.1.2.1
  have h64 := hW.1.2.2.2.2.2.2.2.2.2.2.1
  unfold s_X8_mayCome bA
  rw [q_has, sb, show hasB 0 (nI c) = false from (by decide : ∀ j : Fin 5, hasB 0 (nI j.val) = false) ⟨c, by omega⟩, if_neg (show ¬ z1 false ≠ 0 by decide), q_lastIn hL hM hW hc, sb, sb]
  by_cases z : A (32 + 6 * c) = 0
  · rw [z, dn_0, if_pos rfl, decide_eq_true (show (0 : Nat) = 0 from rfl)]
    rfl
  · obtain ⟨l, el⟩ : ∃ p, A (32 + 6 * c) = p + 1 := ⟨A (32 + 6 * c) - 1, by omega⟩
    have hl := h64 l (by omega)
    rw [el, dn_s, if_neg (nI_nm (a := l) (by omega)), show (21 : Int32) + nI l = nI (21 + l) from nI_add 21 l, m_at hL rfl (by omega), sb, hf0 (21 + l) (by omega), q_has, sb, hasB_nI (by omega) (by omega), decide_eq_false (show ¬ l + 1 = 0 by omega), show l + 1 - 1 = l by omega]
    cases (A (21 + l)).testBit b with
    | true => rfl
    | false => rfl
theorem m_isLiq {M : HS} {N : Nat} {v : Int32} (hL : LnM M) (h9 : fM M 10 = nI N) (h5 : N ≤ 6) : (∃ c, c < N ∧ v = nI c ∧ s_X8_isLiquid v M = some 1) ∨ (s_X8_isLiquid v M = some 0 ∧ ∀ c, c < N → v ≠ nI c) := by
  unfold s_X8_isLiquid
  rw [m_at hL (x := 10) (i := 10) rfl (by omega), sb, h9]
  rcases in_iff (v := v) (N := N) (by omega) with ⟨c, hc, e, g⟩ | ⟨g, hc⟩
  · exact Or.inl ⟨c, hc, e, by rw [g]; rfl⟩
  · exact Or.inr ⟨by rw [g]; rfl, hc⟩
theorem e_may {S M : HS} {t : Nat} {A : Nat → Nat} {a b : Int32} (h : FS S M t A) : ∃ v, s_X7_may a b S = some v ∧ s_X8_may a b M = some (v, sf M 137 0 0) := by
  have h := h.thrown (x := 0)
  obtain ⟨hL, hLM, hr, ht, hT, ⟨_, _, hC, _⟩, hM, hW⟩ := h
  have h5 := hW.1.1
  have h6 := hW.1.2.1
  have hf0 : ∀ i, i < 157 → fM (sf M 137 0 0) i = nI (A i) := hM
  unfold s_X7_may s_X8_may
  rw [pf_ok, sb, tl_ok hr ht]
  rcases q_hasC (v := a) hT.1 h5 with ⟨c, hc, rfl, g⟩ | ⟨g, n1⟩
  · rcases m_isHold (v := nI c) hLM (hf0 9 (by omega)) h5 with ⟨c', _, _, g'⟩ | ⟨_, n1⟩
    · rcases q_hasL (v := b) hT.2.1 h6 with ⟨l, hl, rfl, gl⟩ | ⟨gl, nl⟩
      · rcases m_isLiq (v := nI l) hLM (hf0 10 (by omega)) h6 with ⟨l', _, _, gl'⟩ | ⟨_, nl⟩
        · refine ⟨z1 (!bA A c l), ?_, ?_⟩
          · simp only [sb]
            rw [g, sb, if_neg (by decide), gl, sb, if_neg (by decide), ag_ok (nD26 hL) (by omega) (by omega), sb, show (ga S 26).getD c 0 = _ from (hC c (by omega)).2.2.1, q_barred, sb, br_bA hT.2.2.2.2.2.1 hW.1 (by omega) (by omega)]
            cases bA A c l with
            | true => rfl
            | false => rfl
          · rw [g', sb, if_neg (by decide), gl', sb, if_neg (by decide), q_mayCome hLM hM hW hc (by omega), sb]
            cases bA A c l with
            | true => rfl
            | false => rfl
        · exact absurd rfl (nl l hl)
      · rcases m_isLiq (v := b) hLM (hf0 10 (by omega)) h6 with ⟨l', hl', e', gl'⟩ | ⟨gl', _⟩
        · exact absurd e' (nl l' hl')
        · refine ⟨0, ?_, ?_⟩
          · simp only [sb]
            rw [g, sb, if_neg (by decide), gl, sb, if_pos rfl]
          · rw [g', sb, if_neg (by decide), gl', sb, if_pos rfl]
    · exact absurd rfl (n1 c hc)
  · rcases m_isHold (v := a) hLM (hf0 9 (by omega)) h5 with ⟨c', hc', e', g'⟩ | ⟨g', _⟩
    · exact absurd e' (n1 c' hc')
    · refine ⟨0, ?_, ?_⟩
      · simp only [sb]
        rw [g, sb, if_pos rfl]
      · rw [g', sb, if_pos rfl]
theorem up_last {α : Type} {f : Nat → α → α} : ∀ (m j : Nat) (a : α), up f (m + 1) j a = f (j + m) (up f m j a) := by
  intro m
  induction m with
  | zero =>
    intro j a
    rfl
  | succ m ih =>
    intro j a
    show up f (m + 1) (j + 1) (f j a) = f (j + (m + 1)) (up f m (j + 1) (f j a))
    rw [ih, show j + 1 + m = j + (m + 1) by omega]
theorem pD_bits {S : HS} {b : Nat} {v : Int32} : ∃ p, p < 32 ∧ pD b v S = nI p ∧ ∀ c, c < 5 → p.testBit c = decide ((ga S (b + 2)).getD c 0 = v) := by
  have lp : ∀ n, n ≤ 5 → ∃ p, p < 32 ∧ up (fun j a => if (ga S (b + 2)).getD j 0 = v then a ||| ((1 : Int32) <<< ((nI j) &&& (31 : Int32))) else a) n 0 0 = nI p ∧ ∀ c, p.testBit c = (decide (c < n) && decide ((ga S (b + 2)).getD c 0 = v)) := by
    intro n
    induction n with
    | zero =>
      intro _
      refine ⟨0, by omega, rfl, fun c => ?_⟩
      rw [Nat.zero_testBit, decide_eq_false (show ¬ c < 0 by omega)]
      rfl
    | succ n ih =>
      intro hn
      obtain ⟨p, hp, e, hb⟩ := ih (by omega)
      rw [up_last, e, Nat.zero_add]
      by_cases z : (ga S (b + 2)).getD n 0 = v
      · refine ⟨p ||| 2 ^ n, or_lt32 hp (by omega), ?_, fun c => ?_⟩
        · rw [if_pos z, or_ix hp (by omega)]
        · rw [Nat.testBit_or, Nat.testBit_two_pow, hb c]
          by_cases y : n = c
          · subst y
            rw [decide_eq_true z, decide_eq_true (show n = n from rfl), decide_eq_true (show n < n + 1 by omega), Bool.or_true]
            rfl
          · rw [decide_eq_false y, Bool.or_false, show decide (c < n) = decide (c < n + 1) from decide_eq_decide.mpr (by omega)]
      · refine ⟨p, hp, ?_, fun c => ?_⟩
        · rw [if_neg z]
        · rw [hb c]
          by_cases y : n = c
          · subst y
            rw [decide_eq_false z, Bool.and_false, Bool.and_false]
          · rw [show decide (c < n) = decide (c < n + 1) from decide_eq_decide.mpr (by omega)]
  obtain ⟨p, hp, e, hb⟩ := lp 5 (by omega)
  refine ⟨p, hp, e, fun c hc => ?_⟩
  rw [hb c, decide_eq_true hc, Bool.true_and]
theorem rg_of {M : HS} {N p g : Nat} {O : Nat → Nat} (h5 : N ≤ 5) (hp : p < 2 ^ 31) (hg : g < 2 ^ 31) (h144 : ∀ c, c < N → (ga M 144).getD c 0 = dn (O c) ∧ O c ≤ 20) (hb : ∀ c, c < N → (p.testBit c = true ↔ O c ≠ 0 ∧ g.testBit (O c - 1) = true)) : RG M N (nI p) (nI g) := by
  intro c hc
  obtain ⟨e, ho⟩ := h144 c hc
  rw [e, bt_nI hp (by omega), hb c hc]
  by_cases z : O c = 0
  · rw [z, dn_0]
    constructor
    · intro y
      exact absurd rfl y.1
    · intro y
      exact absurd rfl y.1
  · obtain ⟨o, eo⟩ : ∃ q, O c = q + 1 := ⟨O c - 1, by omega⟩
    rw [eo, dn_s, hasB_nI hg (by omega), show o + 1 - 1 = o by omega]
    constructor
    · intro y
      exact ⟨nI_nm (by omega), y.2⟩
    · intro y
      exact ⟨by omega, y.2⟩
theorem e_gone {S M M' : HS} {t d : Nat} {A : Nat → Nat} (h : FS S M t A) (hLM : LnM M') (hM : RMt M' 139 A) (hp : PL M' (A 9) (lqA A)) (hP : RP S M' 23 (A 9) (lqA A)) (h144 : ∀ c, c < A 9 → (ga M' 144).getD c 0 = dn (A (31 + 6 * c))) (hd : d < 20) : ∃ z, s_X0_standing 23 t (pD 23 (nI d) S) S = some z ∧ s_X8_stands ((1 : Int32) <<< ((nI d) &&& (31 : Int32))) M' = some z := by
  have hW := h.2.2.2.2.2.2.2
  have h5 := hW.1.1
  obtain ⟨p, hp32, ep, hb⟩ := pD_bits (S := S) (b := 23) (v := nI d)
  have h2 : 2 ^ d < 2 ^ 20 := Nat.pow_lt_pow_right (by decide) hd
  have hG : RG M' (A 9) (nI p) (nI (2 ^ d)) := by
    refine rg_of (O := fun c => A (31 + 6 * c)) h5 (by omega) (by omega) (fun c hc => ⟨h144 c hc, hW.o20 (by omega)⟩) (fun c hc => ?_)
    have ho : A (31 + 6 * c) ≤ 20 := hW.o20 (by omega)
    rw [hb c (by omega), show (ga S (23 + 2)).getD c 0 = _ from (h.2.2.2.2.2.1.2.2.1 c (by omega)).2.1, Nat.testBit_two_pow, decide_eq_true_iff, decide_eq_true_iff, dn_eq (by omega) (by omega)]
    omega
  obtain ⟨_, _, z, _, _, _, _, e1, e2⟩ := e_front h hLM hM hp hP hG
  refine ⟨z, ?_, ?_⟩
  · rw [ep]
    exact e1
  · rw [bit_shl (by omega)]
    exact e2
theorem m_isSo {S M : HS} {t : Nat} {A : Nat → Nat} {v : Int32} {w : Nat} (h : FS S M t A) (hw : w < 4) : (∃ d, d < A 13 ∧ v = nI d ∧ A (59 + 5 * d) = w ∧ s_X7_isSo v (nI w) S = some 1 ∧ s_X8_isDrop v M = some 1) ∨ (s_X7_isSo v (nI w) S = some 0 ∧ ((∃ d, d < A 13 ∧ v = nI d ∧ A (59 + 5 * d) ≠ w ∧ s_X8_isDrop v M = some 1) ∨ s_X8_isDrop v M = some 0)) := by
  have hho := fun d hd => how_eq (d := d) h hd
  obtain ⟨hL, hLM, hr, ht, hT, ⟨h13, _, hC, _⟩, hM, hW⟩ := h
  have h20 := hW.1.2.2.2.2.1
  have hf0 : ∀ i, i < 157 → fM M i = nI (A i) := hM
  unfold s_X7_isSo
  rcases q_hasD (v := v) h13 h20 with ⟨d, hd, rfl, e⟩ | ⟨e, hno⟩
  · have g : s_X8_isDrop (nI d) M = some 1 := by
      rcases m_isDrp (v := nI d) hLM (hf0 13 (by omega)) h20 with ⟨c, _, _, g⟩ | ⟨_, n1⟩
      · exact g
      · exact absurd rfl (n1 d hd)
    have hs : A (59 + 5 * d) ≤ 3 := by
      rcases hW.2.2.2.1 d hd with q | q | q
      · omega
      · omega
      · omega
    rw [e, sb, if_neg (by decide), tl_ok hr ht, sb, q_how hL ht (by omega), sb, hho d hd]
    by_cases c : A (59 + 5 * d) = w
    · rw [c, if_neg (fun z => z rfl)]
      exact Or.inl ⟨d, hd, rfl, c, rfl, g⟩
    · rw [if_pos (show nI (A (59 + 5 * d)) ≠ nI w from fun z => c ((nI_eq (by omega) (by omega)).mp z))]
      exact Or.inr ⟨rfl, Or.inl ⟨d, hd, rfl, c, g⟩⟩
  · rw [e, sb, if_pos rfl]
    refine Or.inr ⟨rfl, Or.inr ?_⟩
    rcases m_isDrp (v := v) hLM (hf0 13 (by omega)) h20 with ⟨c, hc, ec, _⟩ | ⟨g, _⟩
    · exact absurd ec (hno c hc)
    · exact g
theorem e_without {S M : HS} {t : Nat} {A : Nat → Nat} {a : Int32} (h : FS S M t A) : ∃ v M1, s_X7_without a S = some v ∧ s_X8_without a M = some (v, M1) := by
  have h := h.thrown (x := 0)
  obtain ⟨M', e, f, hLM', hM', hPL, hRP, h144⟩ := fs_paper h
  have h20 := h.2.2.2.2.2.2.2.1.2.2.2.2.1
  unfold s_X7_without s_X8_without
  rw [pf_ok, sb]
  rcases m_isSo (v := a) (w := 1) h (by omega) with ⟨d, hd, rfl, es, e1, e2⟩ | ⟨e1, q⟩
  · obtain ⟨z, z1, z2⟩ := e_gone (d := d) h hLM' hM' hPL hRP h144 (by omega)
    obtain ⟨hL, hLM, hr, ht, _, _, hM, _⟩ := h
    refine ⟨z, M', ?_, ?_⟩
    · rw [(show s_X7_isSo (nI d) 1 S = some 1 from e1), sb, if_pos (by decide), tl_ok hr ht, sb, q_partsOf (b := 23) (nD25 hL), sb, z1, sb]
    · rw [e2, sb, if_neg (by decide), q_its hLM (by omega) (x := 2) (k := 2) (by omega) rfl, sb, (show fM (sf M 137 0 0) (57 + 2 + 5 * d) = nI 1 from by rw [← es]; exact hM (59 + 5 * d) (by omega)), if_pos (by decide), e, sb, z2, sb]
  · refine ⟨-1, sf M 137 0 0, ?_, ?_⟩
    · rw [(show s_X7_isSo a 1 S = some 0 from e1), sb, if_neg (by decide)]
    · obtain ⟨hL, hLM, hr, ht, _, _, hM, hW⟩ := h
      rcases q with ⟨d, hd, rfl, en, e2⟩ | e2
      · have hs : A (59 + 5 * d) ≤ 3 := by
          rcases hW.2.2.2.1 d hd with q | q | q
          · omega
          · omega
          · omega
        rw [e2, sb, if_neg (by decide), q_its hLM (by omega) (x := 2) (k := 2) (by omega) rfl, sb, (show fM (sf M 137 0 0) (57 + 2 + 5 * d) = nI (A (59 + 5 * d)) from hM (59 + 5 * d) (by omega)), if_neg (show ¬ nI (A (59 + 5 * d)) = 1 from fun z => en ((nI_eq (b := 1) (by omega) (by omega)).mp z))]
      · rw [e2, sb, if_pos rfl]
theorem e_would {S M : HS} {t : Nat} {A : Nat → Nat} {a b x : Int32} (h : FS S M t A) : ∃ v S1 M1, s_X7_would a b x S = some (v, S1) ∧ s_X8_would a b x M = some (v, M1) := by
  have h := h.thrown (x := 0)
  obtain ⟨M', e, f, hLM', hM', hPL, hRP, h144⟩ := fs_paper h
  obtain ⟨hL, hLM, hr, ht, hT, ⟨_, _, hC, _⟩, hM, hW⟩ := h
  have h5 := hW.1.1
  have h6 := hW.1.2.1
  have hn := isT_num ht
  have hf0 : ∀ i, i < 157 → fM (sf M 137 0 0) i = nI (A i) := hM
  unfold s_X7_would s_X8_would
  rw [pf_ok, sb, tl_ok hr ht]
  rcases q_hasC (v := a) hT.1 h5 with ⟨c, hc, rfl, g⟩ | ⟨g, n1⟩
  · rcases m_isHold (v := nI c) hLM (hf0 9 (by omega)) h5 with ⟨c', _, _, g'⟩ | ⟨_, n1⟩
    · rcases q_hasL (v := b) hT.2.1 h6 with ⟨l, hl, rfl, gl⟩ | ⟨gl, nl⟩
      · rcases m_isLiq (v := nI l) hLM (hf0 10 (by omega)) h6 with ⟨l', _, _, gl'⟩ | ⟨_, nl⟩
        · have ec : (ga S (t + 2)).getD c 0 = nI (A (27 + 6 * c)) := (hT.2.2.2.1 c hc).1
          have hcap := hW.1.2.2.2.2.2.2.2.2.1 c hc
          simp only [sb]
          rw [g, sb, i1e, gl, sb, i1e, g', sb, i1e, gl', sb, i1e, ag_ok (nT2 hL ht) (by omega) (by omega), sb, ec, q_holds hLM (by omega) (x := 0) (k := 0) (by omega) rfl, sb, hf0 (27 + 0 + 6 * c) (by omega), q_isInM, sb]
          by_cases x1 : x < 0
          · refine ⟨-1, S, sf M 137 0 0, ?_, ?_⟩
            · rw [if_pos x1]
            · rw [if_neg (show ¬ (¬ x < 0 ∧ ¬ nI (A (27 + 0 + 6 * c)) < x) from fun z => z.1 x1), if_neg (by decide)]
          · obtain ⟨q, hq, rfl⟩ := nI_of x1
            by_cases x2 : q ≤ A (27 + 6 * c)
            · have hL2 : LnD (layC (cpC S 112 23) 112 t c (-1) l (nI q)) := by
                intro k hk
                have e0 : (ga (cpC S 112 23) k).length = ln k := by
                  unfold cpC
                  rw [ga_sa]
                  by_cases y3 : k = 115
                  · rw [if_pos y3, y3]
                    exact (nD26 hL)
                  rw [if_neg y3, ga_sa]
                  by_cases y2 : k = 114
                  · rw [if_pos y2, y2]
                    exact (nD25 hL)
                  rw [if_neg y2, ga_sa]
                  by_cases y4 : k = 116
                  · rw [if_pos y4, y4]
                    exact (nD27 hL)
                  rw [if_neg y4, ga_sa]
                  by_cases y1 : k = 113
                  · rw [if_pos y1, y1]
                    exact (nD24 hL)
                  rw [if_neg y1]
                  exact hL k hk
                unfold layC
                rw [len_st, len_st, len_st, len_st]
                exact e0
              have hLc : LnD (cpC S 112 23) := fun k hk => by
                have e1 := hL2 k hk
                unfold layC at e1
                rw [len_st, len_st, len_st, len_st] at e1
                exact e1
              have c1 : ga (cpC S 112 23) 113 = ga S 24 := by
                unfold cpC
                rw [ga_sa, if_neg (by omega), ga_sa, if_neg (by omega), ga_sa, if_neg (by omega), ga_sa, if_pos rfl]
              have c4 : ga (cpC S 112 23) 116 = ga S 27 := by
                unfold cpC
                rw [ga_sa, if_neg (by omega), ga_sa, if_neg (by omega), ga_sa, if_pos rfl]
              have hT2 : RDt (layC (cpC S 112 23) 112 t c (-1) l (nI q)) t A := hT.keep (fun j => rfl) rfl (fun i hi => by
                unfold layC
                rw [ga_st_ne (by omega), ga_st_ne (by omega), ga_st_ne (by omega), ga_st_ne (by omega), ga_cpC (by omega)])
              have hL3 : LnM (st (st (st M' 142 c (nI q)) 143 c (nI l)) 144 c (-1)) := hLM'.st.st.st
              have hM3 : RMt (st (st (st M' 142 c (nI q)) 143 c (nI l)) 144 c (-1)) 139 A := by
                intro i hi
                rw [ga_st_ne (by omega), ga_st_ne (by omega), ga_st_ne (by omega)]
                exact hM' i hi
              have hd6 : ga (cpC S 112 23) (t + 6) = ga S (t + 6) := ga_cpC (by omega)
              have hP3 : RP (layC (cpC S 112 23) 112 t c (-1) l (nI q)) (st (st (st M' 142 c (nI q)) 143 c (nI l)) 144 c (-1)) 112 (A 9) (fun i => if i = c then l else lqA A i) := by
                intro i hi
                dsimp only
                have e15 : ∀ j, j < 157 → fM (st (st (st M' 142 c (nI q)) 143 c (nI l)) 144 c (-1)) j = nI (A j) := hM3
                by_cases z : i = c
                · subst z
                  have m2 : (ga (st (st (st M' 142 i (nI q)) 143 i (nI l)) 144 i (-1)) 142).getD i 0 = nI q := by
                    rw [gd_st (by omega), gd_st (by omega), gd_st_eq (nM142 hLM') (by omega)]
                  refine ⟨⟨q, by omega, m2⟩, ?_, ?_⟩
                  · rw [m2]
                    unfold layC
                    rw [gd_st (by omega), gd_st (by omega), gd_st (by omega), gd_st_eq (k := 112 + 1) (nC1 hLc mC112) (by omega)]
                  · rw [m2, if_pos rfl, e15 (15 + l) (by omega)]
                    unfold layC
                    rw [gd_st (by omega), gd_st (by omega), gd_st_eq (k := 112 + 4) (nC4 hLc.st mC112) (by omega), hd6, hT.2.2.2.2.1 l hl]
                · have m2 : (ga (st (st (st M' 142 c (nI q)) 143 c (nI l)) 144 c (-1)) 142).getD i 0 = (ga M' 142).getD i 0 := by
                    rw [gd_st (by omega), gd_st (by omega), gd_st (by omega)]
                  obtain ⟨r1, r2, r3⟩ := hRP i hi
                  refine ⟨?_, ?_, ?_⟩
                  · rw [m2]
                    exact r1
                  · rw [m2]
                    unfold layC
                    rw [gd_st (by omega), gd_st (by omega), gd_st (by omega), gd_st (by omega), c1]
                    exact r2
                  · rw [m2, if_neg z, e15 (15 + lqA A i) (by have := lq_6 hW hi; omega), ← (show fM M' (15 + lqA A i) = nI (A (15 + lqA A i)) from hM' (15 + lqA A i) (by have := lq_6 hW hi; omega))]
                    unfold layC
                    rw [gd_st (by omega), gd_st (by omega), gd_st (by omega), gd_st (by omega), c4]
                    exact r3
              have hPL3 : PL (st (st (st M' 142 c (nI q)) 143 c (nI l)) 144 c (-1)) (A 9) (fun i => if i = c then l else lqA A i) := by
                intro i hi
                dsimp only
                by_cases z : i = c
                · subst z
                  rw [gd_st (by omega), gd_st_eq (nM143 hLM'.st) (by omega)]
                  exact ⟨by rw [if_pos rfl]; omega, by rw [if_pos rfl]⟩
                · rw [gd_st (by omega), gd_st (by omega), gd_st (by omega)]
                  refine ⟨?_, ?_⟩
                  · rw [if_neg z]
                    exact (hPL i hi).1
                  · rw [if_neg z]
                    exact (hPL i hi).2
              have hG : RG (st (st (st M' 142 c (nI q)) 143 c (nI l)) 144 c (-1)) (A 9) 0 0 := by
                refine rg_of (p := 0) (g := 0) (O := fun i => if i = c then 0 else A (31 + 6 * i)) h5 (by omega) (by omega) (fun i hi => ?_) (fun i hi => ?_)
                · by_cases z : i = c
                  · subst z
                    rw [gd_st_eq (nM144 hLM'.st.st) (by omega), if_pos rfl]
                    exact ⟨dn_0.symm, by omega⟩
                  · rw [gd_st (by omega), gd_st (by omega), gd_st (by omega), if_neg z]
                    exact ⟨h144 i hi, hW.o20 (by omega)⟩
                · rw [Nat.zero_testBit, Nat.zero_testBit]
                  constructor
                  · intro y
                    cases y
                  · intro y
                    cases y.2
              obtain ⟨_, _, e3⟩ := st_eq rfl h5 hT2 hM3 hP3 hG
              refine ⟨stD 112 t 0 (layC (cpC S 112 23) 112 t c (-1) l (nI q)) (A 9), layC (cpC S 112 23) 112 t c (-1) l (nI q), st (st (st M' 142 c (nI q)) 143 c (nI l)) 144 c (-1), ?_, ?_⟩
              · rw [if_neg x1, if_pos (nI_le x2 (by omega)), w_copyC hL mC112 mC23 (by omega), sb, show gr (cpC S 112 23) 0 4 = gr S 0 4 from rfl, tl_ok hr ht, sb, w_lay hLc mC112 ht (by omega) (by omega), sb, show gr (layC (cpC S 112 23) 112 t c (-1) l (nI q)) 0 4 = gr S 0 4 from rfl, tl_ok hr ht, sb, q_standing hL2 mC112 ht (N := A 9) hT2.1 h5, sb]
              · rw [if_pos (show ¬ nI q < 0 ∧ ¬ nI (A (27 + 0 + 6 * c)) < nI q from ⟨x1, (show ¬ nI (A (27 + 6 * c)) < nI q from nI_nlt x2 (by omega))⟩), if_pos (by decide), e, sb, wa_st (nM142 hLM') (by omega) (by omega), sb, wa_st (nM143 hLM'.st) (by omega) (by omega), sb, wa_st (nM144 hLM'.st.st) (by omega) (by omega), sb, q_stands hL3 (hM3 9 (by omega)) h5 hPL3, sb, e3]
            · refine ⟨-1, S, sf M 137 0 0, ?_, ?_⟩
              · rw [if_neg x1, if_neg (nI_ge (by omega) hq)]
              · rw [if_neg (show ¬ (¬ nI q < 0 ∧ ¬ nI (A (27 + 0 + 6 * c)) < nI q) from fun z => z.2 (nI_lt (show A (27 + 0 + 6 * c) < q from by show A (27 + 6 * c) < q; omega) hq)), if_neg (by decide)]
        · exact absurd rfl (nl l hl)
      · rcases m_isLiq (v := b) hLM (hf0 10 (by omega)) h6 with ⟨l', hl', e', gl'⟩ | ⟨gl', _⟩
        · exact absurd e' (nl l' hl')
        · refine ⟨-1, S, sf M 137 0 0, ?_, ?_⟩
          · simp only [sb]
            rw [g, sb, if_neg (by decide), gl, sb, if_pos rfl]
          · rw [g', sb, if_neg (by decide), gl', sb, if_pos rfl]
    · exact absurd rfl (n1 c hc)
  · rcases m_isHold (v := a) hLM (hf0 9 (by omega)) h5 with ⟨c', hc', e', g'⟩ | ⟨g', _⟩
    · exact absurd e' (n1 c' hc')
    · refine ⟨-1, S, sf M 137 0 0, ?_, ?_⟩
      · simp only [sb]
        rw [g, sb, if_pos rfl]
      · rw [g', sb, if_pos rfl]
