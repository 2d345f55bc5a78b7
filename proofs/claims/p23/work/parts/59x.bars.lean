/-! how many bars: the bits of a long, counted as the JDK does -/
theorem wb_tb (n : Nat) : (lN n).toBitVec = BitVec.ofNat 64 n := rfl
theorem wb_inj {a b : Int64} (h : a.toBitVec = b.toBitVec) : a = b := Int64.toBitVec_inj.mp h
theorem wb_tn {n : Nat} (h : n < 2 ^ 64) : (lN n).toBitVec.toNat = n := by rw [wb_tb, BitVec.toNat_ofNat, Nat.mod_eq_of_lt h]
theorem wb_cu : ∀ k, k < 64 → ((nI k).toInt64.toUInt64 &&& Int64.toUInt64 63) = UInt64.ofNat k := by decide +kernel
theorem wb_shr {n k : Nat} (hn : n < 2 ^ 64) (hk : k < 64) : ((lN n).toUInt64 >>> ((nI k).toInt64.toUInt64 &&& Int64.toUInt64 63)).toInt64 = lN (n / 2 ^ k) := by
  rw [wb_cu k hk]
  apply wb_inj
  apply BitVec.eq_of_toNat_eq
  show ((lN n).toUInt64 >>> UInt64.ofNat k).toNat = (BitVec.ofNat 64 _).toNat
  have h1 : (UInt64.ofNat k).toNat = k := by
    show (BitVec.ofNat 64 k).toNat = k
    rw [BitVec.toNat_ofNat, Nat.mod_eq_of_lt (by omega)]
  have h2 : (lN n).toUInt64.toNat = n := wb_tn hn
  rw [UInt64.toNat_shiftRight, h1, h2, Nat.mod_eq_of_lt hk, Nat.shiftRight_eq_div_pow, BitVec.toNat_ofNat, Nat.mod_eq_of_lt (Nat.lt_of_le_of_lt (Nat.div_le_self _ _) hn)]
theorem wb_and {a b : Nat} (ha : a < 2 ^ 64) (hb : b < 2 ^ 64) : lN a &&& lN b = lN (a &&& b) := by
  apply wb_inj
  rw [Int64.toBitVec_and, wb_tb, wb_tb, wb_tb]
  apply BitVec.eq_of_toNat_eq
  rw [BitVec.toNat_and, BitVec.toNat_ofNat, BitVec.toNat_ofNat, BitVec.toNat_ofNat, Nat.mod_eq_of_lt ha, Nat.mod_eq_of_lt hb, Nat.mod_eq_of_lt (Nat.and_lt_two_pow _ hb)]
theorem lN_32 {n : Nat} : (lN n).toInt32 &&& (127 : Int32) = nI (n % 128) := by
  apply Int32.toBitVec_inj.mp
  apply BitVec.eq_of_toNat_eq
  have h1 : (lN n).toInt32.toBitVec.toNat = n % 2 ^ 32 := by
    show ((BitVec.ofNat 64 n).signExtend 32).toNat = _
    rw [BitVec.signExtend_eq_setWidth_of_le _ (by decide), BitVec.toNat_setWidth, BitVec.toNat_ofNat]
    omega
  have h2 : n % 128 < 128 := Nat.mod_lt _ (by decide)
  rw [Int32.toBitVec_and, BitVec.toNat_and, h1, pk_tn (by omega), show (127 : Int32).toBitVec.toNat = 2 ^ 7 - 1 from by decide, Nat.and_two_pow_sub_one_eq_mod]
  omega
theorem and_sp {k a b c d : Nat} (ha : a < 2 ^ k) (hc : c < 2 ^ k) : (2 ^ k * b + a) &&& (2 ^ k * d + c) = 2 ^ k * (b &&& d) + (a &&& c) := by
  apply Nat.eq_of_testBit_eq
  intro j
  rw [Nat.testBit_and, Nat.testBit_two_pow_mul_add _ ha, Nat.testBit_two_pow_mul_add _ hc, Nat.testBit_two_pow_mul_add _ (Nat.and_lt_two_pow a hc)]
  by_cases z : j < k
  · rw [if_pos z, if_pos z, if_pos z, Nat.testBit_and]
  · rw [if_neg z, if_neg z, if_neg z, Nat.testBit_and]
theorem and16 {a b c d : Nat} (ha : a < 16) (hc : c < 16) : (a + 16 * b) &&& (c + 16 * d) = (a &&& c) + 16 * (b &&& d) := by
  have e := and_sp (k := 4) (b := b) (d := d) ha hc
  rw [show (2 : Nat) ^ 4 = 16 from rfl] at e
  rw [Nat.add_comm a, Nat.add_comm c, e, Nat.add_comm]
theorem and256 {a b c d : Nat} (ha : a < 256) (hc : c < 256) : (a + 256 * b) &&& (c + 256 * d) = (a &&& c) + 256 * (b &&& d) := by
  have e := and_sp (k := 8) (b := b) (d := d) ha hc
  rw [show (2 : Nat) ^ 8 = 256 from rfl] at e
  rw [Nat.add_comm a, Nat.add_comm c, e, Nat.add_comm]
def mkD (c : Nat) : Nat → Nat
  | 0 => 0
  | k + 1 => c + 16 * mkD c k
def dgF (f : Nat → Nat) : Nat → Nat → Nat
  | 0, _ => 0
  | k + 1, x => f (x % 16) + 16 * dgF f k (x / 16)
theorem dg_id : ∀ k x, x < 16 ^ k → dgF (fun n => n) k x = x := by
  intro k
  induction k with
  | zero =>
    intro x h
    have : x = 0 := by omega
    rw [this]
    rfl
  | succ k ih =>
    intro x h
    rw [Nat.pow_succ] at h
    rw [dgF, ih (x / 16) (by omega)]
    omega
theorem dg_le {f g : Nat → Nat} (h : ∀ n, n < 16 → f n ≤ g n) : ∀ k x, dgF f k x ≤ dgF g k x := by
  intro k
  induction k with
  | zero => intro x; exact Nat.le_refl _
  | succ k ih =>
    intro x
    have h1 := h (x % 16) (Nat.mod_lt _ (by decide))
    have h2 := ih (x / 16)
    rw [dgF, dgF]
    omega
theorem dg_sub {f g : Nat → Nat} (h : ∀ n, n < 16 → f n ≤ g n) : ∀ k x, dgF g k x - dgF f k x = dgF (fun n => g n - f n) k x := by
  intro k
  induction k with
  | zero => intro x; rfl
  | succ k ih =>
    intro x
    have h1 := h (x % 16) (Nat.mod_lt _ (by decide))
    have h2 := dg_le h k (x / 16)
    rw [dgF, dgF, dgF, ← ih (x / 16)]
    omega
theorem dg_add {f g : Nat → Nat} : ∀ k x, dgF f k x + dgF g k x = dgF (fun n => f n + g n) k x := by
  intro k
  induction k with
  | zero => intro x; rfl
  | succ k ih =>
    intro x
    rw [dgF, dgF, dgF, ← ih (x / 16)]
    omega
theorem st_1 : ∀ k x, (x / 2) &&& mkD 5 k = dgF (fun n => (n / 2) &&& 5) k x := by
  intro k
  induction k with
  | zero =>
    intro x
    show (x / 2) &&& 0 = 0
    exact Nat.and_zero _
  | succ k ih =>
    intro x
    have hd : ∀ n b : Nat, n < 16 → b < 2 → (n / 2 + 8 * b) &&& 5 = (n / 2) &&& 5 := fun n b hn hb => (by decide : ∀ n : Fin 16, ∀ b : Fin 2, (n.val / 2 + 8 * b.val) &&& 5 = (n.val / 2) &&& 5) ⟨n, hn⟩ ⟨b, hb⟩
    have e1 : x / 2 = (x % 16 / 2 + 8 * (x / 16 % 2)) + 16 * (x / 16 / 2) := by omega
    rw [mkD, dgF, ← ih (x / 16), e1, and16 (by omega) (by omega), hd _ _ (Nat.mod_lt _ (by decide)) (Nat.mod_lt _ (by decide))]
theorem st_2 {g : Nat → Nat} (hg : ∀ n, n < 16 → g n < 16) : ∀ k x, dgF g k x &&& mkD 3 k = dgF (fun n => g n &&& 3) k x := by
  intro k
  induction k with
  | zero => intro x; exact Nat.and_zero _
  | succ k ih =>
    intro x
    rw [mkD, dgF, dgF, ← ih (x / 16), and16 (hg _ (Nat.mod_lt _ (by decide))) (by omega)]
theorem st_3 {g : Nat → Nat} (hg : ∀ n, n < 16 → g n < 16) : ∀ k x, (dgF g k x / 4) &&& mkD 3 k = dgF (fun n => g n / 4) k x := by
  intro k
  induction k with
  | zero => intro x; exact Nat.and_zero _
  | succ k ih =>
    intro x
    have h1 := hg (x % 16) (Nat.mod_lt _ (by decide))
    have hd : ∀ a b : Nat, a < 4 → b < 4 → (a + 4 * b) &&& 3 = a := fun a b ha hb => (by decide : ∀ a : Fin 4, ∀ b : Fin 4, (a.val + 4 * b.val) &&& 3 = a.val) ⟨a, ha⟩ ⟨b, hb⟩
    rw [mkD, dgF, dgF, ← ih (x / 16)]
    generalize dgF g k (x / 16) = y
    have e1 : (g (x % 16) + 16 * y) / 4 = (g (x % 16) / 4 + 4 * (y % 4)) + 16 * (y / 4) := by omega
    rw [e1, and16 (by omega) (by omega), hd _ _ (by omega) (Nat.mod_lt _ (by decide))]
def gB (n : Nat) : Nat := n - ((n / 2) &&& 5)
def hB4 (n : Nat) : Nat := (gB n &&& 3) + gB n / 4
theorem gB_lt {n : Nat} (h : n < 16) : gB n < 16 := (by decide : ∀ n : Fin 16, gB n.val < 16) ⟨n, h⟩
theorem hB_le {n : Nat} (h : n < 16) : hB4 n ≤ 4 := (by decide : ∀ n : Fin 16, hB4 n.val ≤ 4) ⟨n, h⟩
theorem rnk_split {p : Nat → Bool} {k : Nat} : ∀ n, rnk p (k + n) = rnk p k + rnk (fun i => p (k + i)) n := by
  intro n
  induction n with
  | zero => rfl
  | succ n ih =>
    show rnk p (k + n) + (if p (k + n) = true then 1 else 0) = rnk p k + (rnk (fun i => p (k + i)) n + if p (k + n) = true then 1 else 0)
    rw [ih]
    omega
theorem rnk_16 {x n : Nat} : rnk (fun i => x.testBit i) (4 + n) = hB4 (x % 16) + rnk (fun i => (x / 16).testBit i) n := by
  have hd : ∀ y : Nat, y < 16 → rnk (fun i => y.testBit i) 4 = hB4 y := fun y hy => (by decide : ∀ y : Fin 16, rnk (fun i => y.val.testBit i) 4 = hB4 y.val) ⟨y, hy⟩
  rw [rnk_split]
  congr 1
  · rw [← hd (x % 16) (Nat.mod_lt _ (by decide))]
    refine rnk_congr 4 (fun i hi => ?_)
    show x.testBit i = (x % 2 ^ 4).testBit i
    rw [Nat.testBit_mod_two_pow, decide_eq_true hi, Bool.true_and]
  · refine rnk_congr n (fun i _ => ?_)
    show x.testBit (4 + i) = (x / 2 ^ 4).testBit i
    rw [Nat.testBit_div_two_pow, Nat.add_comm]
theorem pop_36 {x : Nat} (hx : x < 2 ^ 36) : ∃ p0 p1 p2 p3 p4 p5 p6 p7 p8 : Nat, p0 ≤ 4 ∧ p1 ≤ 4 ∧ p2 ≤ 4 ∧ p3 ≤ 4 ∧ p4 ≤ 4 ∧ p5 ≤ 4 ∧ p6 ≤ 4 ∧ p7 ≤ 4 ∧ p8 ≤ 4 ∧ dgF hB4 16 x = p0 + 16 * (p1 + 16 * (p2 + 16 * (p3 + 16 * (p4 + 16 * (p5 + 16 * (p6 + 16 * (p7 + 16 * p8))))))) ∧ rnk (fun i => x.testBit i) 36 = p0 + p1 + p2 + p3 + p4 + p5 + p6 + p7 + p8 := by
  have hz : ∀ k, dgF hB4 k 0 = 0 := by
    intro k
    induction k with
    | zero => rfl
    | succ k ih =>
      rw [dgF, show (0 : Nat) / 16 = 0 from rfl, ih]
      rfl
  have hm : ∀ y : Nat, hB4 (y % 16) ≤ 4 := fun y => hB_le (Nat.mod_lt _ (by decide))
  refine ⟨hB4 (x % 16), hB4 (x / 16 % 16), hB4 (x / 16 / 16 % 16), hB4 (x / 16 / 16 / 16 % 16), hB4 (x / 16 / 16 / 16 / 16 % 16), hB4 (x / 16 / 16 / 16 / 16 / 16 % 16), hB4 (x / 16 / 16 / 16 / 16 / 16 / 16 % 16), hB4 (x / 16 / 16 / 16 / 16 / 16 / 16 / 16 % 16), hB4 (x / 16 / 16 / 16 / 16 / 16 / 16 / 16 / 16 % 16), hm _, hm _, hm _, hm _, hm _, hm _, hm _, hm _, hm _, ?_, ?_⟩
  · have h9 : x / 16 / 16 / 16 / 16 / 16 / 16 / 16 / 16 / 16 = 0 := by omega
    rw [dgF, dgF, dgF, dgF, dgF, dgF, dgF, dgF, dgF, h9, hz 7, Nat.mul_zero, Nat.add_zero]
  · rw [show (36 : Nat) = 4 + 32 from rfl, rnk_16, show (32 : Nat) = 4 + 28 from rfl, rnk_16, show (28 : Nat) = 4 + 24 from rfl, rnk_16, show (24 : Nat) = 4 + 20 from rfl, rnk_16, show (20 : Nat) = 4 + 16 from rfl, rnk_16, show rnk (fun i => (x / 16 / 16 / 16 / 16 / 16).testBit i) 16 = rnk (fun i => (x / 16 / 16 / 16 / 16 / 16).testBit i) (4 + 12) from rfl, rnk_16, show rnk (fun i => (x / 16 / 16 / 16 / 16 / 16 / 16).testBit i) 12 = rnk (fun i => (x / 16 / 16 / 16 / 16 / 16 / 16).testBit i) (4 + 8) from rfl, rnk_16, show rnk (fun i => (x / 16 / 16 / 16 / 16 / 16 / 16 / 16).testBit i) 8 = rnk (fun i => (x / 16 / 16 / 16 / 16 / 16 / 16 / 16).testBit i) (4 + 4) from rfl, rnk_16, show rnk (fun i => (x / 16 / 16 / 16 / 16 / 16 / 16 / 16 / 16).testBit i) 4 = rnk (fun i => (x / 16 / 16 / 16 / 16 / 16 / 16 / 16 / 16).testBit i) (4 + 0) from rfl, rnk_16, show rnk (fun i => (x / 16 / 16 / 16 / 16 / 16 / 16 / 16 / 16 / 16).testBit i) 0 = 0 from rfl]
    omega
set_option maxHeartbeats 100000 in
theorem bc_z {p0 p1 p2 p3 p4 p5 p6 p7 p8 y : Nat} (h0 : p0 ≤ 4) (h1 : p1 ≤ 4) (h2 : p2 ≤ 4) (h3 : p3 ≤ 4) (h4 : p4 ≤ 4) (h5 : p5 ≤ 4) (h6 : p6 ≤ 4) (h7 : p7 ≤ 4) (h8 : p8 ≤ 4) (ey : y = p0 + 16 * (p1 + 16 * (p2 + 16 * (p3 + 16 * (p4 + 16 * (p5 + 16 * (p6 + 16 * (p7 + 16 * p8)))))))) : y + y / 16 = ((p0 + p1) + 16 * (p1 + p2)) + 256 * (((p2 + p3) + 16 * (p3 + p4)) + 256 * (((p4 + p5) + 16 * (p5 + p6)) + 256 * (((p6 + p7) + 16 * (p7 + p8)) + 256 * (p8 + 256 * 0)))) := by
  have e : y / 16 = p1 + 16 * (p2 + 16 * (p3 + 16 * (p4 + 16 * (p5 + 16 * (p6 + 16 * (p7 + 16 * p8)))))) := by
    rw [ey, Nat.add_mul_div_left _ _ (by decide), Nat.div_eq_of_lt (by omega), Nat.zero_add]
  rw [e, ey]
  omega
set_option maxHeartbeats 100000 in
theorem bc_m {a b : Nat} (h : a ≤ 15) : (a + 16 * b) % 16 = a := by omega
set_option maxHeartbeats 100000 in
theorem bc_and {p0 p1 p2 p3 p4 p5 p6 p7 p8 y : Nat} (h0 : p0 ≤ 4) (h1 : p1 ≤ 4) (h2 : p2 ≤ 4) (h3 : p3 ≤ 4) (h4 : p4 ≤ 4) (h5 : p5 ≤ 4) (h6 : p6 ≤ 4) (h7 : p7 ≤ 4) (h8 : p8 ≤ 4) (ey : y = p0 + 16 * (p1 + 16 * (p2 + 16 * (p3 + 16 * (p4 + 16 * (p5 + 16 * (p6 + 16 * (p7 + 16 * p8)))))))) : (y + y / 16) &&& 1085102592571150095 = (p0 + p1) + 256 * ((p2 + p3) + 256 * ((p4 + p5) + 256 * ((p6 + p7) + 256 * p8))) := by
  have hz := bc_z h0 h1 h2 h3 h4 h5 h6 h7 h8 ey
  have hF : (1085102592571150095 : Nat) = 15 + 256 * (15 + 256 * (15 + 256 * (15 + 256 * (15 + 256 * 986895)))) := rfl
  have h15 : ∀ a, a &&& 15 = a % 16 := fun a => Nat.and_two_pow_sub_one_eq_mod a 4
  rw [hz, hF, and256 (by omega) (by omega), and256 (by omega) (by omega), and256 (by omega) (by omega), and256 (by omega) (by omega), and256 (by omega) (by omega), Nat.zero_and, h15, h15, h15, h15, h15, bc_m (by omega), bc_m (by omega), bc_m (by omega), bc_m (by omega), Nat.mod_eq_of_lt (show p8 < 16 by omega), Nat.mul_zero, Nat.add_zero]
set_option maxHeartbeats 100000 in
theorem bc_f {q0 q1 q2 q3 q4 u v : Nat} (h0 : q0 ≤ 8) (h1 : q1 ≤ 8) (h2 : q2 ≤ 8) (h3 : q3 ≤ 8) (h4 : q4 ≤ 4) (eu : u = q0 + 256 * (q1 + 256 * (q2 + 256 * (q3 + 256 * q4)))) (ev : v = u + u / 256 + (u + u / 256) / 65536) : (v + v / 4294967296) % 128 = q0 + q1 + q2 + q3 + q4 ∧ v < 2 ^ 50 := by
  have e1 : u / 256 = q1 + 256 * (q2 + 256 * (q3 + 256 * q4)) := by
    rw [eu, Nat.add_mul_div_left _ _ (by decide), Nat.div_eq_of_lt (by omega), Nat.zero_add]
  have e2 : u + u / 256 = ((q0 + q1) + 256 * (q1 + q2)) + 65536 * ((q2 + q3) + 256 * ((q3 + q4) + 256 * q4)) := by
    rw [e1, eu]
    omega
  have e3 : (u + u / 256) / 65536 = (q2 + q3) + 256 * ((q3 + q4) + 256 * q4) := by
    rw [e2, Nat.add_mul_div_left _ _ (by decide), Nat.div_eq_of_lt (by omega), Nat.zero_add]
  have e4 : v = ((q0 + q1 + q2 + q3) + 256 * (q1 + q2 + q3 + q4) + 65536 * (q2 + q3 + q4) + 16777216 * (q3 + q4)) + 4294967296 * q4 := by
    rw [ev, e3, e2]
    omega
  have e5 : v / 4294967296 = q4 := by
    rw [e4, Nat.add_mul_div_left _ _ (by decide), Nat.div_eq_of_lt (by omega), Nat.zero_add]
  rw [e5, e4]
  constructor
  · omega
  · omega
theorem bc_y {p0 p1 p2 p3 p4 p5 p6 p7 p8 y : Nat} (h0 : p0 ≤ 4) (h1 : p1 ≤ 4) (h2 : p2 ≤ 4) (h3 : p3 ≤ 4) (h4 : p4 ≤ 4) (h5 : p5 ≤ 4) (h6 : p6 ≤ 4) (h7 : p7 ≤ 4) (h8 : p8 ≤ 4) (ey : y = p0 + 16 * (p1 + 16 * (p2 + 16 * (p3 + 16 * (p4 + 16 * (p5 + 16 * (p6 + 16 * (p7 + 16 * p8)))))))) : y < 2 ^ 40 := by
  rw [ey]
  omega
theorem bc_u {p0 p1 p2 p3 p4 p5 p6 p7 p8 u : Nat} (h0 : p0 ≤ 4) (h1 : p1 ≤ 4) (h2 : p2 ≤ 4) (h3 : p3 ≤ 4) (h4 : p4 ≤ 4) (h5 : p5 ≤ 4) (h6 : p6 ≤ 4) (h7 : p7 ≤ 4) (h8 : p8 ≤ 4) (eu : u = (p0 + p1) + 256 * ((p2 + p3) + 256 * ((p4 + p5) + 256 * ((p6 + p7) + 256 * p8)))) : u < 2 ^ 40 := by
  rw [eu]
  omega
theorem bc_v {u : Nat} (h : u < 2 ^ 40) : u + u / 256 < 2 ^ 64 := by omega
theorem bc_w {u : Nat} (h : u < 2 ^ 40) : u + u / 16 < 2 ^ 64 := by omega
theorem bc_s {p0 p1 p2 p3 p4 p5 p6 p7 p8 : Nat} : p0 + p1 + (p2 + p3) + (p4 + p5) + (p6 + p7) + p8 = p0 + p1 + p2 + p3 + p4 + p5 + p6 + p7 + p8 := by omega
set_option maxHeartbeats 100000 in
theorem q_bitCount {m : Nat} (hm : m < 2 ^ 36) : s_J13_bitCount_95d88 (lN m) = some (nI (rnk (fun i => m.testBit i) 36)) := by
  have c5 : (6148914691236517205 : Int64) = lN (mkD 5 16) := by decide +kernel
  have c3 : (3689348814741910323 : Int64) = lN (mkD 3 16) := by decide +kernel
  have cF : (1085102592571150095 : Int64) = lN 1085102592571150095 := rfl
  have k5 : mkD 5 16 < 2 ^ 64 := by decide +kernel
  have k3 : mkD 3 16 < 2 ^ 64 := by decide +kernel
  have kF : 1085102592571150095 < 2 ^ 64 := by decide +kernel
  have hid : dgF (fun n => n) 16 m = m := dg_id 16 m (Nat.lt_trans hm (by decide))
  have h5le : ∀ n, n < 16 → (n / 2) &&& 5 ≤ n := fun n hn => (by decide : ∀ n : Fin 16, (n.val / 2) &&& 5 ≤ n.val) ⟨n, hn⟩
  have hg : dgF gB 16 m = m - dgF (fun n => (n / 2) &&& 5) 16 m := by
    have e := dg_sub (g := fun n => n) h5le 16 m
    rw [hid] at e
    exact e.symm
  have hle5 : dgF (fun n => (n / 2) &&& 5) 16 m ≤ m := by
    have e := dg_le (g := fun n => n) h5le 16 m
    rw [hid] at e
    exact e
  have w1 : lN m - (lN (m / 2) &&& (6148914691236517205 : Int64)) = lN (dgF gB 16 m) := by
    rw [c5, wb_and (Nat.lt_of_le_of_lt (Nat.div_le_self _ _) (Nat.lt_trans hm (by decide))) k5, st_1, lN_sub hle5, hg]
  obtain ⟨x, ex⟩ : ∃ x, x = dgF gB 16 m := ⟨_, rfl⟩
  have hx : x ≤ m := by
    rw [ex, hg]
    exact Nat.sub_le _ _
  have w2 : (lN x &&& (3689348814741910323 : Int64)) + (lN (x / 4) &&& (3689348814741910323 : Int64)) = lN (dgF hB4 16 m) := by
    rw [c3, wb_and (Nat.lt_trans (Nat.lt_of_le_of_lt hx hm) (by decide)) k3, wb_and (Nat.lt_of_le_of_lt (Nat.div_le_self _ _) (Nat.lt_trans (Nat.lt_of_le_of_lt hx hm) (by decide))) k3, ex, st_2 (fun n hn => gB_lt hn), st_3 (fun n hn => gB_lt hn), lN_add, dg_add, show (fun n => (gB n &&& 3) + gB n / 4) = hB4 from rfl]
  obtain ⟨p0, p1, p2, p3, p4, p5, p6, p7, p8, h0, h1, h2, h3, h4, h5, h6, h7, h8, ed, er⟩ := pop_36 hm
  obtain ⟨y, ey⟩ : ∃ y, y = dgF hB4 16 m := ⟨_, rfl⟩
  have ey2 := ey.trans ed
  have hy : y < 2 ^ 40 := bc_y h0 h1 h2 h3 h4 h5 h6 h7 h8 ey2
  have hand := bc_and h0 h1 h2 h3 h4 h5 h6 h7 h8 ey2
  obtain ⟨u, eu⟩ : ∃ u, u = (p0 + p1) + 256 * ((p2 + p3) + 256 * ((p4 + p5) + 256 * ((p6 + p7) + 256 * p8))) := ⟨_, rfl⟩
  rw [← eu] at hand
  have hu : u < 2 ^ 40 := bc_u h0 h1 h2 h3 h4 h5 h6 h7 h8 eu
  obtain ⟨v, ev⟩ : ∃ v, v = u + u / 256 + (u + u / 256) / 65536 := ⟨_, rfl⟩
  obtain ⟨hv1, hv2⟩ := bc_f (q0 := p0 + p1) (q1 := p2 + p3) (q2 := p4 + p5) (q3 := p6 + p7) (q4 := p8) (Nat.add_le_add h0 h1) (Nat.add_le_add h2 h3) (Nat.add_le_add h4 h5) (Nat.add_le_add h6 h7) h8 eu ev
  clear ed hg hid hle5 ey2
  have e1 : ((lN m).toUInt64 >>> ((1 : Int32).toInt64.toUInt64 &&& Int64.toUInt64 63)).toInt64 = lN (m / 2) := wb_shr (n := m) (k := 1) (Nat.lt_trans hm (by decide)) (by decide)
  have e2 : ((lN x).toUInt64 >>> ((2 : Int32).toInt64.toUInt64 &&& Int64.toUInt64 63)).toInt64 = lN (x / 4) := wb_shr (n := x) (k := 2) (Nat.lt_trans (Nat.lt_of_le_of_lt hx hm) (by decide)) (by decide)
  have e3 : ((lN y).toUInt64 >>> ((4 : Int32).toInt64.toUInt64 &&& Int64.toUInt64 63)).toInt64 = lN (y / 16) := wb_shr (n := y) (k := 4) (Nat.lt_trans hy (by decide)) (by decide)
  have e4 : ((lN u).toUInt64 >>> ((8 : Int32).toInt64.toUInt64 &&& Int64.toUInt64 63)).toInt64 = lN (u / 256) := wb_shr (n := u) (k := 8) (Nat.lt_trans hu (by decide)) (by decide)
  have e5 : ((lN (u + u / 256)).toUInt64 >>> ((16 : Int32).toInt64.toUInt64 &&& Int64.toUInt64 63)).toInt64 = lN ((u + u / 256) / 65536) := wb_shr (n := u + u / 256) (k := 16) (bc_v hu) (by decide)
  have e6 : ((lN v).toUInt64 >>> ((32 : Int32).toInt64.toUInt64 &&& Int64.toUInt64 63)).toInt64 = lN (v / 4294967296) := wb_shr (n := v) (k := 32) (Nat.lt_trans hv2 (by decide)) (by decide)
  have w3 : (lN y + lN (y / 16)) &&& (1085102592571150095 : Int64) = lN u := by
    rw [lN_add, cF, wb_and (bc_w hy) kF, hand]
  rw [← ex] at w1
  rw [← ey] at w2
  unfold s_J13_bitCount_95d88
  simp only [sb]
  rw [e1, w1, e2, w2, e3, w3, e4, lN_add, e5, lN_add, ← ev, e6, lN_add, lN_32, hv1, er, bc_s]
theorem q_bars {M : HS} {A : Nat → Nat} {m : Nat} (hL : LnM M) (hM : RMt M 139 A) (hR : RgA A) (hb : ∀ a b, a < 6 → b < 6 → m.testBit (6 * a + b) = (A (21 + a)).testBit b) : s_X8_bars M = some (nI (rnk (fun i => m.testBit i) 36)) := by
  have h64 := hR.2.2.2.2.2.2.2.2.2.2.1
  have l4 : ∀ (q a : Nat) (K : Nat), a + q = 6 → q < K → s_X8_bars_L4 M K (nI (rnk (fun i => m.testBit i) (6 * a))) (nI a) = some (nI (rnk (fun i => m.testBit i) 36)) := by
    intro q
    induction q with
    | zero =>
      intro a K h1 h2
      obtain ⟨K, rfl⟩ : ∃ k, K = k + 1 := ⟨K - 1, by omega⟩
      have ea : a = 6 := by omega
      subst ea
      rw [s_X8_bars_L4, if_pos (show (6 : Int32) ≤ nI 6 by decide)]
    | succ q ih =>
      intro a K h1 h2
      obtain ⟨K, rfl⟩ : ∃ k, K = k + 1 := ⟨K - 1, by omega⟩
      have l12 : ∀ (p b : Nat) (K2 : Nat), b + p = 6 → p < K2 → s_X8_bars_L12 (s_X8_bars_L4 M K) (nI a) M K2 (nI (rnk (fun i => m.testBit i) (6 * a + b))) (nI b) = some (nI (rnk (fun i => m.testBit i) 36)) := by
        intro p
        induction p with
        | zero =>
          intro b K2 g1 g2
          obtain ⟨K2, rfl⟩ : ∃ k, K2 = k + 1 := ⟨K2 - 1, by omega⟩
          have eb : b = 6 := by omega
          subst eb
          rw [s_X8_bars_L12, if_pos (show (6 : Int32) ≤ nI 6 by decide), ← nI_succ]
          exact ih (a + 1) K (by omega) (by omega)
        | succ p ihp =>
          intro b K2 g1 g2
          obtain ⟨K2, rfl⟩ : ∃ k, K2 = k + 1 := ⟨K2 - 1, by omega⟩
          have hl := h64 a (by omega)
          have nx := ihp (b + 1) K2 (by omega) (by omega)
          have er : rnk (fun i => m.testBit i) (6 * a + (b + 1)) = rnk (fun i => m.testBit i) (6 * a + b) + if m.testBit (6 * a + b) = true then 1 else 0 := rfl
          rw [er, hb a b (by omega) (by omega)] at nx
          rw [s_X8_bars_L12, if_neg (show ¬ (6 : Int32) ≤ nI b from nI_ge (b := 6) (by omega) (by omega)), show (21 : Int32) + nI a = nI (21 + a) from nI_add 21 a, m_at hL rfl (by omega), sb, (show fM M (21 + a) = nI (A (21 + a)) from hM (21 + a) (by omega)), q_has, sb, hasB_nI (by omega) (by omega), ← nI_succ, ← nI_succ]
          cases hbit : (A (21 + a)).testBit b with
          | true =>
            rw [if_neg (show ¬ z1 true = 0 by decide)]
            rw [hbit] at nx
            exact nx
          | false =>
            rw [if_pos (show z1 false = 0 from rfl)]
            rw [hbit] at nx
            exact nx
      rw [s_X8_bars_L4, if_neg (show ¬ (6 : Int32) ≤ nI a from nI_ge (b := 6) (by omega) (by omega))]
      exact l12 6 0 40 (by omega) (by omega)
  exact l4 6 0 40 (by omega) (by omega)
theorem h_bar {S : HS} {t : Nat} {A : Nat → Nat} (hT : RDt S t A) (hR : RgA A) : ∀ M', LnM M' → RMt M' 139 A → ∃ v, s_J13_bitCount_95d88 (gl S t) = some v ∧ s_X8_bars M' = some v := by
  intro M' hL hM
  obtain ⟨m, hm, hg, hb⟩ := hT.2.2.2.2.2.1
  refine ⟨nI (rnk (fun i => m.testBit i) 36), ?_, q_bars hL hM hR hb⟩
  rw [hg]
  exact q_bitCount hm
