/-! Long.bitCount -/
def bcN : Nat → Nat → Nat
  | 0, _ => 0
  | n + 1, x => bcN n x + x / 2 ^ n % 2
/-- how many of the first n are in a set -/
def bc : Nat → (Nat → Bool) → Nat
  | 0, _ => 0
  | n + 1, p => bc n p + (if p n = true then 1 else 0)
theorem bc_bcN (x : Int64) : ∀ n, bc n (bm x) = bcN n x.toBitVec.toNat := by
  intro n
  induction n with
  | zero => rfl
  | succ n ih =>
    unfold bc bcN
    rw [ih]
    congr 1
    unfold bm BitVec.getLsbD
    rw [Nat.testBit_eq_decide_div_mod_eq]
    by_cases c : x.toBitVec.toNat / 2 ^ n % 2 = 1
    · rw [decide_eq_true c, if_pos rfl, c]
    · rw [decide_eq_false c, if_neg (by decide)]
      omega
theorem bcN_8 (x : Nat) : ∀ n, bcN (8 + n) x = bcN 8 x + bcN n (x / 256) := by
  intro n
  induction n with
  | zero => rfl
  | succ n ih =>
    show bcN (8 + n) x + x / 2 ^ (8 + n) % 2 = bcN 8 x + (bcN n (x / 256) + x / 256 / 2 ^ n % 2)
    rw [ih, Nat.pow_add, Nat.div_div_eq_div_mul, show (2 : Nat) ^ 8 = 256 from rfl]
    omega
theorem bcN_m (x : Nat) : bcN 8 x = bcN 8 (x % 256) := by
  simp only [bcN]
  omega
def pcE (b : Nat) : Nat := (b &&& 170) / 2
def pcC (b : Nat) : Nat := b - pcE b
def pcF (b : Nat) : Nat := (pcC b &&& 51) + (pcC b &&& 204) / 4
theorem pc_t : ∀ b, b < 256 → (b &&& 170) = 2 * pcE b ∧ pcE b ≤ b ∧ (pcC b &&& 204) = 4 * ((pcC b &&& 204) / 4) ∧ pcF b % 16 ≤ 4 ∧ pcF b / 16 ≤ 4 ∧ pcF b % 16 + pcF b / 16 = bcN 8 b := by decide +kernel
theorem andH {a c : Nat} (r s : Nat) (ha : a < 256) (hc : c < 256) : (a + 256 * r) &&& (c + 256 * s) = (a &&& c) + 256 * (r &&& s) := by
  apply Nat.eq_of_testBit_eq
  intro i
  have h1 : (a &&& c) < 2 ^ 8 := Nat.and_lt_two_pow _ hc
  rw [Nat.testBit_and, Nat.add_comm a, Nat.add_comm c, Nat.add_comm (a &&& c)]
  rw [show 256 * r = 2 ^ 8 * r from rfl, show 256 * s = 2 ^ 8 * s from rfl, show 256 * (r &&& s) = 2 ^ 8 * (r &&& s) from rfl, Nat.testBit_two_pow_mul_add _ (show a < 2 ^ 8 from ha), Nat.testBit_two_pow_mul_add _ (show c < 2 ^ 8 from hc), Nat.testBit_two_pow_mul_add _ h1]
  split
  · rw [Nat.testBit_and]
  · rw [Nat.testBit_and]
def hH (b0 b1 b2 b3 b4 b5 b6 b7 : Nat) : Nat := b0 + 256 * (b1 + 256 * (b2 + 256 * (b3 + 256 * (b4 + 256 * (b5 + 256 * (b6 + 256 * b7))))))
theorem hH_and {b0 b1 b2 b3 b4 b5 b6 b7 k : Nat} (h0 : b0 < 256) (h1 : b1 < 256) (h2 : b2 < 256) (h3 : b3 < 256) (h4 : b4 < 256) (h5 : b5 < 256) (h6 : b6 < 256) (hk : k < 256) : hH b0 b1 b2 b3 b4 b5 b6 b7 &&& hH k k k k k k k k = hH (b0 &&& k) (b1 &&& k) (b2 &&& k) (b3 &&& k) (b4 &&& k) (b5 &&& k) (b6 &&& k) (b7 &&& k) := by
  unfold hH
  rw [andH _ _ h0 hk, andH _ _ h1 hk, andH _ _ h2 hk, andH _ _ h3 hk, andH _ _ h4 hk, andH _ _ h5 hk, andH _ _ h6 hk]
theorem hH_lt {b0 b1 b2 b3 b4 b5 b6 b7 : Nat} (h0 : b0 < 256) (h1 : b1 < 256) (h2 : b2 < 256) (h3 : b3 < 256) (h4 : b4 < 256) (h5 : b5 < 256) (h6 : b6 < 256) (h7 : b7 < 256) : hH b0 b1 b2 b3 b4 b5 b6 b7 < 2 ^ 64 := by
  unfold hH
  omega
theorem hH_of (x : Nat) (hx : x < 2 ^ 64) : x = hH (x % 256) (x / 256 % 256) (x / 256 / 256 % 256) (x / 256 / 256 / 256 % 256) (x / 256 / 256 / 256 / 256 % 256) (x / 256 / 256 / 256 / 256 / 256 % 256) (x / 256 / 256 / 256 / 256 / 256 / 256 % 256) (x / 256 / 256 / 256 / 256 / 256 / 256 / 256 % 256) := by
  unfold hH
  omega
theorem sr_and (x k c : Nat) : (x >>> k) &&& c = (x &&& (c <<< k)) >>> k := by
  rw [Nat.shiftRight_and_distrib, Nat.shiftLeft_shiftRight]
/-- the three steps in each byte -/
theorem pc_1 {b0 b1 b2 b3 b4 b5 b6 b7 : Nat} (h0 : b0 < 256) (h1 : b1 < 256) (h2 : b2 < 256) (h3 : b3 < 256) (h4 : b4 < 256) (h5 : b5 < 256) (h6 : b6 < 256) (h7 : b7 < 256) : (hH b0 b1 b2 b3 b4 b5 b6 b7 >>> 1) &&& 6148914691236517205 = hH (pcE b0) (pcE b1) (pcE b2) (pcE b3) (pcE b4) (pcE b5) (pcE b6) (pcE b7) := by
  rw [sr_and, show (6148914691236517205 : Nat) <<< 1 = hH 170 170 170 170 170 170 170 170 by decide, hH_and h0 h1 h2 h3 h4 h5 h6 (by decide), (pc_t b0 h0).1, (pc_t b1 h1).1, (pc_t b2 h2).1, (pc_t b3 h3).1, (pc_t b4 h4).1, (pc_t b5 h5).1, (pc_t b6 h6).1, (pc_t b7 h7).1, Nat.shiftRight_eq_div_pow]
  unfold hH
  omega
theorem pcC_lt {b : Nat} (h : b < 256) : pcC b < 256 := by
  unfold pcC
  omega
theorem pc_2 {b0 b1 b2 b3 b4 b5 b6 b7 : Nat} (h0 : b0 < 256) (h1 : b1 < 256) (h2 : b2 < 256) (h3 : b3 < 256) (h4 : b4 < 256) (h5 : b5 < 256) (h6 : b6 < 256) (h7 : b7 < 256) : (hH (pcC b0) (pcC b1) (pcC b2) (pcC b3) (pcC b4) (pcC b5) (pcC b6) (pcC b7) &&& 3689348814741910323) + ((hH (pcC b0) (pcC b1) (pcC b2) (pcC b3) (pcC b4) (pcC b5) (pcC b6) (pcC b7) >>> 2) &&& 3689348814741910323) = hH (pcF b0) (pcF b1) (pcF b2) (pcF b3) (pcF b4) (pcF b5) (pcF b6) (pcF b7) := by
  rw [sr_and, show (3689348814741910323 : Nat) <<< 2 = hH 204 204 204 204 204 204 204 204 by decide, show (3689348814741910323 : Nat) = hH 51 51 51 51 51 51 51 51 by decide, hH_and (pcC_lt h0) (pcC_lt h1) (pcC_lt h2) (pcC_lt h3) (pcC_lt h4) (pcC_lt h5) (pcC_lt h6) (by decide), hH_and (pcC_lt h0) (pcC_lt h1) (pcC_lt h2) (pcC_lt h3) (pcC_lt h4) (pcC_lt h5) (pcC_lt h6) (by decide), Nat.shiftRight_eq_div_pow]
  have t0 := (pc_t b0 h0).2.2.1
  have t1 := (pc_t b1 h1).2.2.1
  have t2 := (pc_t b2 h2).2.2.1
  have t3 := (pc_t b3 h3).2.2.1
  have t4 := (pc_t b4 h4).2.2.1
  have t5 := (pc_t b5 h5).2.2.1
  have t6 := (pc_t b6 h6).2.2.1
  have t7 := (pc_t b7 h7).2.2.1
  unfold hH pcF
  omega
theorem pc_3 {f0 f1 f2 f3 f4 f5 f6 f7 : Nat} (h0 : f0 % 16 ≤ 4 ∧ f0 / 16 ≤ 4) (h1 : f1 % 16 ≤ 4 ∧ f1 / 16 ≤ 4) (h2 : f2 % 16 ≤ 4 ∧ f2 / 16 ≤ 4) (h3 : f3 % 16 ≤ 4 ∧ f3 / 16 ≤ 4) (h4 : f4 % 16 ≤ 4 ∧ f4 / 16 ≤ 4) (h5 : f5 % 16 ≤ 4 ∧ f5 / 16 ≤ 4) (h6 : f6 % 16 ≤ 4 ∧ f6 / 16 ≤ 4) (h7 : f7 % 16 ≤ 4 ∧ f7 / 16 ≤ 4) :
    (hH f0 f1 f2 f3 f4 f5 f6 f7 + hH f0 f1 f2 f3 f4 f5 f6 f7 >>> 4) &&& 1085102592571150095 = hH (f0 % 16 + f0 / 16) (f1 % 16 + f1 / 16) (f2 % 16 + f2 / 16) (f3 % 16 + f3 / 16) (f4 % 16 + f4 / 16) (f5 % 16 + f5 / 16) (f6 % 16 + f6 / 16) (f7 % 16 + f7 / 16) := by
  have e : hH f0 f1 f2 f3 f4 f5 f6 f7 + hH f0 f1 f2 f3 f4 f5 f6 f7 >>> 4 = hH (f0 + f0 / 16 + 16 * (f1 % 16)) (f1 + f1 / 16 + 16 * (f2 % 16)) (f2 + f2 / 16 + 16 * (f3 % 16)) (f3 + f3 / 16 + 16 * (f4 % 16)) (f4 + f4 / 16 + 16 * (f5 % 16)) (f5 + f5 / 16 + 16 * (f6 % 16)) (f6 + f6 / 16 + 16 * (f7 % 16)) (f7 + f7 / 16) := by
    rw [Nat.shiftRight_eq_div_pow]
    unfold hH
    omega
  have md : ∀ x : Nat, x &&& 15 = x % 16 := fun x => Nat.and_two_pow_sub_one_eq_mod x 4
  rw [e, show (1085102592571150095 : Nat) = hH 15 15 15 15 15 15 15 15 by decide, hH_and (by omega) (by omega) (by omega) (by omega) (by omega) (by omega) (by omega) (by decide), md, md, md, md, md, md, md, md]
  congr 1 <;> omega
theorem us_n (x : Int64) {s : UInt64} {k : Nat} (hs : s.toBitVec % 64 = BitVec.ofNat 64 k) (hk : k < 64) : ((x.toUInt64 >>> s).toInt64).toBitVec.toNat = x.toBitVec.toNat >>> k := by
  show (x.toUInt64 >>> s).toBitVec.toNat = _
  rw [UInt64.toBitVec_shiftRight, hs, BitVec.ushiftRight_eq', BitVec.toNat_ushiftRight, BitVec.toNat_ofNat, Nat.mod_eq_of_lt (by omega)]
  rfl
theorem i64_and (x y : Int64) : (x &&& y).toBitVec.toNat = x.toBitVec.toNat &&& y.toBitVec.toNat := by rw [Int64.toBitVec_and, BitVec.toNat_and]
theorem i64_add {x y : Int64} (h : x.toBitVec.toNat + y.toBitVec.toNat < 2 ^ 64) : (x + y).toBitVec.toNat = x.toBitVec.toNat + y.toBitVec.toNat := by rw [Int64.toBitVec_add, BitVec.toNat_add, Nat.mod_eq_of_lt h]
theorem i64_sub {x y : Int64} (h : y.toBitVec.toNat ≤ x.toBitVec.toNat) : (x - y).toBitVec.toNat = x.toBitVec.toNat - y.toBitVec.toNat := by
  have := x.toBitVec.isLt
  rw [Int64.toBitVec_sub, BitVec.toNat_sub]
  omega
set_option maxHeartbeats 4000000 in
theorem s_bitCount {sh : List gS} {F : Nat} (x : Int64) (m : gM) : f_J13_bitCount_95d88 sh F x m = some (nI (bc 64 (bm x)), m) := by
  rw [bc_bcN]
  have hx := x.toBitVec.isLt
  unfold f_J13_bitCount_95d88
  simp only [g_nmb]
  generalize hX : x.toBitVec.toNat = X at *
  have hB := hH_of X hx
  have l : ∀ y : Nat, y % 256 < 256 := fun y => Nat.mod_lt _ (by decide)
  have cnt : bcN 64 X = bcN 8 (X % 256) + bcN 8 (X / 256 % 256) + bcN 8 (X / 256 / 256 % 256) + bcN 8 (X / 256 / 256 / 256 % 256) + bcN 8 (X / 256 / 256 / 256 / 256 % 256) + bcN 8 (X / 256 / 256 / 256 / 256 / 256 % 256) + bcN 8 (X / 256 / 256 / 256 / 256 / 256 / 256 % 256) + bcN 8 (X / 256 / 256 / 256 / 256 / 256 / 256 / 256 % 256) := by
    rw [show (64 : Nat) = 8 + 56 from rfl, bcN_8, show (56 : Nat) = 8 + 48 from rfl, bcN_8, show (48 : Nat) = 8 + 40 from rfl, bcN_8, show (40 : Nat) = 8 + 32 from rfl, bcN_8, show (32 : Nat) = 8 + 24 from rfl, bcN_8, show (24 : Nat) = 8 + 16 from rfl, bcN_8, show (16 : Nat) = 8 + 8 from rfl, bcN_8]
    rw [bcN_m X, bcN_m (X / 256), bcN_m (X / 256 / 256), bcN_m (X / 256 / 256 / 256), bcN_m (X / 256 / 256 / 256 / 256), bcN_m (X / 256 / 256 / 256 / 256 / 256), bcN_m (X / 256 / 256 / 256 / 256 / 256 / 256), bcN_m (X / 256 / 256 / 256 / 256 / 256 / 256 / 256)]
    omega
  rw [cnt]
  have b0 := l X
  have b1 := l (X / 256)
  have b2 := l (X / 256 / 256)
  have b3 := l (X / 256 / 256 / 256)
  have b4 := l (X / 256 / 256 / 256 / 256)
  have b5 := l (X / 256 / 256 / 256 / 256 / 256)
  have b6 := l (X / 256 / 256 / 256 / 256 / 256 / 256)
  have b7 := l (X / 256 / 256 / 256 / 256 / 256 / 256 / 256)
  generalize X % 256 = y0 at *
  generalize X / 256 % 256 = y1 at *
  generalize X / 256 / 256 % 256 = y2 at *
  generalize X / 256 / 256 / 256 % 256 = y3 at *
  generalize X / 256 / 256 / 256 / 256 % 256 = y4 at *
  generalize X / 256 / 256 / 256 / 256 / 256 % 256 = y5 at *
  generalize X / 256 / 256 / 256 / 256 / 256 / 256 % 256 = y6 at *
  generalize X / 256 / 256 / 256 / 256 / 256 / 256 / 256 % 256 = y7 at *
  have p0 := pc_t y0 b0
  have p1 := pc_t y1 b1
  have p2 := pc_t y2 b2
  have p3 := pc_t y3 b3
  have p4 := pc_t y4 b4
  have p5 := pc_t y5 b5
  have p6 := pc_t y6 b6
  have p7 := pc_t y7 b7
  -- the first step
  generalize hv1 : x - ((x.toUInt64 >>> ((1 : Int32).toInt64.toUInt64 &&& Int64.toUInt64 63)).toInt64 &&& (6148914691236517205 : Int64)) = v1
  have q1 : v1.toBitVec.toNat = hH (pcC y0) (pcC y1) (pcC y2) (pcC y3) (pcC y4) (pcC y5) (pcC y6) (pcC y7) := by
    have e : ((x.toUInt64 >>> ((1 : Int32).toInt64.toUInt64 &&& Int64.toUInt64 63)).toInt64 &&& (6148914691236517205 : Int64)).toBitVec.toNat = hH (pcE y0) (pcE y1) (pcE y2) (pcE y3) (pcE y4) (pcE y5) (pcE y6) (pcE y7) := by
      rw [i64_and, us_n x (k := 1) (by decide) (by decide), hX, hB]
      exact pc_1 b0 b1 b2 b3 b4 b5 b6 b7
    have le : hH (pcE y0) (pcE y1) (pcE y2) (pcE y3) (pcE y4) (pcE y5) (pcE y6) (pcE y7) ≤ hH y0 y1 y2 y3 y4 y5 y6 y7 := by
      unfold hH
      omega
    rw [← hv1, i64_sub (by rw [e, hX, hB]; exact le), e, hX, hB]
    unfold hH pcC
    omega
  generalize hv2 : (v1 &&& (3689348814741910323 : Int64)) + ((v1.toUInt64 >>> ((2 : Int32).toInt64.toUInt64 &&& Int64.toUInt64 63)).toInt64 &&& (3689348814741910323 : Int64)) = v2
  have fl : ∀ b, b < 256 → pcF b < 256 := fun b hb => by
    have := pc_t b hb
    omega
  have q2 : v2.toBitVec.toNat = hH (pcF y0) (pcF y1) (pcF y2) (pcF y3) (pcF y4) (pcF y5) (pcF y6) (pcF y7) := by
    have e := pc_2 b0 b1 b2 b3 b4 b5 b6 b7
    have lt := hH_lt (fl y0 b0) (fl y1 b1) (fl y2 b2) (fl y3 b3) (fl y4 b4) (fl y5 b5) (fl y6 b6) (fl y7 b7)
    have k : (3689348814741910323 : Int64).toBitVec.toNat = 3689348814741910323 := by decide
    rw [← q1] at e
    rw [← hv2, i64_add]
    · rw [i64_and, i64_and, us_n v1 (k := 2) (by decide) (by decide), k]
      exact e
    · rw [i64_and, i64_and, us_n v1 (k := 2) (by decide) (by decide), k, e]
      exact lt
  generalize hv3 : (v2 + (v2.toUInt64 >>> ((4 : Int32).toInt64.toUInt64 &&& Int64.toUInt64 63)).toInt64) &&& (1085102592571150095 : Int64) = v3
  have n0 := p0.2.2.2.2.2
  have n1 := p1.2.2.2.2.2
  have n2 := p2.2.2.2.2.2
  have n3 := p3.2.2.2.2.2
  have n4 := p4.2.2.2.2.2
  have n5 := p5.2.2.2.2.2
  have n6 := p6.2.2.2.2.2
  have n7 := p7.2.2.2.2.2
  have q3 : v3.toBitVec.toNat = hH (bcN 8 y0) (bcN 8 y1) (bcN 8 y2) (bcN 8 y3) (bcN 8 y4) (bcN 8 y5) (bcN 8 y6) (bcN 8 y7) := by
    have e := pc_3 ⟨p0.2.2.2.1, p0.2.2.2.2.1⟩ ⟨p1.2.2.2.1, p1.2.2.2.2.1⟩ ⟨p2.2.2.2.1, p2.2.2.2.2.1⟩ ⟨p3.2.2.2.1, p3.2.2.2.2.1⟩ ⟨p4.2.2.2.1, p4.2.2.2.2.1⟩ ⟨p5.2.2.2.1, p5.2.2.2.2.1⟩ ⟨p6.2.2.2.1, p6.2.2.2.2.1⟩ ⟨p7.2.2.2.1, p7.2.2.2.2.1⟩
    have k : (1085102592571150095 : Int64).toBitVec.toNat = 1085102592571150095 := by decide
    rw [n0, n1, n2, n3, n4, n5, n6, n7, ← q2] at e
    rw [← hv3, i64_and, i64_add, us_n v2 (k := 4) (by decide) (by decide), k]
    · exact e
    · rw [us_n v2 (k := 4) (by decide) (by decide), q2, Nat.shiftRight_eq_div_pow]
      unfold hH
      omega
  have g0 : bcN 8 y0 ≤ 8 := by omega
  have g1 : bcN 8 y1 ≤ 8 := by omega
  have g2 : bcN 8 y2 ≤ 8 := by omega
  have g3 : bcN 8 y3 ≤ 8 := by omega
  have g4 : bcN 8 y4 ≤ 8 := by omega
  have g5 : bcN 8 y5 ≤ 8 := by omega
  have g6 : bcN 8 y6 ≤ 8 := by omega
  have g7 : bcN 8 y7 ≤ 8 := by omega
  clear p0 p1 p2 p3 p4 p5 p6 p7 n0 n1 n2 n3 n4 n5 n6 n7 hB q1 q2 hv1 hv2 hv3 fl l cnt
  generalize bcN 8 y0 = a0 at *
  generalize bcN 8 y1 = a1 at *
  generalize bcN 8 y2 = a2 at *
  generalize bcN 8 y3 = a3 at *
  generalize bcN 8 y4 = a4 at *
  generalize bcN 8 y5 = a5 at *
  generalize bcN 8 y6 = a6 at *
  generalize bcN 8 y7 = a7 at *
  generalize hv4 : v3 + (v3.toUInt64 >>> ((8 : Int32).toInt64.toUInt64 &&& Int64.toUInt64 63)).toInt64 = v4
  have q4 : v4.toBitVec.toNat = hH (a0 + a1) (a1 + a2) (a2 + a3) (a3 + a4) (a4 + a5) (a5 + a6) (a6 + a7) a7 := by
    rw [← hv4, i64_add]
    · rw [us_n v3 (k := 8) (by decide) (by decide), q3, Nat.shiftRight_eq_div_pow]
      unfold hH
      omega
    · rw [us_n v3 (k := 8) (by decide) (by decide), q3, Nat.shiftRight_eq_div_pow]
      unfold hH
      omega
  generalize hv5 : v4 + (v4.toUInt64 >>> ((16 : Int32).toInt64.toUInt64 &&& Int64.toUInt64 63)).toInt64 = v5
  have q5 : v5.toBitVec.toNat = hH (a0 + a1 + a2 + a3) (a1 + a2 + a3 + a4) (a2 + a3 + a4 + a5) (a3 + a4 + a5 + a6) (a4 + a5 + a6 + a7) (a5 + a6 + a7) (a6 + a7) a7 := by
    rw [← hv5, i64_add]
    · rw [us_n v4 (k := 16) (by decide) (by decide), q4, Nat.shiftRight_eq_div_pow]
      unfold hH
      omega
    · rw [us_n v4 (k := 16) (by decide) (by decide), q4, Nat.shiftRight_eq_div_pow]
      unfold hH
      omega
  generalize hv6 : v5 + (v5.toUInt64 >>> ((32 : Int32).toInt64.toUInt64 &&& Int64.toUInt64 63)).toInt64 = v6
  have d6 : v5.toBitVec.toNat >>> 32 = (a4 + a5 + a6 + a7) + 256 * ((a5 + a6 + a7) + 256 * ((a6 + a7) + 256 * a7)) := by
    rw [q5, Nat.shiftRight_eq_div_pow]
    unfold hH
    omega
  have q6 : v6.toBitVec.toNat % 256 = a0 + a1 + a2 + a3 + a4 + a5 + a6 + a7 := by
    rw [← hv6, i64_add]
    · rw [us_n v5 (k := 32) (by decide) (by decide), d6, q5]
      unfold hH
      omega
    · rw [us_n v5 (k := 32) (by decide) (by decide), d6, q5]
      unfold hH
      omega
  have fin : v6.toInt32 &&& 127 = nI (a0 + a1 + a2 + a3 + a4 + a5 + a6 + a7) := by
    apply Int32.toBitVec_inj.mp
    apply BitVec.eq_of_toNat_eq
    have e1 : (nI (a0 + a1 + a2 + a3 + a4 + a5 + a6 + a7)).toBitVec.toNat = a0 + a1 + a2 + a3 + a4 + a5 + a6 + a7 := pk_tn (by omega)
    have e2 : v6.toInt32.toBitVec.toNat = v6.toBitVec.toNat % 2 ^ 32 := by
      rw [Int64.toBitVec_toInt32, BitVec.signExtend_eq_setWidth_of_le _ (by decide), BitVec.toNat_setWidth]
    have e3 : (127 : Int32).toBitVec.toNat = 127 := by decide
    rw [e1, Int32.toBitVec_and, BitVec.toNat_and, e2, e3, show (127 : Nat) = 2 ^ 7 - 1 from rfl, Nat.and_two_pow_sub_one_eq_mod]
    omega
  rw [fin]
