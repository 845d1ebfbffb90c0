theorem wb_tb (n : Nat) : (lN n).toBitVec = BitVec.ofNat 64 n := rfl
theorem wb_inj {a b : Int64} (h : a.toBitVec = b.toBitVec) : a = b := Int64.toBitVec_inj.mp h
theorem wb_tn {n : Nat} (h : n < 2 ^ 64) : (lN n).toBitVec.toNat = n := by rw [wb_tb, BitVec.toNat_ofNat, Nat.mod_eq_of_lt h]
theorem wb_of (x : Int64) : ∃ n, n < 2 ^ 64 ∧ x = lN n := ⟨x.toBitVec.toNat, x.toBitVec.isLt, wb_inj (by rw [wb_tb]; simp)⟩
theorem wb_of32 (x : Int32) : ∃ n, n < 2 ^ 32 ∧ x = nI n := ⟨x.toBitVec.toNat, x.toBitVec.isLt, Int32.toBitVec_inj.mp (by show _ = BitVec.ofNat 32 _; simp)⟩
theorem wb_c : ∀ k, k < 64 → ((nI k).toInt64 &&& 63) = lN k := by decide +kernel
theorem wb_cu : ∀ k, k < 64 → ((nI k).toInt64.toUInt64 &&& Int64.toUInt64 63) = UInt64.ofNat k := by decide +kernel
theorem wb_sm : ∀ k, k < 64 → (BitVec.ofNat 64 k).smod 64 = BitVec.ofNat 64 k := by decide +kernel
theorem wb_pw {a b : Nat} (h : a ≤ b) : 2 ^ b = 2 ^ a * 2 ^ (b - a) := by rw [← Nat.pow_add]; congr 1; omega
theorem wb_lt2 {a b : Nat} (h : a < b) : 2 ^ a < 2 ^ b := Nat.pow_lt_pow_right (by decide) h
theorem wb_mod (n : Nat) : lN n = lN (n % 2 ^ 64) := wb_inj (by rw [wb_tb, wb_tb]; apply BitVec.eq_of_toNat_eq; rw [BitVec.toNat_ofNat, BitVec.toNat_ofNat, Nat.mod_mod])
theorem wb_shr {n k : Nat} (hn : n < 2 ^ 64) (hk : k < 64) : ((lN n).toUInt64 >>> ((nI k).toInt64.toUInt64 &&& Int64.toUInt64 63)).toInt64 = lN (n / 2 ^ k) := by
  rw [wb_cu k hk]
  apply wb_inj
  apply BitVec.eq_of_toNat_eq
  show ((lN n).toUInt64 >>> UInt64.ofNat k).toNat = (BitVec.ofNat 64 _).toNat
  have h1 : (UInt64.ofNat k).toNat = k := by
    show (BitVec.ofNat 64 k).toNat = k
    rw [BitVec.toNat_ofNat, Nat.mod_eq_of_lt (by omega)]
  have h2 : (lN n).toUInt64.toNat = n := wb_tn hn
  rw [UInt64.toNat_shiftRight, h1, h2, Nat.mod_eq_of_lt hk, Nat.shiftRight_eq_div_pow, BitVec.toNat_ofNat, Nat.mod_eq_of_lt (Nat.lt_of_le_of_lt (Nat.div_le_self _ _) hn)]
theorem wb_shl (n : Nat) {k : Nat} (hk : k < 64) : lN n <<< ((nI k).toInt64 &&& 63) = lN (n * 2 ^ k) := by
  rw [wb_c k hk]
  apply wb_inj
  rw [Int64.toBitVec_shiftLeft, wb_tb, wb_tb, wb_tb, wb_sm k hk]
  apply BitVec.eq_of_toNat_eq
  rw [BitVec.shiftLeft_eq', BitVec.toNat_shiftLeft, BitVec.toNat_ofNat, BitVec.toNat_ofNat, BitVec.toNat_ofNat, Nat.mod_eq_of_lt (show k < 2 ^ 64 by omega), Nat.shiftLeft_eq, Nat.mul_mod, Nat.mod_mod, ← Nat.mul_mod]
theorem wb_and {a b : Nat} (ha : a < 2 ^ 64) (hb : b < 2 ^ 64) : lN a &&& lN b = lN (a &&& b) := by
  apply wb_inj
  rw [Int64.toBitVec_and, wb_tb, wb_tb, wb_tb]
  apply BitVec.eq_of_toNat_eq
  rw [BitVec.toNat_and, BitVec.toNat_ofNat, BitVec.toNat_ofNat, BitVec.toNat_ofNat, Nat.mod_eq_of_lt ha, Nat.mod_eq_of_lt hb, Nat.mod_eq_of_lt (Nat.and_lt_two_pow _ hb)]
theorem wb_or {a b : Nat} (ha : a < 2 ^ 64) (hb : b < 2 ^ 64) : lN a ||| lN b = lN (a ||| b) := by
  apply wb_inj
  rw [Int64.toBitVec_or, wb_tb, wb_tb, wb_tb]
  apply BitVec.eq_of_toNat_eq
  rw [BitVec.toNat_or, BitVec.toNat_ofNat, BitVec.toNat_ofNat, BitVec.toNat_ofNat, Nat.mod_eq_of_lt ha, Nat.mod_eq_of_lt hb, Nat.mod_eq_of_lt (Nat.or_lt_two_pow ha hb)]
theorem wb_mask {n k : Nat} (hn : n < 2 ^ 64) (hk : k < 64) : lN n &&& lN (2 ^ k - 1) = lN (n % 2 ^ k) := by
  rw [wb_and hn (by have := wb_lt2 hk; omega), Nat.and_two_pow_sub_one_eq_mod]
theorem wb_a1 {n : Nat} (hn : n < 2 ^ 64) : lN n &&& 1 = lN (n % 2) := wb_mask (k := 1) hn (by decide)
theorem wb_bit {n k : Nat} (hn : n < 2 ^ 64) (hk : k < 64) : ((lN n).toUInt64 >>> ((nI k).toInt64.toUInt64 &&& Int64.toUInt64 63)).toInt64 &&& 1 = lN (n / 2 ^ k % 2) := by
  rw [wb_shr hn hk, wb_a1 (Nat.lt_of_le_of_lt (Nat.div_le_self _ _) hn)]
theorem wb_xor {q k : Nat} (hk : k < 63) (h : 2 ^ k ≤ q) (h2 : q < 2 ^ (k + 1)) : lN q ^^^ lN (2 ^ k) = lN (q - 2 ^ k) := by
  obtain ⟨r, rfl⟩ : ∃ r, q = 2 ^ k + r := ⟨q - 2 ^ k, by omega⟩
  have hr : r < 2 ^ k := by rw [Nat.pow_succ] at h2; omega
  have hx : (2 ^ k + r) ^^^ 2 ^ k = r := by
    apply Nat.eq_of_testBit_eq
    intro i
    rw [Nat.testBit_xor, Nat.testBit_two_pow]
    rcases Nat.lt_trichotomy i k with h | h | h
    · rw [Nat.testBit_two_pow_add_gt h]
      simp [show ¬ k = i by omega]
    · subst h
      rw [Nat.testBit_two_pow_add_eq]
      simp
    · have a1 : 2 ^ (k + 1) ≤ 2 ^ i := Nat.pow_le_pow_right (by decide) h
      rw [Nat.testBit_lt_two_pow (show 2 ^ k + r < 2 ^ i by omega), Nat.testBit_lt_two_pow (show r < 2 ^ i by omega)]
      simp [show ¬ k = i by omega]
  have b1 := wb_lt2 (show k + 1 < 64 by omega)
  have b2 := wb_lt2 (show k < 64 by omega)
  apply wb_inj
  rw [Int64.toBitVec_xor, wb_tb, wb_tb, wb_tb]
  apply BitVec.eq_of_toNat_eq
  rw [BitVec.toNat_xor, BitVec.toNat_ofNat, BitVec.toNat_ofNat, BitVec.toNat_ofNat, Nat.mod_eq_of_lt (by omega : 2 ^ k + r < 2 ^ 64), Nat.mod_eq_of_lt b2, hx, Nat.add_sub_cancel_left, Nat.mod_eq_of_lt (by omega)]
/-! ===== lN: masks, 'or' of parts that don't overlap is a sum ===== -/
theorem u_tn {n : Nat} (h : n < 2 ^ 64) : (UInt64.ofNat n).toNat = n := Nat.mod_eq_of_lt h
/-! NAMES IN TWO LONGS: six bytes each -/
def pkv (f : Nat → Nat) : Nat := f 0 * 2 ^ 40 + f 1 * 2 ^ 32 + f 2 * 2 ^ 24 + f 3 * 2 ^ 16 + f 4 * 2 ^ 8 + f 5
theorem pkv_lt {f : Nat → Nat} (h : ∀ i, i < 6 → f i < 256) : pkv f < 2 ^ 48 := by
  have h0 := h 0 (by decide)
  have h1 := h 1 (by decide)
  have h2 := h 2 (by decide)
  have h3 := h 3 (by decide)
  have h4 := h 4 (by decide)
  have h5 := h 5 (by decide)
  unfold pkv
  omega
theorem pkv_at {f : Nat → Nat} (h : ∀ i, i < 6 → f i < 256) : ∀ i, i < 6 → pkv f / 2 ^ (40 - 8 * i) % 2 ^ 8 = f i := by
  have h0 := h 0 (by decide)
  have h1 := h 1 (by decide)
  have h2 := h 2 (by decide)
  have h3 := h 3 (by decide)
  have h4 := h 4 (by decide)
  have h5 := h 5 (by decide)
  intro i hi
  unfold pkv
  obtain rfl | rfl | rfl | rfl | rfl | rfl : i = 0 ∨ i = 1 ∨ i = 2 ∨ i = 3 ∨ i = 4 ∨ i = 5 := by omega
  all_goals omega
theorem pkv_inj {f g : Nat → Nat} (hf : ∀ i, i < 6 → f i < 256) (hg : ∀ i, i < 6 → g i < 256) (h : pkv f = pkv g) : ∀ i, i < 6 → f i = g i := by
  intro i hi
  rw [← pkv_at hf i hi, ← pkv_at hg i hi, h]
theorem pkv_cong {f g : Nat → Nat} (h : ∀ i, i < 6 → f i = g i) : pkv f = pkv g := by
  unfold pkv
  rw [h 0 (by decide), h 1 (by decide), h 2 (by decide), h 3 (by decide), h 4 (by decide), h 5 (by decide)]
theorem pkv_or {f g : Nat → Nat} {v : Nat} (hv : v < 256) (i : Nat) (hi : i < 6) (hf : ∀ j, j < 6 → f j < 256) (h0 : ∀ j, i ≤ j → f j = 0) (hg : ∀ j, j < 6 → g j = if j = i then v else f j) : pkv f ||| v * 2 ^ (40 - 8 * i) = pkv g := by
  have key : ∀ (a b k : Nat), b < 2 ^ k → (2 ^ k * a) ||| b = 2 ^ k * a + b := fun a b k h => (Nat.two_pow_add_eq_or_of_lt h a).symm
  have k0 := hg 0 (by decide)
  have k1 := hg 1 (by decide)
  have k2 := hg 2 (by decide)
  have k3 := hg 3 (by decide)
  have k4 := hg 4 (by decide)
  have k5 := hg 5 (by decide)
  obtain rfl | rfl | rfl | rfl | rfl | rfl : i = 0 ∨ i = 1 ∨ i = 2 ∨ i = 3 ∨ i = 4 ∨ i = 5 := by omega
  · have z0 := h0 0 (by decide)
    have z1 := h0 1 (by decide)
    have z2 := h0 2 (by decide)
    have z3 := h0 3 (by decide)
    have z4 := h0 4 (by decide)
    have z5 := h0 5 (by decide)
    have e1 : pkv f = 2 ^ 48 * 0 := by unfold pkv; omega
    rw [e1, key _ _ _ (by omega)]
    unfold pkv
    simp at k0 k1 k2 k3 k4 k5
    omega
  · have z1 := h0 1 (by decide)
    have z2 := h0 2 (by decide)
    have z3 := h0 3 (by decide)
    have z4 := h0 4 (by decide)
    have z5 := h0 5 (by decide)
    have e1 : pkv f = 2 ^ 40 * f 0 := by unfold pkv; omega
    rw [e1, key _ _ _ (by omega)]
    unfold pkv
    simp at k0 k1 k2 k3 k4 k5
    omega
  · have z2 := h0 2 (by decide)
    have z3 := h0 3 (by decide)
    have z4 := h0 4 (by decide)
    have z5 := h0 5 (by decide)
    have e1 : pkv f = 2 ^ 32 * (f 0 * 2 ^ 8 + f 1) := by unfold pkv; omega
    rw [e1, key _ _ _ (by omega)]
    unfold pkv
    simp at k0 k1 k2 k3 k4 k5
    omega
  · have z3 := h0 3 (by decide)
    have z4 := h0 4 (by decide)
    have z5 := h0 5 (by decide)
    have e1 : pkv f = 2 ^ 24 * (f 0 * 2 ^ 16 + f 1 * 2 ^ 8 + f 2) := by unfold pkv; omega
    rw [e1, key _ _ _ (by omega)]
    unfold pkv
    simp at k0 k1 k2 k3 k4 k5
    omega
  · have z4 := h0 4 (by decide)
    have z5 := h0 5 (by decide)
    have e1 : pkv f = 2 ^ 16 * (f 0 * 2 ^ 24 + f 1 * 2 ^ 16 + f 2 * 2 ^ 8 + f 3) := by unfold pkv; omega
    rw [e1, key _ _ _ (by omega)]
    unfold pkv
    simp at k0 k1 k2 k3 k4 k5
    omega
  · have z5 := h0 5 (by decide)
    have e1 : pkv f = 2 ^ 8 * (f 0 * 2 ^ 32 + f 1 * 2 ^ 24 + f 2 * 2 ^ 16 + f 3 * 2 ^ 8 + f 4) := by unfold pkv; omega
    rw [e1, key _ _ _ (by omega)]
    unfold pkv
    simp at k0 k1 k2 k3 k4 k5
    omega
/-- the bytes of a name of n bytes from s on, zeros behind -/
def nmB (b : Nat → Nat) (s n i : Nat) : Nat := if i < n then b (s + i) else 0
def nmH (b : Nat → Nat) (s n : Nat) : Int64 := lN (pkv (nmB b s n))
def nmL (b : Nat → Nat) (s n : Nat) : Int64 := lN (pkv (fun i => nmB b s n (i + 6)))
theorem s_pack {m : gM} {F i v : Nat} {b : Nat → Nat} {s : Nat} (hb : ∀ j, j ≤ i → b (s + j) < 256) (hi : i < 2 ^ 31) (hv : v = b (s + i)) (hH : m.2.1 56 3 = nmH b s i) (hL : m.2.1 56 4 = nmL b s i) :
    ∃ m', f_X6_packByte gSH F 56 (nI i) (nI v) m = some m' ∧ m'.2.1 56 3 = nmH b s (i + 1) ∧ m'.2.1 56 4 = nmL b s (i + 1) ∧ m'.1 = m.1 ∧ m'.2.2 = m.2.2 ∧ ∀ k, k ≠ 56 → m'.2.1 k = m.2.1 k := by
  subst hv
  have hv := hb i (Nat.le_refl _)
  have hB : ∀ j, nmB b s i j < 256 := by
    intro j
    unfold nmB
    split
    · exact hb j (by omega)
    · decide
  unfold f_X6_packByte
  by_cases h6 : 6 ≤ i
  · rw [if_pos (show (6 : Int32) ≤ nI i from nI_le (a := 6) h6 hi)]
    have eH : nmH b s (i + 1) = nmH b s i := by
      unfold nmH
      refine congrArg lN ?_
      apply pkv_cong
      intro j hj
      unfold nmB
      rw [if_pos (by omega), if_pos (by omega)]
    by_cases h12 : 12 ≤ i
    · rw [if_pos (show (12 : Int32) ≤ nI i from nI_le (a := 12) h12 hi)]
      refine ⟨m, rfl, by rw [eH, hH], ?_, rfl, rfl, fun _ _ => rfl⟩
      rw [hL]
      unfold nmL
      refine congrArg lN ?_
      apply pkv_cong
      intro j hj
      unfold nmB
      rw [if_pos (by omega), if_pos (by omega)]
    · rw [if_neg (show ¬ (12 : Int32) ≤ nI i from nI_ge (b := 12) (by omega) (by decide)), ob_56, g_ift, g_nmb]
      refine ⟨_, rfl, ?_, ?_, rfl, rfl, ?_⟩
      · rw [gL_2, if_neg (by decide), eH, hH]
      · rw [gL_2, if_pos ⟨rfl, rfl⟩, hL]
        have e1 : (88 : Int32) - (8 : Int32) * nI i = nI (40 - 8 * (i - 6)) := by
          rw [show (88 : Int32) = nI 88 from rfl, show (8 : Int32) = nI 8 from rfl, pk_mul, pk_sub (by omega)]
          congr 1
          omega
        have hv2 : b (s + i) * 2 ^ (40 - 8 * (i - 6)) < 2 ^ 64 := by
          have : 2 ^ (40 - 8 * (i - 6)) ≤ 2 ^ 40 := Nat.pow_le_pow_right (by decide) (by omega)
          calc b (s + i) * 2 ^ (40 - 8 * (i - 6)) ≤ 256 * 2 ^ 40 := Nat.mul_le_mul (by omega) this
            _ < 2 ^ 64 := by decide
        rw [e1, nI_l (by omega), wb_shl _ (by omega)]
        unfold nmL
        rw [wb_or (by have := pkv_lt (f := fun j => nmB b s i (j + 6)) (fun j _ => hB _); omega) hv2]
        congr 1
        apply pkv_or hv (i - 6) (by omega) (fun j _ => hB _)
        · intro j hj
          show nmB b s i (j + 6) = 0
          unfold nmB
          rw [if_neg (by omega)]
        · intro j hj
          show nmB b s (i + 1) (j + 6) = _
          unfold nmB
          by_cases e : j = i - 6
          · subst e
            rw [if_pos rfl, if_pos (by omega)]
            congr 1
            omega
          · rw [if_neg e]
            by_cases h : j + 6 < i
            · rw [if_pos (by omega), if_pos h]
            · rw [if_neg (by omega), if_neg h]
      · intro k hk
        exact gsL_ne hk
  · rw [if_neg (show ¬ (6 : Int32) ≤ nI i from nI_ge (b := 6) (by omega) (by decide)), ob_56, g_ift, g_nmb]
    refine ⟨_, rfl, ?_, ?_, rfl, rfl, ?_⟩
    · rw [gL_2, if_pos ⟨rfl, rfl⟩, hH]
      have e1 : (40 : Int32) - (8 : Int32) * nI i = nI (40 - 8 * i) := by
        rw [show (40 : Int32) = nI 40 from rfl, show (8 : Int32) = nI 8 from rfl, pk_mul, pk_sub (by omega)]
      have hv2 : b (s + i) * 2 ^ (40 - 8 * i) < 2 ^ 64 := by
        have : 2 ^ (40 - 8 * i) ≤ 2 ^ 40 := Nat.pow_le_pow_right (by decide) (by omega)
        calc b (s + i) * 2 ^ (40 - 8 * i) ≤ 256 * 2 ^ 40 := Nat.mul_le_mul (by omega) this
          _ < 2 ^ 64 := by decide
      rw [e1, nI_l (by omega), wb_shl _ (by omega)]
      unfold nmH
      rw [wb_or (by have := pkv_lt (f := nmB b s i) (fun j _ => hB _); omega) hv2]
      congr 1
      apply pkv_or hv i (by omega) (fun j _ => hB _)
      · intro j hj
        unfold nmB
        rw [if_neg (by omega)]
      · intro j hj
        unfold nmB
        by_cases e : j = i
        · subst e
          rw [if_pos rfl, if_pos (by omega)]
        · rw [if_neg e]
          by_cases h : j < i
          · rw [if_pos (by omega), if_pos h]
          · rw [if_neg (by omega), if_neg h]
    · rw [gL_2, if_neg (by decide), hL]
      unfold nmL
      refine congrArg lN ?_
      apply pkv_cong
      intro j hj
      unfold nmB
      rw [if_neg (by omega), if_neg (by omega)]
    · intro k hk
      exact gsL_ne hk
theorem s_nameByte {m : gM} {F i n s : Nat} {b : Nat → Nat} (hb : ∀ j, j < n → b (s + j) < 256) (hi : i < 12) : f_X7_nameByte gSH F (nmH b s n) (nmL b s n) (nI i) m = some (nI (nmB b s n i), m) := by
  have hB : ∀ j, nmB b s n j < 256 := by
    intro j
    unfold nmB
    split
    · exact hb j (by omega)
    · decide
  have fin : ∀ (H k v : Nat), H < 2 ^ 64 → k < 64 → H / 2 ^ k % 2 ^ 8 = v → v < 256 → b_X7_nameByte_30 gSH F (((lN H).toUInt64 >>> ((nI k).toInt64.toUInt64 &&& Int64.toUInt64 63)).toInt64) m = some (nI v, m) := by
    intro H k v hH hk e hv
    unfold b_X7_nameByte_30
    rw [wb_shr hH hk, show (255 : Int64) = lN (2 ^ 8 - 1) from rfl, wb_mask (Nat.lt_of_le_of_lt (Nat.div_le_self _ _) hH) (by decide), e, lN_i]
  unfold f_X7_nameByte
  by_cases h6 : 6 ≤ i
  · rw [if_pos (show (6 : Int32) ≤ nI i from nI_le (a := 6) h6 (by omega))]
    have e1 : (88 : Int32) - (8 : Int32) * nI i = nI (40 - 8 * (i - 6)) := by
      rw [show (88 : Int32) = nI 88 from rfl, show (8 : Int32) = nI 8 from rfl, pk_mul, pk_sub (by omega)]
      congr 1
      omega
    rw [e1]
    unfold nmL
    refine fin _ _ _ (by have := pkv_lt (f := fun j => nmB b s n (j + 6)) (fun j _ => hB _); omega) (by omega) ?_ (hB _)
    rw [pkv_at (fun j _ => hB _) (i - 6) (by omega)]
    show nmB b s n (i - 6 + 6) = _
    rw [show i - 6 + 6 = i by omega]
  · rw [if_neg (show ¬ (6 : Int32) ≤ nI i from nI_ge (b := 6) (by omega) (by decide))]
    have e1 : (40 : Int32) - (8 : Int32) * nI i = nI (40 - 8 * i) := by
      rw [show (40 : Int32) = nI 40 from rfl, show (8 : Int32) = nI 8 from rfl, pk_mul, pk_sub (by omega)]
    rw [e1]
    unfold nmH
    refine fin _ _ _ (by have := pkv_lt (f := nmB b s n) (fun j _ => hB _); omega) (by omega) ?_ (hB _)
    exact pkv_at (fun j _ => hB _) i (by omega)
