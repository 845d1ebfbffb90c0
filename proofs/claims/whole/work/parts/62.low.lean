/-! THE LOWEST OF A SET; sets of statements -/
theorem bc_cong {p p' : Nat → Bool} : ∀ n, (∀ d, d < n → p d = p' d) → bc n p = bc n p' := by
  intro n
  induction n with
  | zero => intro _; rfl
  | succ n ih =>
    intro h
    unfold bc
    rw [h n (by omega), ih (fun d hd => h d (by omega))]
theorem bc_le (p : Nat → Bool) : ∀ n, bc n p ≤ n := by
  intro n
  induction n with
  | zero => exact Nat.le_refl _
  | succ n ih =>
    unfold bc
    split <;> omega
theorem bc_lt {k : Nat} : ∀ n, bc n (fun d => decide (d < k)) = if n ≤ k then n else k := by
  intro n
  induction n with
  | zero => simp [bc]
  | succ n ih =>
    unfold bc
    rw [ih]
    by_cases c : n < k
    · have c1 : n ≤ k := by omega
      have c2 : n + 1 ≤ k := by omega
      simp [c, c1, c2]
    · by_cases c3 : n = k
      · subst c3
        simp
      · have c1 : ¬ n ≤ k := by omega
        have c2 : ¬ n + 1 ≤ k := by omega
        simp [c, c1, c2]
theorem bm_lowb {x : Int64} {k : Nat} (hk : k < 64) (h1 : bm x k = true) (h2 : ∀ j, j < k → bm x j = false) {d : Nat} (hd : d < 64) : bm (x &&& -x) d = decide (d = k) := by
  rw [bm_and, bm_neg x hd]
  by_cases c : d = k
  · subst c
    have : ¬ ∃ j, j < d ∧ bm x j = true := fun ⟨j, a, b⟩ => by
      rw [h2 j a] at b
      cases b
    simp [h1, this]
  · by_cases c2 : d < k
    · simp [h2 d c2, c]
    · have : ∃ j, j < d ∧ bm x j = true := ⟨k, by omega, h1⟩
      simp [this, c]
theorem s_lowest {sh : List gS} {F : Nat} {x : Int64} {k : Nat} {m : gM} (hk : k < 64) (h1 : bm x k = true) (h2 : ∀ j, j < k → bm x j = false) : f_X7_lowest sh F x m = some (nI k, m) := by
  unfold f_X7_lowest
  rw [s_bitCount, g_bs, g_nmb, g_nmb]
  have e : bc 64 (bm ((x &&& -x) - 1)) = k := by
    rw [bc_cong (p' := fun d => decide (d < k)) 64, bc_lt, if_neg (by omega)]
    intro d hd
    rw [bm_pred _ hd, bm_lowb hk h1 h2 hd]
    have : (∃ j, j < d ∧ bm (x &&& -x) j = true) ↔ k < d := by
      constructor
      · rintro ⟨j, a, b⟩
        rw [bm_lowb hk h1 h2 (by omega), decide_eq_true_eq] at b
        omega
      · intro a
        exact ⟨k, a, by rw [bm_lowb hk h1 h2 hk]; simp⟩
    by_cases c1 : d = k
    · subst c1
      simp [this]
    · by_cases c2 : k < d
      · have c3 : ¬ d < k := by omega
        simp [this, c1, c2, c3]
      · have c3 : d < k := by omega
        simp [this, c1, c2, c3]
  rw [e]
/-- a set without its lowest -/
theorem bm_rest {x : Int64} {k : Nat} (h1 : bm x k = true) (h2 : ∀ j, j < k → bm x j = false) {d : Nat} (hd : d < 64) : bm (x &&& (x - 1)) d = (bm x d && decide (d ≠ k)) := by
  rw [bm_and, bm_pred x hd]
  by_cases c : d = k
  · subst c
    have : ¬ ∃ j, j < d ∧ bm x j = true := fun ⟨j, a, b⟩ => by
      rw [h2 j a] at b
      cases b
    simp [h1, this]
  · by_cases c2 : d < k
    · simp [h2 d c2]
    · have : ∃ j, j < d ∧ bm x j = true := ⟨k, by omega, h1⟩
      cases e : bm x d
      · simp
      · simp [this, c]
/-! sets of statements: an int -/
def cm (x : Int32) (d : Nat) : Bool := x.toBitVec.getLsbD d
theorem cm_or (x y : Int32) (d : Nat) : cm (x ||| y) d = (cm x d || cm y d) := by
  unfold cm
  rw [Int32.toBitVec_or, BitVec.getLsbD_or]
theorem cm_and (x y : Int32) (d : Nat) : cm (x &&& y) d = (cm x d && cm y d) := by
  unfold cm
  rw [Int32.toBitVec_and, BitVec.getLsbD_and]
theorem cm_0 (d : Nat) : cm 0 d = false := by
  unfold cm
  show (0#32).getLsbD d = false
  rw [BitVec.getLsbD_zero]
theorem cm_no {d : Nat} (x : Int32) (h : d < 32) : cm (x ^^^ (-1)) d = !(cm x d) := by
  unfold cm
  rw [Int32.toBitVec_xor, BitVec.getLsbD_xor]
  have e : (-1 : Int32).toBitVec = BitVec.allOnes 32 := by decide
  rw [e, BitVec.getLsbD_allOnes, decide_eq_true h, Bool.xor_true]
theorem cm_ext {x y : Int32} (h : ∀ d, d < 32 → cm x d = cm y d) : x = y := by
  apply Int32.toBitVec_inj.mp
  apply BitVec.eq_of_getLsbD_eq
  intro i hi
  exact h i hi
theorem sh_c : ∀ n, n < 32 → (nI n &&& 31).toBitVec.smod 32 = BitVec.ofNat 32 n := by decide +kernel
theorem cm_bl {n : Nat} (hn : n < 32) (d : Nat) : cm (bl32 n) d = decide (d = n) := by
  unfold cm bl32
  rw [Int32.toBitVec_shiftLeft, sh_c n hn, BitVec.shiftLeft_eq', BitVec.getLsbD_shiftLeft]
  have e : (1 : Int32).toBitVec = 1#32 := by decide
  rw [e, BitVec.toNat_ofNat, Nat.mod_eq_of_lt (by omega), BitVec.getLsbD_one]
  by_cases c : d = n
  · subst c
    simp
    omega
  · simp [c]
    omega
theorem cm_bi {p : Nat → Bool} : ∀ {n : Nat}, n ≤ 32 → ∀ d, cm (bi n p) d = (decide (d < n) && p d) := by
  intro n
  induction n with
  | zero =>
    intro _ d
    simp [bi, cm_0]
  | succ n ih =>
    intro hn d
    have ih := ih (by omega) d
    unfold bi
    by_cases c : p n = true
    · rw [if_pos c, cm_or, ih, cm_bl (by omega)]
      by_cases e : d = n
      · subst e
        simp [c]
      · have : (d < n + 1) = (d < n) := by
          apply propext
          omega
        simp [e, this]
    · rw [if_neg c, ih]
      by_cases e : d = n
      · subst e
        simp [c]
      · have : (d < n + 1) = (d < n) := by
          apply propext
          omega
        simp [this]
theorem cm_nI {b d : Nat} (hb : b < 2 ^ 31) : cm (nI b) d = b.testBit d := by
  unfold cm BitVec.getLsbD
  rw [pk_tn (by omega)]
/-- bit d of an int that is not negative -/
theorem cm_sh {x : Int32} {n : Nat} (hn : n < 32) : ((x >>> (nI n &&& 31)) &&& 1 = 0) ↔ cm x n = false := by
  have e2 : ∀ d, cm 1 d = decide (d = 0) := by
    intro d
    unfold cm
    have e : (1 : Int32).toBitVec = 1#32 := by decide
    rw [e, BitVec.getLsbD_one]
    simp
  have e1 : ∀ d, cm (x >>> (nI n &&& 31) &&& 1) d = (decide (d = 0) && cm x n) := by
    intro d
    rw [cm_and, e2]
    by_cases c : d = 0
    · subst c
      unfold cm
      rw [Int32.toBitVec_shiftRight, sh_c n hn, BitVec.sshiftRight_eq', BitVec.getLsbD_sshiftRight, BitVec.toNat_ofNat, Nat.mod_eq_of_lt (by omega)]
      simp [hn]
    · simp [c]
  constructor
  · intro h
    have := e1 0
    rw [h, cm_0] at this
    simpa using this.symm
  · intro h
    apply cm_ext
    intro d hd
    rw [e1, cm_0, h, Bool.and_false]
/-- nothing left from bit n on -/
theorem cm_sh0 {x : Int32} {n : Nat} (hn : n < 32) (h : x >>> (nI n &&& 31) = 0) : ∀ d, n ≤ d → d < 32 → cm x d = false := by
  intro d h1 h2
  have : cm (x >>> (nI n &&& 31)) (d - n) = cm x d := by
    unfold cm
    rw [Int32.toBitVec_shiftRight, sh_c n hn, BitVec.sshiftRight_eq', BitVec.getLsbD_sshiftRight, BitVec.toNat_ofNat, Nat.mod_eq_of_lt (by omega)]
    have e1 : n + (d - n) = d := by omega
    rw [e1]
    have e2 : ¬ 32 ≤ d - n := by omega
    simp [e2, h2]
  rw [h, cm_0] at this
  exact this.symm
