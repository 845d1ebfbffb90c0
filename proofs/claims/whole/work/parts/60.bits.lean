/-! SETS AS THE BITS OF A LONG -/
def bm (x : Int64) (d : Nat) : Bool := x.toBitVec.getLsbD d
theorem bm_ext {x y : Int64} (h : ∀ d, d < 64 → bm x d = bm y d) : x = y := by
  apply Int64.toBitVec_inj.mp
  apply BitVec.eq_of_getLsbD_eq
  intro i hi
  exact h i hi
theorem bm_64 {x : Int64} {d : Nat} (h : 64 ≤ d) : bm x d = false := BitVec.getLsbD_of_ge _ _ h
theorem bm_or (x y : Int64) (d : Nat) : bm (x ||| y) d = (bm x d || bm y d) := by
  unfold bm
  rw [Int64.toBitVec_or, BitVec.getLsbD_or]
theorem bm_and (x y : Int64) (d : Nat) : bm (x &&& y) d = (bm x d && bm y d) := by
  unfold bm
  rw [Int64.toBitVec_and, BitVec.getLsbD_and]
theorem bm_0 (d : Nat) : bm 0 d = false := by
  unfold bm
  show (0#64).getLsbD d = false
  rw [BitVec.getLsbD_zero]
theorem bm_no {d : Nat} (x : Int64) (h : d < 64) : bm (x ^^^ (-1)) d = !(bm x d) := by
  unfold bm
  rw [Int64.toBitVec_xor, BitVec.getLsbD_xor]
  have e : (-1 : Int64).toBitVec = BitVec.allOnes 64 := by decide
  rw [e, BitVec.getLsbD_allOnes, decide_eq_true h, Bool.xor_true]
theorem sh_n : ∀ n, n < 64 → ((nI n).toInt64 &&& 63).toBitVec.smod 64 = BitVec.ofNat 64 n := by decide +kernel
theorem bm_bl {n : Nat} (hn : n < 64) (d : Nat) : bm (bl n) d = decide (d = n) := by
  unfold bm bl
  rw [Int64.toBitVec_shiftLeft, sh_n n hn, BitVec.shiftLeft_eq', BitVec.getLsbD_shiftLeft]
  have e : (1 : Int64).toBitVec = 1#64 := by decide
  rw [e, BitVec.toNat_ofNat, Nat.mod_eq_of_lt (by omega), BitVec.getLsbD_one]
  by_cases c : d = n
  · subst c
    simp
    omega
  · simp [c]
    omega
theorem bm_bs {p : Nat → Bool} : ∀ {n : Nat}, n ≤ 64 → ∀ d, bm (bs n p) d = (decide (d < n) && p d) := by
  intro n
  induction n with
  | zero =>
    intro _ d
    simp [bs, bm_0]
  | succ n ih =>
    intro hn d
    have ih := ih (by omega) d
    unfold bs
    by_cases c : p n = true
    · rw [if_pos c, bm_or, ih, bm_bl (by omega)]
      by_cases e : d = n
      · subst e
        simp [c]
      · have : (d < n + 1) = (d < n) := by
          apply propext
          omega
        simp [e, this]
    · rw [if_neg c, ih]
      by_cases e : d = n
      · subst e
        simp [c]
      · have : (d < n + 1) = (d < n) := by
          apply propext
          omega
        simp [this]
/-- bit d of a set -/
theorem bm_sh {x : Int64} {n : Nat} (hn : n < 64) : ((x >>> ((nI n).toInt64 &&& 63)) &&& 1 = 1) ↔ bm x n = true := by
  have e1 : ∀ d, bm (x >>> ((nI n).toInt64 &&& 63) &&& 1) d = (decide (d = 0) && bm x n) := by
    intro d
    rw [bm_and]
    have e : bm 1 d = decide (d = 0) := by
      unfold bm
      have e : (1 : Int64).toBitVec = 1#64 := by decide
      rw [e, BitVec.getLsbD_one]
      simp
    rw [e]
    by_cases c : d = 0
    · subst c
      unfold bm
      rw [Int64.toBitVec_shiftRight, sh_n n hn, BitVec.sshiftRight_eq', BitVec.getLsbD_sshiftRight, BitVec.toNat_ofNat, Nat.mod_eq_of_lt (by omega)]
      simp [hn]
    · simp [c]
  have e2 : ∀ d, bm 1 d = decide (d = 0) := by
    intro d
    unfold bm
    have e : (1 : Int64).toBitVec = 1#64 := by decide
    rw [e, BitVec.getLsbD_one]
    simp
  constructor
  · intro h
    have := e1 0
    rw [h, e2] at this
    simpa using this.symm
  · intro h
    apply bm_ext
    intro d hd
    rw [e1, e2, h, Bool.and_true]
theorem bm_ne {x : Int64} (h : x ≠ 0) : ∃ k, k < 64 ∧ bm x k = true ∧ ∀ j, j < k → bm x j = false := by
  have ex : ∃ k, k < 64 ∧ bm x k = true := by
    apply Classical.byContradiction
    intro hn
    apply h
    apply bm_ext
    intro d hd
    rw [bm_0]
    cases e : bm x d with
    | false => rfl
    | true => exact absurd ⟨d, hd, e⟩ hn
  have key : ∀ n k, k ≤ n → k < 64 → bm x k = true → ∃ k, k < 64 ∧ bm x k = true ∧ ∀ j, j < k → bm x j = false := by
    intro n
    induction n with
    | zero =>
      intro k h1 h2 h3
      exact ⟨k, h2, h3, fun j hj => by omega⟩
    | succ n ih =>
      intro k h1 h2 h3
      by_cases c : ∃ j, j < k ∧ bm x j = true
      · obtain ⟨j, a, b⟩ := c
        exact ih j (by omega) (by omega) b
      · refine ⟨k, h2, h3, fun j hj => ?_⟩
        cases e : bm x j with
        | false => rfl
        | true => exact absurd ⟨j, hj, e⟩ c
  obtain ⟨k, a, b⟩ := ex
  exact key k k (Nat.le_refl _) a b
theorem bm_neg (x : Int64) {d : Nat} (hd : d < 64) : bm (-x) d = (bm x d ^^ decide (∃ j, j < d ∧ bm x j = true)) := by
  unfold bm
  rw [Int64.toBitVec_neg, BitVec.getLsbD_neg]
  simp [hd]
theorem bm_pred (x : Int64) {d : Nat} (hd : d < 64) : bm (x - 1) d = !(bm x d ^^ decide (∃ j, j < d ∧ bm x j = true)) := by
  have e : x - 1 = (-x) ^^^ (-1) := by
    apply Int64.toBitVec_inj.mp
    rw [Int64.toBitVec_sub, Int64.toBitVec_xor, Int64.toBitVec_neg]
    have e1 : (-1 : Int64).toBitVec = BitVec.allOnes 64 := by decide
    have e2 : (1 : Int64).toBitVec = 1#64 := by decide
    rw [e1, e2, BitVec.xor_allOnes, BitVec.not_neg]
  rw [e, bm_no _ hd, bm_neg x hd]
