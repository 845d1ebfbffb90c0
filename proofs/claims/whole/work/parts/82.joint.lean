/-! BOTH SIDES TOGETHER; the calls that only look -/
/-- the object and the reference know the same -/
def JP (m : gM) (tp tx pg df mn tr : Nat) (bt : Nat → Nat) (nt : Nat) (bx : Nat → Nat) (nx f : Nat) : Prop := CRf m ∧ CO m tp tx pg df mn tr ∧ TapC m tp bt nt ∧ TapC m tx bx nx ∧ CTx m pg mn bx nx ∧ m.1 0 8 = nI f ∧ PTR m ∧ WdR m ∧ TpR m bt nt ∧ RTx m bx nx ∧ m.1 62 7 = nI f
/-- all but the law's own row -/
def SB (m m' : gM) : Prop := m'.1 = m.1 ∧ (∀ c, c ≠ 109 → m'.2.1 c = m.2.1 c) ∧ m'.2.2 = m.2.2
theorem SB.refl (m : gM) : SB m m := ⟨rfl, fun _ _ => rfl, rfl⟩
theorem SB.l {m : gM} {j : Nat} {x : Int64} : SB m (gsL m 109 j x) := ⟨rfl, fun _ h => gsL_ne h, rfl⟩
section JNT
variable {F tp tx pg df mn tr : Nat} {m m' : gM} {bt bx : Nat → Nat} {nt nx f : Nat}
theorem JP.k (h : JP m tp tx pg df mn tr bt nt bx nx f) (e1 : ∀ c, c ≠ 62 → m'.1 c = m.1 c) (e2 : ∀ j, j ≠ 0 → m'.1 62 j = m.1 62 j) (e3 : ∀ c, c ≠ 109 → m'.2.1 c = m.2.1 c) (e4 : m'.2.2 = m.2.2) : JP m' tp tx pg df mn tr bt nt bx nx f := by
  obtain ⟨h1, h2, h3, h4, h5, h6, h7, h8, h9, h10, h11⟩ := h
  obtain ⟨-, o1, o2, o3⟩ := id h2
  obtain ⟨x1, x2, x3, x4, x5⟩ := h10
  refine ⟨?_, ?_, h3.k' (e1 tp (by omega)) (e1 (tp + 1) (by omega)) (by rw [e4]), h4.k' (e1 tx (by omega)) (e1 (tx + 1) (by omega)) (by rw [e4]), h5.k (by omega) (by omega) (fun c hc => ⟨e1 c (by omega), e3 c (by omega)⟩) (fun c _ => by rw [e4]), ?_, h7.eq e4, ?_, ?_, ⟨x1, ?_, x3.k (fun c a b => e1 c (by omega)) ⟨e2 10 (by decide), e2 15 (by decide), e2 20 (by decide)⟩, ?_, ?_⟩, ?_⟩
  · unfold CRf; rw [e4]; exact h1
  · unfold CO; rw [e4]; exact h2
  · rw [e1 0 (by decide)]; exact h6
  · obtain ⟨w1, w2, w3, w4⟩ := h8
    exact ⟨by rw [e4]; exact w1, by rw [e4]; exact w2, fun w hw => by rw [e1 87 (by decide)]; exact w3 w hw, fun w hw i hi => by rw [e1 86 (by decide)]; exact w4 w hw i hi⟩
  · unfold TpR; rw [e2 2 (by decide), e1 63 (by decide)]; exact h9
  · unfold TxR; rw [e2 4 (by decide), e1 64 (by decide), e4]; exact x2
  · unfold NMs; rw [e1 92 (by decide), e1 93 (by decide)]; exact x4
  · unfold RMr; rw [e1 105 (by decide), e1 106 (by decide), e3 104 (by decide)]; exact x5
  · rw [e2 7 (by decide)]; exact h11
theorem JP.sb (h : JP m tp tx pg df mn tr bt nt bx nx f) (s : SB m m') : JP m' tp tx pg df mn tr bt nt bx nx f := h.k (fun c _ => by rw [s.1]) (fun j _ => by rw [s.1]) s.2.1 s.2.2
theorem JP.code (h : JP m tp tx pg df mn tr bt nt bx nx f) (c : Int32) : JP (gsI m 62 0 c) tp tx pg df mn tr bt nt bx nx f := h.k (fun c hc => gsI_ne hc) (fun j hj => by rw [gI_1, if_neg (by omega)]) (fun _ _ => rfl) rfl
/-- a call that changes nothing but the reference's code -/
def RO (m : gM) (oc : Option (Option Int32 × gM)) (fr : gM → Option (Int32 × gM)) : Prop := ∃ o, oc = some (o, m) ∧ ∀ m', SB m m' → ∃ v c, fr m' = some (v, gsI m' 62 0 c) ∧ ((o = none ∧ c = 1) ∨ (o = some v ∧ c = 0))
theorem s_fails0 : f_X8_fails gSH F 62 0 m = some (1, gsI m 62 0 1) := by
  unfold f_X8_fails b_X8_fails_10
  rw [if_pos rfl, ob_62, g_ift, g_nmb, if_pos rfl]
theorem s_fails1 : f_X8_fails gSH F 62 1 m = some (0, gsI m 62 0 0) := by
  unfold f_X8_fails b_X8_fails_10
  rw [if_neg one0, ob_62, g_ift, g_nmb, if_neg one0]
theorem i32_in {x : Int32} {k : Nat} (hk : k < 2 ^ 31) (h0 : ¬ x < 0) (h1 : ¬ nI k ≤ x) : ∃ j, j < k ∧ x = nI j := by
  obtain ⟨n, hn, rfl⟩ := wb_of32 x
  have hlt : n < 2 ^ 31 := by
    apply Classical.byContradiction
    intro hc
    apply h0
    rw [Int32.lt_iff_toInt_lt, Int32.toInt_zero]
    have e : (nI n).toInt = (n : Int) - 2 ^ 32 := by
      show (Int32.ofNat n).toInt = _
      rw [← Int32.toInt_toBitVec]
      show (BitVec.ofNat 32 n).toInt = _
      rw [BitVec.toInt_eq_toNat_cond, BitVec.toNat_ofNat, Nat.mod_eq_of_lt hn, if_neg (by omega)]
      rfl
    rw [e]
    omega
  refine ⟨n, ?_, rfl⟩
  apply Classical.byContradiction
  intro hc
  exact h1 (nI_le (by omega) hlt)
/-- the meanings of both sides -/
theorem JP.mean (h : JP m tp tx pg df mn tr bt nt bx nx f) {r : Nat} (hr : r < pQ bx nx 0 2) : m.2.1 (mn + 2) r = m.2.1 104 r ∧ (∀ d, bm (m.2.1 104 r) d = true → d < pQ bx nx 0 1) := by
  obtain ⟨-, -, -, -, h5, -, -, -, -, h10, -⟩ := h
  have a := (h5.2.2.2 r hr).1
  have b := (h10.2.2.2.2 r hr).1
  refine ⟨?_, fun d hd => mM_d ((b d).mp hd)⟩
  apply bm_ext
  intro d _
  have : bm (m.2.1 (mn + 2) r) d = true ↔ bm (m.2.1 104 r) d = true := (a d).trans (b d).symm
  cases e1 : bm (m.2.1 (mn + 2) r) d <;> cases e2 : bm (m.2.1 104 r) d
  · rfl
  · rw [e1, e2] at this; exact absurd (this.mpr rfl) (by decide)
  · rw [e1, e2] at this; exact absurd (this.mp rfl) (by decide)
  · rfl
/-- one level alone answers -/
theorem mCn_u {q : Nat → Nat → Nat} {nk : Nat → Nat → Bool} {E : Nat → Nat → Prop} {r : Nat} : ∀ (j j' s d d' : Nat), mCn q nk E r j s d → mCn q nk E r j' s d' → j = j' := by
  intro j
  induction j with
  | zero =>
    intro j' s d d' h h'
    cases j' with
    | zero => rfl
    | succ j' => exact absurd h (h'.1 d)
  | succ j ih =>
    intro j' s d d' h h'
    cases j' with
    | zero => exact absurd h' (h.1 d')
    | succ j' => rw [ih j' _ d d' h.2.2 h'.2.2]
theorem JP.up (h : JP m tp tx pg df mn tr bt nt bx nx f) {r : Nat} (hr : r < pQ bx nx 0 2) : (m.2.1 104 r = 0 → m.1 (mn + 3) r = -1 ∧ m.1 (mn + 4) r = -1) ∧ (m.2.1 104 r ≠ 0 → m.1 (mn + 3) r = m.1 105 r ∧ m.1 (mn + 4) r = m.1 106 r ∧ (m.1 106 r = 0 ∨ m.1 106 r = 1)) := by
  have e := (h.mean hr).1
  obtain ⟨-, -, -, -, h5, -, -, -, -, h10, -⟩ := h
  have a := h5.2.2.2 r hr
  have b := h10.2.2.2.2 r hr
  refine ⟨fun z => a.2.1 (by rw [e]; exact z), fun z => ?_⟩
  obtain ⟨j, -, a1, a2, a3, a4⟩ := a.2.2 (by rw [e]; exact z)
  obtain ⟨j', b1, b2, b3, b4, b5⟩ := b.2 z
  have ej : j = j' := by
    by_cases hL : pQ bx nx 2 (pQ bx nx 6 r) = 6
    · rw [a3 hL, b4 hL]
    · obtain ⟨d, x⟩ := a4 hL
      obtain ⟨d', y⟩ := b5 hL
      exact mCn_u j j' _ d d' x y
  subst ej
  refine ⟨by rw [a1, b1], ?_⟩
  rcases a2 with ⟨x, y⟩ | ⟨x, y⟩
  · rw [x, b2 y]
    exact ⟨rfl, Or.inr rfl⟩
  · rw [x, b3 y]
    exact ⟨rfl, Or.inl rfl⟩
/-- letter -/
theorem j_letter (h : JP m tp tx pg df mn tr bt nt bx nx f) (x : Int32) : RO m (f_X7_letter gSH F 0 x m) (f_X8_letter gSH F 62 x) := by
  obtain ⟨h1, ⟨z, o1, o2, o3⟩, h3, h4, h5, h6, h7, h8, h9, ⟨x1, x2, -⟩, h11⟩ := id h
  have n4 := h4.2.2.2.1
  have otx : oB gSH tx 5 = true := (ob_tape (by omega)).1
  by_cases c0 : x < 0
  · refine ⟨none, ?_, fun m' s => ⟨0, 1, ?_, Or.inl ⟨rfl, rfl⟩⟩⟩
    · unfold f_X7_letter
      rw [if_pos c0]
    · unfold f_X8_letter b_X8_letter_17 b_X8_letter_18
      rw [if_pos c0, ob_62, g_ift, s_fails0, g_bs, g_nmb, g_nmb, if_neg one0]
  by_cases c1 : nI nx ≤ x
  · refine ⟨none, ?_, fun m' s => ⟨0, 1, ?_, Or.inl ⟨rfl, rfl⟩⟩⟩
    · unfold f_X7_letter
      rw [if_neg c0, ob_0, g_ift, z.2.1, g_bs, otx, g_ift, h4.2.2.1, if_neg (fun e => by
        rw [Int32.lt_iff_toInt_lt] at e
        rw [Int32.le_iff_toInt_le] at c1
        omega)]
    · unfold f_X8_letter b_X8_letter_17 b_X8_letter_18
      rw [if_neg c0, ob_62, g_ift, s.1, x2.2.1, if_pos c1, g_ift, s_fails0, g_bs, g_nmb, g_nmb, if_neg one0]
  obtain ⟨i, hi, rfl⟩ := i32_in (by omega) c0 c1
  refine ⟨some (nI (bx i)), ?_, fun m' s => ⟨nI (bx i), 0, ?_, Or.inr ⟨rfl, rfl⟩⟩⟩
  · unfold f_X7_letter
    rw [if_neg c0, ob_0, g_ift, z.2.1, g_bs, otx, g_ift, h4.2.2.1, if_pos (nI_lt hi (by omega)), g_bs, otx, g_ift, s_at h4 (by omega), g_bs, g_nmb, g_nmb, sAt_in hi]
  · unfold f_X8_letter b_X8_letter_18
    rw [if_neg c0, ob_62, g_ift, s.1, x2.2.1, if_neg c1, g_ift, s_fails1, g_bs, g_nmb, g_nmb, if_pos (rfl : (0 : Int32) = 0), g_ift, show (gsI m' 62 0 0).2.2 62 3 = some 64 by rw [gI_2, s.2.2]; exact x2.1, g_bs, show aB gSH 64 .int (nI i) = true from g_inI (N := 4000) (by omega) (by decide), g_ift, nI_clamp (by omega)]
    have : (gsI m' 62 0 0).1 64 i = nI (bx i) := by
      rw [gI_1, if_neg (by omega), s.1]
      exact (x2.2.2.2 i hi).2
    dsimp only
    rw [this]
/-- fault -/
theorem j_fault (h : JP m tp tx pg df mn tr bt nt bx nx f) : f_X7_fault gSH F 0 m = some (nI f, m) ∧ f_X8_fault gSH F 62 m = some (nI f, gsI m 62 0 0) := by
  obtain ⟨h1, h2, h3, h4, h5, h6, h7, h8, h9, h10, h11⟩ := h
  refine ⟨?_, ?_⟩
  · unfold f_X7_fault
    rw [ob_0, g_ift, h6]
  · unfold f_X8_fault
    rw [ob_62, g_ift, g_nmb, show (gsI m 62 0 0).1 62 7 = nI f by simpa [gI_1] using h11]
end JNT
