/-! WRITING THE NEW TEXT: the object -/
/-- the old places i, where they come to lie, and the bytes there -/
def WP (b : Nat → Nat) (n l la : Nat) (wS wI : Nat → Bool) (P : Nat → Nat) (B c : Nat → Nat) : Prop := P 0 = 0 ∧ (∀ i, P (i + 1) = P i + (if wS i = true then l else if wI i = true then 0 else 1)) ∧ (∀ i, i < n → wS i = true → ∀ o, o < l → B (P i + o) = c o) ∧ (∀ i, i < n → wS i = false → wI i = false → B (P i) = b i) ∧ (∀ i, wI i = true ↔ ∃ s, s < i ∧ wS s = true ∧ i < s + la) ∧ (∀ s s', wS s = true → wS s' = true → s < s' → s + la ≤ s') ∧ (∀ i, i < n → b i < 256) ∧ P n ≤ 4000 ∧ n ≤ 4000 ∧ (∀ o, o < l → c o ≠ 0 ∧ c o < 256) ∧ l ≤ 12 ∧ la ≤ 12
section WRT
variable {b B c P : Nat → Nat} {n l la : Nat} {wS wI : Nat → Bool} {F : Nat} {m : gM} {t : Nat}
theorem WP.mo (h : WP b n l la wS wI P B c) {i j : Nat} (hij : i ≤ j) : P i ≤ P j := by
  have : ∀ k, P i ≤ P (i + k) := by
    intro k
    induction k with
    | zero => exact Nat.le_refl _
    | succ k ih =>
      have := h.2.1 (i + k)
      show _ ≤ P (i + k + 1)
      omega
  have := this (j - i)
  rw [show i + (j - i) = j by omega] at this
  exact this
theorem bx_nI {x : Nat} (h : x < 256) : bx (nI x) = x := by
  unfold bx
  rw [pk_tn (by omega), Nat.mod_eq_of_lt h]
theorem s_addB {k x : Nat} (h : TapC m t B k) (hk : k < 4000) (hx : x < 256) (e : B k = x) : ∃ m', f_X5_add gSH F t (nI x) m = some m' ∧ TapC m' t B (k + 1) ∧ gKeep (fun k => k ≠ t ∧ k ≠ t + 1) m m' ∧ m'.2.2 = m.2.2 := by
  obtain ⟨m', a1, a2, a3, a4⟩ := s_add (F := F) (x := nI x) h hk
  refine ⟨m', a1, ?_, a3, a4⟩
  have : upB B k (bx (nI x)) = B := by
    funext i
    unfold upB
    rw [bx_nI hx]
    split
    · rename_i z
      rw [z, e]
    · rfl
  rw [this] at a2
  exact a2
theorem s_addNameL {k : Nat} (hk : k + l ≤ 4000) (hl : l ≤ 12) (hc : ∀ o, o < l → c o ≠ 0 ∧ c o < 256) (hB : ∀ o, o < l → B (k + o) = c o) : ∀ (j N i : Nat) (m : gM), i + j = l → j < N → TapC m t B (k + i) → ∃ m', l_X5_addName_3 gSH F N t (nmH c 0 l) (nmL c 0 l) (nI i) m = some m' ∧ TapC m' t B (k + l) ∧ gKeep (fun k => k ≠ t ∧ k ≠ t + 1) m m' ∧ m'.2.2 = m.2.2 := by
  have nb : ∀ (m : gM) i, i < 12 → f_X7_nameByte gSH F (nmH c 0 l) (nmL c 0 l) (nI i) m = some (nI (nmB c 0 l i), m) := fun m i hi => s_nameByte (fun j hj => by rw [Nat.zero_add]; exact (hc j hj).2) hi
  intro j
  induction j with
  | zero =>
    intro N i m hi hN hT
    obtain ⟨N, rfl⟩ : ∃ N', N = N' + 1 := ⟨N - 1, by omega⟩
    rw [show i = l by omega] at hT
    refine ⟨m, ?_, hT, gKeep.refl m, rfl⟩
    show b_X5_addName_3 gSH F (l_X5_addName_3 gSH F N) t (nmH c 0 l) (nmL c 0 l) (nI i) m = _
    unfold b_X5_addName_3
    by_cases x : i < 12
    · have z : nmB c 0 l i = 0 := by
        unfold nmB
        rw [if_neg (by omega)]
      rw [if_neg (show ¬ (12 : Int32) ≤ nI i from nI_ge (b := 12) x (by decide)), nb m i x, g_bs, g_nmb, g_nmb, z, if_pos (show nI 0 = 0 from rfl)]
    · rw [if_pos (show (12 : Int32) ≤ nI i from nI_le (a := 12) (by omega) (by omega))]
  | succ j ih =>
    intro N i m hi hN hT
    obtain ⟨N, rfl⟩ : ∃ N', N = N' + 1 := ⟨N - 1, by omega⟩
    have ci := hc i (by omega)
    have z : nmB c 0 l i = c i := by
      unfold nmB
      rw [if_pos (by omega), Nat.zero_add]
    obtain ⟨m1, a1, a2, a3, a4⟩ := s_addB (F := F) (x := c i) hT (by omega) ci.2 (hB i (by omega))
    obtain ⟨m2, b1, b2, b3, b4⟩ := ih N (i + 1) m1 (by omega) (by omega) a2
    refine ⟨m2, ?_, b2, a3.trans b3, by rw [b4, a4]⟩
    show b_X5_addName_3 gSH F (l_X5_addName_3 gSH F N) t (nmH c 0 l) (nmL c 0 l) (nI i) m = _
    unfold b_X5_addName_3
    rw [if_neg (show ¬ (12 : Int32) ≤ nI i from nI_ge (b := 12) (by omega) (by decide)), nb m i (by omega), g_bs, g_nmb, g_nmb, z, if_neg (show ¬ nI (c i) = 0 from fun e => ci.1 ((nI_eq (b := 0) (by omega) (by omega)).mp e)), nb m i (by omega), g_bs, g_nmb, g_nmb, z, (ob_tape hT.1).1, g_ift, a1, g_bs, g_nmb, nI_a1, b1]
theorem s_addName {k : Nat} (hF : 5000 ≤ F) (hk : k + l ≤ 4000) (hl : l ≤ 12) (hc : ∀ o, o < l → c o ≠ 0 ∧ c o < 256) (hB : ∀ o, o < l → B (k + o) = c o) (hT : TapC m t B k) : ∃ m', f_X5_addName gSH F t (nmH c 0 l) (nmL c 0 l) m = some m' ∧ TapC m' t B (k + l) ∧ gKeep (fun k => k ≠ t ∧ k ≠ t + 1) m m' ∧ m'.2.2 = m.2.2 := s_addNameL hk hl hc hB l F 0 m (by omega) (by omega) hT
/-- a row of marks: what is moved, what is not yet -/
def WR (m : gM) (mk N : Nat) (s P : Nat → Nat) (H L : Nat → Int64) (hit : Nat → Bool) (nH nL : Int64) (x : Nat) : Prop := m.1 mk 4 = nI N ∧ ∀ d, d < N → (d < x → m.1 (mk + 2) d = nI (P (s d)) ∧ m.2.1 (mk + 3) d = (if hit d = true then nH else H d) ∧ m.2.1 (mk + 4) d = (if hit d = true then nL else L d)) ∧ (x ≤ d → m.1 (mk + 2) d = nI (s d) ∧ m.2.1 (mk + 3) d = H d ∧ m.2.1 (mk + 4) d = L d)
/-- the cells of marks -/
def MK (m : gM) (mk Z : Nat) : Prop := (mk = 6 ∨ mk = 11 ∨ mk = 26 ∨ mk = 31) ∧ m.2.2 mk 1 = some (mk + 2) ∧ m.2.2 mk 2 = some (mk + 3) ∧ m.2.2 mk 3 = some (mk + 4) ∧ oB gSH mk 0 = true ∧ (∀ x, aB gSH (mk + 2) .int x = inB x Z) ∧ (∀ x, aB gSH (mk + 3) .long x = inB x Z) ∧ (∀ x, aB gSH (mk + 4) .long x = inB x Z) ∧ Z < 2 ^ 31
section MRK
variable {mk N Z : Nat} {s : Nat → Nat} {H L : Nat → Int64} {hit : Nat → Bool} {nH nL : Int64} {x : Nat}
theorem s_stands (K : MK m mk Z) (hN : N ≤ Z) (w : WR m mk N s P H L hit nH nL x) (hx : x ≤ N) {i : Nat} (hi : i < 2 ^ 31) (hs : ∀ d, d < N → s d < 2 ^ 31) : f_X0_standsAt gSH F mk (nI x) (nI i) m = some (if x < N ∧ s x = i then 1 else 0, m) := by
  obtain ⟨k0, k1, k2, k3, k4, k5, k6, k7, k8⟩ := K
  have hh := s_hasM (F := F) k4 (show N < 2 ^ 31 by omega) w.1 (nI x)
  unfold f_X0_standsAt
  by_cases c : x < N
  · have v := ((w.2 x c).2 (Nat.le_refl _)).1
    have sx := hs x c
    rw [if_neg (fun z => z.elim (nI_pos (by omega)) (nI_ge c (by omega)))] at hh
    rw [k4, g_ift, hh, g_bs, g_nmb, g_nmb, if_neg one0]
    dsimp only
    rw [k1, g_bs, k5, g_inI (by omega) k8, g_ift, nI_clamp (by omega), v]
    by_cases e : s x = i
    · rw [if_pos (by rw [e]), if_pos ⟨c, e⟩]
    · rw [if_neg (fun z => e ((nI_eq (by omega) (by omega)).mp z)), if_neg (fun z => e z.2)]
  · rw [if_pos (Or.inr (nI_le (by omega) (by omega)))] at hh
    rw [k4, g_ift, hh, g_bs, g_nmb, g_nmb, if_pos (rfl : (0 : Int32) = 0), if_neg (fun z => c z.1)]
theorem s_move (K : MK m mk Z) (hN : N ≤ Z) (w : WR m mk N s P H L hit nH nL x) (hx : x < N) (h3 : m.2.1 56 3 = nH) (h4 : m.2.1 56 4 = nL) (f : Int32) (hf : f = if hit x = true then 1 else 0) : ∃ m', f_X0_move gSH F mk (nI x) (nI (P (s x))) f 56 m = some m' ∧ WR m' mk N s P H L hit nH nL (x + 1) ∧ (∀ c, c ≠ mk + 2 → m'.1 c = m.1 c) ∧ (∀ c, c ≠ mk + 3 → c ≠ mk + 4 → m'.2.1 c = m.2.1 c) ∧ m'.2.2 = m.2.2 := by
  obtain ⟨k0, k1, k2, k3, k4, k5, k6, k7, k8⟩ := K
  have v := (w.2 x hx).2 (Nat.le_refl _)
  have i1 : inB (nI x) Z = true := g_inI (by omega) k8
  have cl : (nI x).toNatClampNeg = x := nI_clamp (by omega)
  have hh := s_hasM (F := F) k4 (show N < 2 ^ 31 by omega) w.1 (nI x)
  rw [if_neg (fun z => z.elim (nI_pos (by omega)) (nI_ge hx (by omega)))] at hh
  have rd1 : ∀ d, (gsL (gsL (gsI m (mk + 2) x (nI (P (s x)))) (mk + 3) x (if hit x = true then nH else H x)) (mk + 4) x (if hit x = true then nL else L x)).1 (mk + 2) d = if d = x then nI (P (s x)) else m.1 (mk + 2) d := fun d => by
    rw [gL_1, gL_1, gI_1]
    simp
  have rd2 : ∀ d, (gsL (gsL (gsI m (mk + 2) x (nI (P (s x)))) (mk + 3) x (if hit x = true then nH else H x)) (mk + 4) x (if hit x = true then nL else L x)).2.1 (mk + 3) d = if d = x then (if hit x = true then nH else H x) else m.2.1 (mk + 3) d := fun d => by
    rw [gsL_ne (by omega), gL_2]
    simp
    rfl
  have rd3 : ∀ d, (gsL (gsL (gsI m (mk + 2) x (nI (P (s x)))) (mk + 3) x (if hit x = true then nH else H x)) (mk + 4) x (if hit x = true then nL else L x)).2.1 (mk + 4) d = if d = x then (if hit x = true then nL else L x) else m.2.1 (mk + 4) d := fun d => by
    rw [gL_2, gsL_ne (by omega)]
    simp
    rfl
  refine ⟨gsL (gsL (gsI m (mk + 2) x (nI (P (s x)))) (mk + 3) x (if hit x = true then nH else H x)) (mk + 4) x (if hit x = true then nL else L x), ?_, ⟨?_, fun d hd => ⟨fun dx => ?_, fun dx => ?_⟩⟩, fun c hc => ?_, fun c hc1 hc2 => ?_, rfl⟩
  · unfold f_X0_move b_X0_move_38 b_X0_move_62
    rw [k4, g_ift, hh, g_bs, g_nmb, g_nmb, if_neg one0]
    dsimp only
    have e1 : (gsI m (mk + 2) x (nI (P (s x)))).2.1 (mk + 3) x = H x := v.2.1
    have e2 : (gsI m (mk + 2) x (nI (P (s x)))).2.1 56 3 = nH := h3
    have e3 : ∀ y, (gsL (gsI m (mk + 2) x (nI (P (s x)))) (mk + 3) x y).2.1 (mk + 4) x = L x := fun y => by
      rw [gL_2, if_neg (by omega)]
      exact v.2.2
    have e4 : ∀ y, (gsL (gsI m (mk + 2) x (nI (P (s x)))) (mk + 3) x y).2.1 56 4 = nL := fun y => by
      rw [gL_2, if_neg (by omega)]
      exact h4
    simp only [gI_2, gL_3, k1, k2, k3, k5, k6, k7, i1, cl, g_bs, g_ift, g_nmb, ob_56]
    rw [hf]
    cases q : hit x
    · simp only [Bool.false_eq_true, if_false, if_true]
      rw [show m.2.1 (mk + 3) x = H x from v.2.1, e3]
    · simp only [if_true, if_neg one0]
      rw [show m.2.1 56 3 = nH from h3, e4]
  · rw [gL_1, gL_1, gsI_ne (by omega)]
    exact w.1
  · rw [rd1, rd2, rd3]
    by_cases z : d = x
    · rw [if_pos z, if_pos z, if_pos z, z]
      exact ⟨rfl, rfl, rfl⟩
    · rw [if_neg z, if_neg z, if_neg z]
      exact (w.2 d hd).1 (by omega)
  · have z : ¬ d = x := by omega
    rw [rd1, rd2, rd3, if_neg z, if_neg z, if_neg z]
    exact (w.2 d hd).2 (by omega)
  · rw [gL_1, gL_1, gsI_ne hc]
  · rw [gsL_ne hc2, gsL_ne hc1]
    rfl
theorem WR.k {m' : gM} (w : WR m mk N s P H L hit nH nL x) (e : ∀ c, c = mk ∨ c = mk + 2 ∨ c = mk + 3 ∨ c = mk + 4 → m'.1 c = m.1 c ∧ m'.2.1 c = m.2.1 c) : WR m' mk N s P H L hit nH nL x := by
  unfold WR
  rw [(e mk (by omega)).1, (e (mk + 2) (by omega)).1, (e (mk + 3) (by omega)).2, (e (mk + 4) (by omega)).2]
  exact w
end MRK
end WRT
