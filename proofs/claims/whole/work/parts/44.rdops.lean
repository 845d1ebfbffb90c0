/-! THE CLASS'S READER: its small steps -/
theorem ob_55 : oB gSH 55 3 = true := by decide +kernel
theorem ab_57 (x : Int32) : aB gSH 57 .int x = inB x 96 := rfl
theorem ab_58 (x : Int32) : aB gSH 58 .int x = inB x 96 := rfl
theorem ab_59 (x : Int32) : aB gSH 59 .int x = inB x 96 := rfl
theorem g_id {o : Option (Int32 × gM)} : o.bind (fun q => nm q.1 (fun r => nm q.2 (fun m => some (r, m)))) = o := by
  cases o with
  | none => rfl
  | some q => rfl
def CRd (m : gM) (q : Nat → Nat → Nat) : Prop := (m.1 55 5 = nI (q 0 4) ∧ m.1 55 6 = nI (q 0 5) - 100 ∧ m.1 55 7 = nI (q 0 6) ∧ m.1 55 8 = nI (q 0 7)) ∧ ∀ j, j < q 0 4 → m.1 57 j = nI (q 9 j) ∧ m.1 58 j = nI (q 10 j) ∧ m.1 59 j = nI (q 11 j)
def RR (r : Nat → Nat → Option Nat) (pg : Nat) : Prop := r 55 0 = some 56 ∧ r 55 1 = some 57 ∧ r 55 2 = some 58 ∧ r 55 3 = some 59 ∧ r 55 4 = some pg
theorem CPr.keep {pg : Nat} {m m' : gM} {q : Nat → Nat → Nat} {S : Nat → Nat} {H L : Nat → Int64} (h : CPr pg m q S H L) (k : gKeep (fun k => pg ≤ k ∧ k ≤ pg + 19) m m') : CPr pg m' q S H L := by
  obtain ⟨⟨a1, a2, a3, a4⟩, h2, h3, h4, h5⟩ := h
  have e : ∀ j, j ≤ 19 → m'.1 (pg + j) = m.1 (pg + j) ∧ m'.2.1 (pg + j) = m.2.1 (pg + j) := fun j hj => ⟨(k (pg + j) ⟨by omega, by omega⟩).1, (k (pg + j) ⟨by omega, by omega⟩).2.1⟩
  have e0 : m'.1 pg = m.1 pg := (e 0 (by omega)).1
  unfold CPr
  rw [e0, (e 1 (by omega)).1, (e 6 (by omega)).1, (e 11 (by omega)).1, (e 12 (by omega)).1, (e 13 (by omega)).2, (e 14 (by omega)).1, (e 2 (by omega)).1, (e 3 (by omega)).1, (e 4 (by omega)).2, (e 5 (by omega)).2, (e 15 (by omega)).1, (e 7 (by omega)).1, (e 8 (by omega)).1, (e 9 (by omega)).2, (e 10 (by omega)).2, (e 16 (by omega)).1, (e 17 (by omega)).1, (e 18 (by omega)).1, (e 19 (by omega)).1]
  exact ⟨⟨a1, a2, a3, a4⟩, h2, h3, h4, h5⟩
/-- the table's part that a program shows -/
theorem CPr.eq {pg : Nat} {m : gM} {q q' : Nat → Nat → Nat} {S : Nat → Nat} {H L : Nat → Int64} (h : CPr pg m q S H L) (e : ∀ a b, a ≠ 9 → a ≠ 10 → a ≠ 11 → (a ≠ 0 ∨ b < 4) → q' a b = q a b) : CPr pg m q' S H L := by
  have f : ∀ a, a ≠ 9 → a ≠ 10 → a ≠ 11 → a ≠ 0 → q' a = q a := fun a h1 h2 h3 h4 => funext (fun b => e a b h1 h2 h3 (Or.inl h4))
  unfold CPr at h ⊢
  rw [e 0 0 (by omega) (by omega) (by omega) (by omega), e 0 1 (by omega) (by omega) (by omega) (by omega), e 0 2 (by omega) (by omega) (by omega) (by omega), e 0 3 (by omega) (by omega) (by omega) (by omega), f 1 (by omega) (by omega) (by omega) (by omega), f 2 (by omega) (by omega) (by omega) (by omega), f 3 (by omega) (by omega) (by omega) (by omega), f 4 (by omega) (by omega) (by omega) (by omega), f 5 (by omega) (by omega) (by omega) (by omega), f 6 (by omega) (by omega) (by omega) (by omega), f 7 (by omega) (by omega) (by omega) (by omega), f 8 (by omega) (by omega) (by omega) (by omega), f 12 (by omega) (by omega) (by omega) (by omega), f 13 (by omega) (by omega) (by omega) (by omega), f 14 (by omega) (by omega) (by omega) (by omega), f 15 (by omega) (by omega) (by omega) (by omega)]
  exact h
theorem CRd.keep {m m' : gM} {q q' : Nat → Nat → Nat} (h : CRd m q) (k5 : m'.1 55 = m.1 55) (k7 : m'.1 57 = m.1 57) (k8 : m'.1 58 = m.1 58) (k9 : m'.1 59 = m.1 59) (e : ∀ a b, a = 9 ∨ a = 10 ∨ a = 11 ∨ (a = 0 ∧ (b = 4 ∨ b = 5 ∨ b = 6 ∨ b = 7)) → q' a b = q a b) : CRd m' q' := by
  obtain ⟨⟨a1, a2, a3, a4⟩, h2⟩ := h
  unfold CRd
  rw [k5, k7, k8, k9, e 0 4 (by omega), e 0 5 (by omega), e 0 6 (by omega), e 0 7 (by omega)]
  refine ⟨⟨a1, a2, a3, a4⟩, fun j hj => ?_⟩
  rw [e 9 j (by omega), e 10 j (by omega), e 11 j (by omega)]
  exact h2 j hj
section RDOPS
variable {pg F : Nat} {m : gM} {q : Nat → Nat → Nat}
theorem r_turn (s : Int32) : f_X3_turnTo gSH F 55 s m = some (0, gsI m 55 8 s) := by
  unfold f_X3_turnTo
  rw [ob_55, g_ift, g_nmb]
theorem r_turnR (h : CRd m q) (s : Nat) : CRd (gsI m 55 8 (nI s)) (aTurn q s) := by
  obtain ⟨⟨a1, a2, a3, a4⟩, h2⟩ := h
  refine ⟨⟨?_, ?_, ?_, ?_⟩, fun j hj => ?_⟩
  · simpa [aTurn, uq, gI_1] using a1
  · simpa [aTurn, uq, gI_1] using a2
  · simpa [aTurn, uq, gI_1] using a3
  · simp [aTurn, uq, gI_1]
  · have := h2 j (by simpa [aTurn, uq] using hj)
    simpa [aTurn, uq, gI_1] using this
theorem r_here (h : CRd m q) (s : Nat) : CRd (gsI m 55 7 (nI s)) (uq q 0 6 s) := by
  obtain ⟨⟨a1, a2, a3, a4⟩, h2⟩ := h
  refine ⟨⟨?_, ?_, ?_, ?_⟩, fun j hj => ?_⟩
  · simpa [uq, gI_1] using a1
  · simpa [uq, gI_1] using a2
  · simp [uq, gI_1]
  · simpa [uq, gI_1] using a4
  · have := h2 j (by simpa [uq] using hj)
    simpa [uq, gI_1] using this
theorem r_topF (R : RR m.2.2 pg) (h : CRd m q) (hd : q 0 4 ≤ 96) : f_X3_topFrame gSH F 55 m = some (nI (topF q), m) := by
  obtain ⟨⟨a1, a2, a3, a4⟩, h2⟩ := h
  obtain ⟨R0, R1, R2, R3, R4⟩ := R
  unfold f_X3_topFrame topF
  rw [ob_55, g_ift, a1]
  by_cases c : 0 < q 0 4
  · have c1 : nI (q 0 4) - 1 = nI (q 0 4 - 1) := pk_sub (b := 1) (by omega)
    rw [if_neg (nI_nle c (by omega)), if_pos c, R1, g_bs, ab_57, c1, g_inI (by omega) (by decide), g_ift, nI_clamp (by omega), (h2 (q 0 4 - 1) (by omega)).1]
  · rw [if_pos (by rw [show q 0 4 = 0 by omega]; decide), if_neg c]
    rfl
theorem r_topO (R : RR m.2.2 pg) (h : CRd m q) (hd : q 0 4 ≤ 96) : f_X3_topOuter gSH F 55 m = some (nI (topO q), m) := by
  obtain ⟨⟨a1, a2, a3, a4⟩, h2⟩ := h
  obtain ⟨R0, R1, R2, R3, R4⟩ := R
  unfold f_X3_topOuter topO
  rw [ob_55, g_ift, a1]
  by_cases c : 0 < q 0 4
  · have c1 : nI (q 0 4) - 1 = nI (q 0 4 - 1) := pk_sub (b := 1) (by omega)
    rw [if_neg (nI_nle c (by omega)), if_pos c, R2, g_bs, ab_58, c1, g_inI (by omega) (by decide), g_ift, nI_clamp (by omega), (h2 (q 0 4 - 1) (by omega)).2.1]
  · rw [if_pos (by rw [show q 0 4 = 0 by omega]; decide), if_neg c]
    rfl
theorem r_topI (R : RR m.2.2 pg) (h : CRd m q) (hd : q 0 4 ≤ 96) : f_X3_topInner gSH F 55 m = some (nI (topI q), m) := by
  obtain ⟨⟨a1, a2, a3, a4⟩, h2⟩ := h
  obtain ⟨R0, R1, R2, R3, R4⟩ := R
  unfold f_X3_topInner topI
  rw [ob_55, g_ift, a1]
  by_cases c : 0 < q 0 4
  · have c1 : nI (q 0 4) - 1 = nI (q 0 4 - 1) := pk_sub (b := 1) (by omega)
    rw [if_neg (nI_nle c (by omega)), if_pos c, R3, g_bs, ab_59, c1, g_inI (by omega) (by decide), g_ift, nI_clamp (by omega), (h2 (q 0 4 - 1) (by omega)).2.2]
  · rw [if_pos (by rw [show q 0 4 = 0 by omega]; decide), if_neg c]
    rfl
/-- cells of the reader -/
def rdC (k : Nat) : Prop := k = 55 ∨ k = 57 ∨ k = 58 ∨ k = 59
/-- what a small step leaves alone: all but the reader's cells; the longs; the references; longStart -/
def Rk (m m' : gM) : Prop := (∀ k, ¬ rdC k → m'.1 k = m.1 k) ∧ m'.2 = m.2 ∧ m'.1 55 9 = m.1 55 9
theorem Rk.refl (m : gM) : Rk m m := ⟨fun _ _ => rfl, rfl, rfl⟩
theorem Rk.trans {a b c : gM} (h : Rk a b) (k : Rk b c) : Rk a c := ⟨fun i hi => (k.1 i hi).trans (h.1 i hi), k.2.1.trans h.2.1, k.2.2.trans h.2.2⟩
theorem Rk.i {m m' : gM} {k j : Nat} {v : Int32} (h : Rk m m') (hk : rdC k) (hj : k ≠ 55 ∨ j ≠ 9) : Rk m (gsI m' k j v) := ⟨fun i hi => by
    rw [gsI_ne (show i ≠ k from fun e => hi (e ▸ hk))]
    exact h.1 i hi, h.2.1, by
    rw [gI_1, if_neg (show ¬ (55 = k ∧ 9 = j) by omega)]
    exact h.2.2⟩
theorem r_push (R : RR m.2.2 pg) (h : CRd m q) (hd : q 0 4 < 96) (f a : Nat) : ∃ m', f_X3_push gSH F 55 (nI f) (nI a) m = some m' ∧ CRd m' (aPush q f a) ∧ Rk m m' := by
  obtain ⟨⟨a1, a2, a3, a4⟩, h2⟩ := h
  obtain ⟨R0, R1, R2, R3, R4⟩ := R
  refine ⟨gsI (gsI (gsI (gsI m 57 (q 0 4) (nI f)) 58 (q 0 4) (nI (q 0 6))) 59 (q 0 4) (nI a)) 55 5 (nI (q 0 4 + 1)), ?_, ⟨⟨?_, ?_, ?_, ?_⟩, fun j hj => ?_⟩, ?_⟩
  · unfold f_X3_push
    have c0 : ¬ nI (q 0 4) < 0 := nI_pos (by omega)
    have c1 : ¬ (96 : Int32) ≤ nI (q 0 4) := nI_ge (b := 96) hd (by decide)
    have c2 : inB (nI (q 0 4)) 96 = true := g_inI hd (by decide)
    have c3 : (nI (q 0 4)).toNatClampNeg = q 0 4 := nI_clamp (by omega)
    simp [ob_55, a1, a3, R1, R2, R3, ab_57, ab_58, ab_59, c0, c1, c2, c3, g_ift, g_nmb, g_bs, gI_1, gI_2, nI_1]
  · simp [aPush, uq, gI_1]
  · simpa [aPush, uq, gI_1] using a2
  · simpa [aPush, uq, gI_1] using a3
  · simpa [aPush, uq, gI_1] using a4
  · have hj' : j < q 0 4 + 1 := by simpa [aPush, uq] using hj
    by_cases e : j = q 0 4
    · subst e
      simp [aPush, uq, gI_1]
    · have := h2 j (by omega)
      simpa [aPush, uq, gI_1, e] using this
  · exact ((((Rk.refl m).i (by unfold rdC; omega) (by omega)).i (by unfold rdC; omega) (by omega)).i (by unfold rdC; omega) (by omega)).i (by unfold rdC; omega) (by omega)
theorem r_top (R : RR m.2.2 pg) (h : CRd m q) (hd : q 0 4 ≤ 96) (hp : 0 < q 0 4) (f a : Nat) : ∃ m', f_X3_setTop gSH F 55 (nI f) (nI a) m = some m' ∧ CRd m' (aTop q f a) ∧ Rk m m' := by
  obtain ⟨⟨a1, a2, a3, a4⟩, h2⟩ := h
  obtain ⟨R0, R1, R2, R3, R4⟩ := R
  refine ⟨gsI (gsI m 57 (q 0 4 - 1) (nI f)) 59 (q 0 4 - 1) (nI a), ?_, ⟨⟨?_, ?_, ?_, ?_⟩, fun j hj => ?_⟩, ?_⟩
  · unfold f_X3_setTop
    have c0 : ¬ nI (q 0 4) ≤ 0 := nI_nle hp (by omega)
    have c4 : nI (q 0 4) - 1 = nI (q 0 4 - 1) := pk_sub (b := 1) (by omega)
    have c2 : inB (nI (q 0 4 - 1)) 96 = true := g_inI (by omega) (by decide)
    have c3 : (nI (q 0 4 - 1)).toNatClampNeg = q 0 4 - 1 := nI_clamp (by omega)
    simp [ob_55, a1, R1, R3, ab_57, ab_59, c0, c2, c3, c4, g_ift, g_nmb, g_bs, gI_1, gI_2]
  · simpa [aTop, uq, gI_1] using a1
  · simpa [aTop, uq, gI_1] using a2
  · simpa [aTop, uq, gI_1] using a3
  · simpa [aTop, uq, gI_1] using a4
  · have hj' : j < q 0 4 := by simpa [aTop, uq] using hj
    have := h2 j (by omega)
    by_cases e : j = q 0 4 - 1
    · subst e
      simp [aTop, uq, gI_1, this]
    · simpa [aTop, uq, gI_1, e] using this
  · exact ((Rk.refl m).i (by unfold rdC; omega) (by omega)).i (by unfold rdC; omega) (by omega)
theorem n100 {x : Nat} (h : x < 2 ^ 30) : (nI x - 100 < 20 ↔ x < 120) := by
  have e : (nI x - nI 100).toInt = (x : Int) - 100 := pk_sub_toInt h (by decide)
  rw [show (100 : Int32) = nI 100 from rfl, Int32.lt_iff_toInt_lt, e, show (20 : Int32).toInt = 20 by decide]
  omega
theorem n100a (x : Nat) : nI x - 100 + 1 = nI (x + 1) - 100 := by
  rw [← nI_1]
  generalize nI x = y
  rw [Int32.sub_eq_add_neg, Int32.sub_eq_add_neg, Int32.add_assoc, Int32.add_assoc]
  congr 1
theorem n100s {x : Nat} (h : 0 < x) : nI x - 100 - 1 = nI (x - 1) - 100 := by
  obtain ⟨y, rfl⟩ : ∃ y, x = y + 1 := ⟨x - 1, by omega⟩
  rw [← n100a, Nat.add_sub_cancel]
  generalize nI y - 100 = z
  rw [Int32.add_sub_cancel]
theorem r_open (h : CRd m q) (hq : q 0 5 ≤ 120) (s : Nat) : ∃ m', f_X3_openTo gSH F 55 (nI s) m = some (nI (aOpen q s).1, m') ∧ ((aOpen q s).1 = 0 → CRd m' (aOpen q s).2) ∧ Rk m m' := by
  obtain ⟨⟨a1, a2, a3, a4⟩, h2⟩ := h
  unfold f_X3_openTo aOpen
  rw [ob_55, g_ift, a2]
  by_cases c : 120 ≤ q 0 5
  · rw [if_neg (fun e => by have := (n100 (by omega)).mp e; omega), if_pos c]
    exact ⟨m, rfl, (fun h => by cases h), Rk.refl m⟩
  · rw [if_pos ((n100 (by omega)).mpr (by omega)), if_neg c, g_nmb, n100a, r_turn, g_bs, g_nmb, g_nmb]
    refine ⟨_, rfl, fun _ => r_turnR ⟨⟨?_, ?_, ?_, ?_⟩, fun j hj => ?_⟩ s, ((Rk.refl m).i (by unfold rdC; omega) (by omega)).i (by unfold rdC; omega) (by omega)⟩
    · simpa [uq, gI_1] using a1
    · simp [uq, gI_1]
    · simpa [uq, gI_1] using a3
    · simpa [uq, gI_1] using a4
    · have := h2 j (by simpa [uq] using hj)
      simpa [uq, gI_1] using this
theorem r_pop (R : RR m.2.2 pg) (h : CRd m q) (hd : q 0 4 ≤ 96) (hp : 0 < q 0 4) (s : Nat) : ∃ m', f_X3_popTo gSH F 55 (nI s) m = some (0, m') ∧ CRd m' (aPop q s) ∧ Rk m m' := by
  have ht := r_topO (F := F) R h hd
  obtain ⟨⟨a1, a2, a3, a4⟩, h2⟩ := h
  unfold f_X3_popTo
  have c4 : nI (q 0 4) - 1 = nI (q 0 4 - 1) := pk_sub (b := 1) (by omega)
  rw [ob_55, g_ift, ht, g_bs, g_nmb, g_nmb, g_nmb, g_nmb, r_turn, g_bs, g_nmb, g_nmb]
  have e5 : (gsI m 55 7 (nI (topO q))).1 55 5 - 1 = nI (q 0 4 - 1) := by
    rw [gI_1, if_neg (by decide), a1, c4]
  refine ⟨_, rfl, r_turnR ⟨⟨?_, ?_, ?_, ?_⟩, fun j hj => ?_⟩ s, (((Rk.refl m).i (by unfold rdC; omega) (by omega)).i (by unfold rdC; omega) (by omega)).i (by unfold rdC; omega) (by omega)⟩
  · simp only [e5]
    simp [uq, gI_1]
  · simpa [uq, gI_1] using a2
  · simp [uq, gI_1]
  · simpa [uq, gI_1] using a4
  · have := h2 j (by
      have : j < q 0 4 - 1 := by simpa [uq] using hj
      omega)
    simpa [uq, gI_1] using this
theorem r_close (R : RR m.2.2 pg) (h : CRd m q) (hd : q 0 4 ≤ 96) (hp : 0 < q 0 4) (h5 : 0 < q 0 5) (s : Nat) : ∃ m', f_X3_closeTo gSH F 55 (nI s) m = some (0, m') ∧ CRd m' (aClose q s) ∧ Rk m m' := by
  obtain ⟨⟨a1, a2, a3, a4⟩, h2⟩ := h
  have h' : CRd (gsI m 55 6 (nI (q 0 5 - 1) - 100)) (uq q 0 5 (q 0 5 - 1)) := by
    refine ⟨⟨?_, ?_, ?_, ?_⟩, fun j hj => ?_⟩
    · simpa [uq, gI_1] using a1
    · simp [uq, gI_1]
    · simpa [uq, gI_1] using a3
    · simpa [uq, gI_1] using a4
    · have := h2 j (by simpa [uq] using hj)
      simpa [uq, gI_1] using this
  obtain ⟨m', e1, e2, e3⟩ := r_pop (F := F) (m := gsI m 55 6 (nI (q 0 5 - 1) - 100)) (q := uq q 0 5 (q 0 5 - 1)) R h' (by simpa [uq] using hd) (by simpa [uq] using hp) s
  refine ⟨m', ?_, e2, ((Rk.refl m).i (by unfold rdC; omega) (by omega)).trans e3⟩
  unfold f_X3_closeTo
  rw [ob_55, g_ift, g_nmb, a2, n100s h5, e1, g_bs, g_nmb, g_nmb]
end RDOPS
