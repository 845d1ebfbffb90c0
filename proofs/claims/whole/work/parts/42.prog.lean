/-! THE CLASS'S PROGRAM against the table -/
def bl (n : Nat) : Int64 := (1 : Int64) <<< ((nI n).toInt64 &&& 63)
def bs : Nat → (Nat → Bool) → Int64
  | 0, _ => 0
  | n + 1, p => if p n = true then bs n p ||| bl n else bs n p
def bl32 (n : Nat) : Int32 := (1 : Int32) <<< (nI n &&& 31)
def bi : Nat → (Nat → Bool) → Int32
  | 0, _ => 0
  | n + 1, p => if p n = true then bi n p ||| bl32 n else bi n p
theorem bs_cong {p p' : Nat → Bool} : ∀ n, (∀ d, d < n → p d = p' d) → bs n p = bs n p' := by
  intro n
  induction n with
  | zero => intro _; rfl
  | succ n ih =>
    intro h
    unfold bs
    rw [h n (by omega), ih (fun d hd => h d (by omega))]
theorem bi_cong {p p' : Nat → Bool} : ∀ n, (∀ d, d < n → p d = p' d) → bi n p = bi n p' := by
  intro n
  induction n with
  | zero => intro _; rfl
  | succ n ih =>
    intro h
    unfold bi
    rw [h n (by omega), ih (fun d hd => h d (by omega))]
theorem bs_zero {p : Nat → Bool} : ∀ n, (∀ d, d < n → p d = false) → bs n p = 0 := by
  intro n
  induction n with
  | zero => intro _; rfl
  | succ n ih =>
    intro h
    unfold bs
    rw [h n (by omega), ih (fun d hd => h d (by omega))]
    rfl
theorem bi_zero {p : Nat → Bool} : ∀ n, (∀ d, d < n → p d = false) → bi n p = 0 := by
  intro n
  induction n with
  | zero => intro _; rfl
  | succ n ih =>
    intro h
    unfold bi
    rw [h n (by omega), ih (fun d hd => h d (by omega))]
    rfl
/-- a program's references to its rows -/
def PR (r : Nat → Nat → Option Nat) (pg : Nat) : Prop := r pg 0 = some (pg + 1) ∧ r pg 1 = some (pg + 6) ∧ r pg 2 = some (pg + 11) ∧ r pg 3 = some (pg + 12) ∧ r pg 4 = some (pg + 13) ∧ r pg 5 = some (pg + 14) ∧ r pg 6 = some (pg + 15) ∧ r pg 7 = some (pg + 16) ∧ r pg 8 = some (pg + 17) ∧ r pg 9 = some (pg + 18) ∧ r pg 10 = some (pg + 19) ∧
  r (pg + 1) 0 = some (pg + 2) ∧ r (pg + 1) 1 = some (pg + 3) ∧ r (pg + 1) 2 = some (pg + 4) ∧ r (pg + 1) 3 = some (pg + 5) ∧ r (pg + 6) 0 = some (pg + 7) ∧ r (pg + 6) 1 = some (pg + 8) ∧ r (pg + 6) 2 = some (pg + 9) ∧ r (pg + 6) 3 = some (pg + 10)
/-- the sizes of a program's rows -/
theorem gP {pg : Nat} (h : pg = 5 ∨ pg = 25) : oB gSH pg 2 = true ∧ oB gSH (pg + 1) 0 = true ∧ oB gSH (pg + 6) 0 = true ∧ (∀ x, aB gSH (pg + 2) .int x = inB x 60) ∧ (∀ x, aB gSH (pg + 3) .int x = inB x 60) ∧ (∀ x, aB gSH (pg + 4) .long x = inB x 60) ∧ (∀ x, aB gSH (pg + 5) .long x = inB x 60) ∧ (∀ x, aB gSH (pg + 7) .int x = inB x 100) ∧ (∀ x, aB gSH (pg + 8) .int x = inB x 100) ∧ (∀ x, aB gSH (pg + 9) .long x = inB x 100) ∧ (∀ x, aB gSH (pg + 10) .long x = inB x 100) ∧
  (∀ x, aB gSH (pg + 11) .int x = inB x 64) ∧ (∀ x, aB gSH (pg + 12) .int x = inB x 64) ∧ (∀ x, aB gSH (pg + 13) .long x = inB x 64) ∧ (∀ x, aB gSH (pg + 14) .int x = inB x 64) ∧ (∀ x, aB gSH (pg + 15) .int x = inB x 64) ∧ (∀ x, aB gSH (pg + 16) .int x = inB x 100) ∧ (∀ x, aB gSH (pg + 17) .int x = inB x 100) ∧ (∀ x, aB gSH (pg + 18) .int x = inB x 6) ∧ (∀ x, aB gSH (pg + 19) .int x = inB x 6) ∧ aL gSH (pg + 3) .int = some 60 ∧ aL gSH (pg + 8) .int = some 100 := by
  rcases h with rfl | rfl
  · refine ⟨by decide +kernel, by decide +kernel, by decide +kernel, fun x => rfl, fun x => rfl, fun x => rfl, fun x => rfl, fun x => rfl, fun x => rfl, fun x => rfl, fun x => rfl, fun x => rfl, fun x => rfl, fun x => rfl, fun x => rfl, fun x => rfl, fun x => rfl, fun x => rfl, fun x => rfl, fun x => rfl, by decide +kernel, by decide +kernel⟩
  · refine ⟨by decide +kernel, by decide +kernel, by decide +kernel, fun x => rfl, fun x => rfl, fun x => rfl, fun x => rfl, fun x => rfl, fun x => rfl, fun x => rfl, fun x => rfl, fun x => rfl, fun x => rfl, fun x => rfl, fun x => rfl, fun x => rfl, fun x => rfl, fun x => rfl, fun x => rfl, fun x => rfl, by decide +kernel, by decide +kernel⟩
/-- the program in cells pg .. pg + 19 is the table q, its names' places and longs by token -/
def CPr (pg : Nat) (m : gM) (q : Nat → Nat → Nat) (S : Nat → Nat) (H L : Nat → Int64) : Prop := (m.1 pg 11 = nI (q 0 0) ∧ m.1 (pg + 1) 4 = nI (q 0 1) ∧ m.1 (pg + 6) 4 = nI (q 0 2) ∧ m.1 pg 12 = nI (q 0 3)) ∧
  (∀ i, i < q 0 0 → m.1 (pg + 11) i = nI (q 1 i) - 1 ∧ m.1 (pg + 12) i = nI (q 2 i) ∧ m.2.1 (pg + 13) i = bs (q 0 1) (fun d => decide (q 3 d = i)) ∧ m.1 (pg + 14) i = bi (q 0 3) (fun s => decide (q 12 s = i))) ∧
  (∀ i, i < q 0 1 → m.1 (pg + 2) i = nI (q 3 i) ∧ m.1 (pg + 3) i = nI (S (q 4 i)) ∧ m.2.1 (pg + 4) i = H (q 4 i) ∧ m.2.1 (pg + 5) i = L (q 4 i) ∧ m.1 (pg + 15) i = nI (q 5 i) - 1) ∧
  (∀ i, i < q 0 2 → m.1 (pg + 7) i = nI (q 6 i) ∧ m.1 (pg + 8) i = nI (S (q 7 i)) ∧ m.2.1 (pg + 9) i = H (q 7 i) ∧ m.2.1 (pg + 10) i = L (q 7 i) ∧ m.1 (pg + 16) i = nI (q 8 i) - 1 ∧ m.1 (pg + 17) i = nI (q 15 i) - 1) ∧
  (∀ i, i < q 0 3 → m.1 (pg + 18) i = nI (q 13 i) ∧ m.1 (pg + 19) i = nI (q 14 i))
def pgZ (pg : Nat) (k : Nat) : Prop := k < pg ∨ pg + 19 < k
section PROG
variable {pg F : Nat} {m : gM} {q : Nat → Nat → Nat} {S : Nat → Nat} {H L : Nat → Int64}
theorem p_scope (hpg : pg = 5 ∨ pg = 25) (P : PR m.2.2 pg) (h : CPr pg m q S H L) (hS : aS q) (hn : q 0 0 < 64) (kind par : Nat) :
    ∃ m', f_X2_makeScope gSH F pg (nI kind) (nI par - 1) m = some (nI (q 0 0), m') ∧ CPr pg m' (aScope q kind par) S H L ∧ gKeep (pgZ pg) m m' ∧ m'.2.2 = m.2.2 := by
  obtain ⟨⟨a1, a2, a3, a4⟩, h2, h3, h4, h5⟩ := h
  obtain ⟨r0, r1, r2, r3, r4, r5, r6, r7, r8, r9, r10, -⟩ := P
  obtain ⟨o1, o2, o3, b2, b3, b4, b5, b7, b8, b9, b10, b11, b12, b13, b14, b15, b16, b17, b18, b19, l3, l8⟩ := gP hpg
  refine ⟨gsI (gsI (gsL (gsI (gsI m (pg + 12) (q 0 0) (nI kind)) (pg + 11) (q 0 0) (nI par - 1)) (pg + 13) (q 0 0) 0) (pg + 14) (q 0 0) 0) pg 11 (nI (q 0 0 + 1)), ?_, ⟨⟨?_, ?_, ?_, ?_⟩, fun i hi => ?_, fun i hi => ?_, fun i hi => ?_, fun i hi => ?_⟩, ?_, rfl⟩
  · unfold f_X2_makeScope
    have c0 : ¬ nI (q 0 0) < 0 := nI_pos (by omega)
    have c1 : nI (q 0 0) < 64 := nI_lt (b := 64) hn (by decide)
    have c2 : inB (nI (q 0 0)) 64 = true := g_inI hn (by decide)
    have c3 : (nI (q 0 0)).toNatClampNeg = q 0 0 := nI_clamp (by omega)
    simp [o1, a1, c0, c1, r3, r2, r4, r5, b12, b11, b13, b14, c2, c3, g_ift, g_nmb, g_bs, gI_1, gI_2, gL_1, gL_2, gL_3, nI_1, nI_pred]
  · simp [aScope, uq, gI_1]
  · simp [aScope, uq, gI_1, gL_1, a2]
  · simp [aScope, uq, gI_1, gL_1, a3]
  · simp [aScope, uq, gI_1, gL_1, a4]
  · simp [aScope, uq] at hi
    by_cases e : i = q 0 0
    · subst e
      have z1 : bs (q 0 1) (fun d => decide (q 3 d = q 0 0)) = 0 := bs_zero _ (fun d hd => by
        have := (hS.2.2.1 d hd).1
        simp
        omega)
      have z2 : bi (q 0 3) (fun d => decide (q 12 d = q 0 0)) = 0 := bi_zero _ (fun d hd => by
        have := (hS.2.2.2.2.2 d hd).1
        simp
        omega)
      simp [aScope, uq, gI_1, gL_1, gL_2, gI_2, z1, z2]
    · have := h2 i (by omega)
      simpa [aScope, uq, gI_1, gL_1, gL_2, gI_2, e] using this
  · have := h3 i (by simpa [aScope, uq] using hi)
    simpa [aScope, uq, gI_1, gL_1, gL_2, gI_2] using this
  · have := h4 i (by simpa [aScope, uq] using hi)
    simpa [aScope, uq, gI_1, gL_1, gL_2, gI_2] using this
  · have := h5 i (by simpa [aScope, uq] using hi)
    simpa [aScope, uq, gI_1, gL_1, gL_2, gI_2] using this
  · exact ((((gKeep.i (by unfold pgZ; omega)).trans (gKeep.i (by unfold pgZ; omega))).trans (gKeep.l (by unfold pgZ; omega))).trans (gKeep.i (by unfold pgZ; omega))).trans (gKeep.i (by unfold pgZ; omega))
theorem p_scopeF (hpg : pg = 5 ∨ pg = 25) (h : CPr pg m q S H L) (hn : 64 ≤ q 0 0) (hq : q 0 0 ≤ 64) (x y : Int32) : f_X2_makeScope gSH F pg x y m = some (-1, m) := by
  obtain ⟨⟨a1, a2, a3, a4⟩, h2, h3, h4, h5⟩ := h
  obtain ⟨o1, -⟩ := gP hpg
  have c0 : ¬ nI (q 0 0) < 0 := nI_pos (by omega)
  have c1 : ¬ nI (q 0 0) < 64 := nI_nlt (b := 64) hn (by omega)
  unfold f_X2_makeScope
  simp [o1, a1, c0, c1, g_ift]
theorem p_decl (hpg : pg = 5 ∨ pg = 25) (P : PR m.2.2 pg) (h : CPr pg m q S H L) (hS : aS q) (hn : q 0 1 < 60) {sc i : Nat} (hsc : sc < q 0 0) (t1 : m.1 56 1 = nI (S i)) (t2 : m.2.1 56 3 = H i) (t3 : m.2.1 56 4 = L i) :
    ∃ m', f_X2_declare gSH F pg (nI sc) 56 m = some (nI (q 0 1), m') ∧ CPr pg m' (aDecl q sc i 0) S H L ∧ gKeep (pgZ pg) m m' ∧ m'.2.2 = m.2.2 := by
  obtain ⟨⟨a1, a2, a3, a4⟩, h2, h3, h4, h5⟩ := h
  obtain ⟨r0, r1, r2, r3, r4, r5, r6, r7, r8, r9, r10, d0, d1, d2, d3, -⟩ := P
  obtain ⟨o1, o2, o3, b2, b3, b4, b5, b7, b8, b9, b10, b11, b12, b13, b14, b15, b16, b17, b18, b19, l3, l8⟩ := gP hpg
  have hq := hS.1.2.1
  have hne : pg ≠ 56 ∧ pg + 1 ≠ 56 ∧ pg + 2 ≠ 56 ∧ pg + 3 ≠ 56 ∧ pg + 4 ≠ 56 ∧ pg + 5 ≠ 56 := by omega
  obtain ⟨e0, e1, e2, e3, e4, e5⟩ := hne
  refine ⟨gsL (gsI (gsI (gsL (gsL (gsI (gsI m (pg + 2) (q 0 1) (nI sc)) (pg + 3) (q 0 1) (nI (S i))) (pg + 4) (q 0 1) (H i)) (pg + 5) (q 0 1) (L i)) (pg + 1) 4 (nI (q 0 1 + 1))) (pg + 15) (q 0 1) (-1)) (pg + 13) sc (m.2.1 (pg + 13) sc ||| bl (q 0 1)), ?_, ⟨⟨?_, ?_, ?_, ?_⟩, fun j hj => ?_, fun j hj => ?_, fun j hj => ?_, fun j hj => ?_⟩, ?_, rfl⟩
  · unfold f_X2_declare f_X0_add
    have c0 : ¬ nI (q 0 1) < 0 := nI_pos (by omega)
    have c1 : nI (q 0 1) < 60 := nI_lt (b := 60) hn (by decide)
    have c2 : inB (nI (q 0 1)) 60 = true := g_inI hn (by decide)
    have c5 : inB (nI (q 0 1)) 64 = true := g_inI (by omega) (by decide)
    have c3 : (nI (q 0 1)).toNatClampNeg = q 0 1 := nI_clamp (by omega)
    have c4 : (nI sc).toNatClampNeg = sc := nI_clamp (by omega)
    have c6 : inB (nI sc) 64 = true := g_inI (by omega) (by decide)
    have c7 : ¬ nI sc < 0 := nI_pos (by omega)
    have c8 : ¬ nI (q 0 0) ≤ nI sc := nI_ge hsc (by omega)
    simp [o1, o2, ob_56, a1, a2, r0, r6, r4, d0, d1, d2, d3, l3, c0, c1, b2, b3, b4, b5, b15, b13, c2, c3, c4, c5, c6, c7, c8, e0, e1, e2, e3, e4, e5, Ne.symm e2, Ne.symm e3, Ne.symm e4, t1, t2, t3, g_ift, g_nmb, g_bs, gI_1, gI_2, gL_1, gL_2, gL_3, nI_1, nI_pred, bl]
  · simp [aDecl, uq, gI_1, gL_1, a1]
  · simp [aDecl, uq, gI_1, gL_1]
  · simp [aDecl, uq, gI_1, gL_1, a3]
  · simp [aDecl, uq, gI_1, gL_1, a4]
  · have hj' : j < q 0 0 := by simpa [aDecl, uq] using hj
    obtain ⟨k1, k2, k3, k4⟩ := h2 j hj'
    have z1 : ∀ p : Bool, p = decide (sc = j) → bs (q 0 1 + 1) (fun d => decide ((aDecl q sc i 0) 3 d = j)) = if p = true then bs (q 0 1) (fun d => decide (q 3 d = j)) ||| bl (q 0 1) else bs (q 0 1) (fun d => decide (q 3 d = j)) := by
      intro p hp
      show (if decide ((aDecl q sc i 0) 3 (q 0 1) = j) = true then bs (q 0 1) (fun d => decide ((aDecl q sc i 0) 3 d = j)) ||| bl (q 0 1) else bs (q 0 1) (fun d => decide ((aDecl q sc i 0) 3 d = j))) = _
      have e : bs (q 0 1) (fun d => decide ((aDecl q sc i 0) 3 d = j)) = bs (q 0 1) (fun d => decide (q 3 d = j)) := bs_cong _ (fun d hd => by
        have : d ≠ q 0 1 := by omega
        simp [aDecl, uq, this])
      rw [e, hp]
      simp [aDecl, uq]
    have e01 : (aDecl q sc i 0) 0 1 = q 0 1 + 1 := by simp [aDecl, uq]
    have e03 : (aDecl q sc i 0) 0 3 = q 0 3 := by simp [aDecl, uq]
    have e12 : ∀ s, (aDecl q sc i 0) 12 s = q 12 s := by intro s; simp [aDecl, uq]
    refine ⟨by simpa [aDecl, uq, gI_1, gL_1] using k1, by simpa [aDecl, uq, gI_1, gL_1] using k2, ?_, ?_⟩
    · rw [e01]
      by_cases e : sc = j
      · subst e
        rw [z1 true (by simp), if_pos rfl]
        simp [gL_2, k3]
      · rw [z1 false (by simp [e]), if_neg (by decide)]
        simp [gL_2, gI_2, k3, Ne.symm e]
    · rw [e03]
      simp only [e12]
      simpa [gI_1, gL_1] using k4
  · simp [aDecl, uq] at hj
    by_cases e : j = q 0 1
    · subst e
      simp [aDecl, uq, gI_1, gL_1, gL_2, gI_2, nI_0]
    · have := h3 j (by omega)
      simpa [aDecl, uq, gI_1, gL_1, gL_2, gI_2, e] using this
  · have := h4 j (by simpa [aDecl, uq] using hj)
    simpa [aDecl, uq, gI_1, gL_1, gL_2, gI_2] using this
  · have := h5 j (by simpa [aDecl, uq] using hj)
    simpa [aDecl, uq, gI_1, gL_1, gL_2, gI_2] using this
  · exact ((((((gKeep.i (by unfold pgZ; omega)).trans (gKeep.i (by unfold pgZ; omega))).trans (gKeep.l (by unfold pgZ; omega))).trans (gKeep.l (by unfold pgZ; omega))).trans (gKeep.i (by unfold pgZ; omega))).trans (gKeep.i (by unfold pgZ; omega))).trans (gKeep.l (by unfold pgZ; omega))
theorem p_declF (hpg : pg = 5 ∨ pg = 25) (P : PR m.2.2 pg) (h : CPr pg m q S H L) (hn : 60 ≤ q 0 1) (hq : q 0 1 ≤ 60) (x : Int32) (t : Nat) : f_X2_declare gSH F pg x t m = some (-1, m) := by
  obtain ⟨⟨a1, a2, a3, a4⟩, h2, h3, h4, h5⟩ := h
  obtain ⟨r0, r1, r2, r3, r4, r5, r6, r7, r8, r9, r10, d0, d1, d2, d3, -⟩ := P
  obtain ⟨o1, o2, o3, b2, b3, b4, b5, b7, b8, b9, b10, b11, b12, b13, b14, b15, b16, b17, b18, b19, l3, l8⟩ := gP hpg
  have c0 : ¬ nI (q 0 1) < 0 := nI_pos (by omega)
  have c1 : ¬ nI (q 0 1) < 60 := nI_nlt (b := 60) hn (by omega)
  have c2 : (-1 : Int32) < 0 := by decide
  unfold f_X2_declare f_X0_add
  simp [o1, o2, a2, r0, d1, l3, c0, c1, c2, g_ift, g_bs, g_nmb]
theorem p_ref (hpg : pg = 5 ∨ pg = 25) (P : PR m.2.2 pg) (h : CPr pg m q S H L) (hn : q 0 2 < 100) {sc i : Nat} (t1 : m.1 56 1 = nI (S i)) (t2 : m.2.1 56 3 = H i) (t3 : m.2.1 56 4 = L i) :
    ∃ m', f_X2_refer gSH F pg (nI sc) 56 m = some (nI (q 0 2), m') ∧ CPr pg m' (aRef q sc i) S H L ∧ gKeep (pgZ pg) m m' ∧ m'.2.2 = m.2.2 := by
  obtain ⟨⟨a1, a2, a3, a4⟩, h2, h3, h4, h5⟩ := h
  obtain ⟨r0, r1, r2, r3, r4, r5, r6, r7, r8, r9, r10, d0, d1, d2, d3, g0, g1, g2, g3⟩ := P
  obtain ⟨o1, o2, o3, b2, b3, b4, b5, b7, b8, b9, b10, b11, b12, b13, b14, b15, b16, b17, b18, b19, l3, l8⟩ := gP hpg
  have hne : pg ≠ 56 ∧ pg + 6 ≠ 56 ∧ pg + 7 ≠ 56 ∧ pg + 8 ≠ 56 ∧ pg + 9 ≠ 56 ∧ pg + 10 ≠ 56 := by omega
  obtain ⟨e0, e1, e2, e3, e4, e5⟩ := hne
  refine ⟨gsI (gsI (gsI (gsL (gsL (gsI (gsI m (pg + 7) (q 0 2) (nI sc)) (pg + 8) (q 0 2) (nI (S i))) (pg + 9) (q 0 2) (H i)) (pg + 10) (q 0 2) (L i)) (pg + 6) 4 (nI (q 0 2 + 1))) (pg + 16) (q 0 2) (-1)) (pg + 17) (q 0 2) (-1), ?_, ⟨⟨?_, ?_, ?_, ?_⟩, fun j hj => ?_, fun j hj => ?_, fun j hj => ?_, fun j hj => ?_⟩, ?_, rfl⟩
  · unfold f_X2_refer f_X0_add
    have c0 : ¬ nI (q 0 2) < 0 := nI_pos (by omega)
    have c1 : nI (q 0 2) < 100 := nI_lt (b := 100) hn (by decide)
    have c2 : inB (nI (q 0 2)) 100 = true := g_inI hn (by decide)
    have c3 : (nI (q 0 2)).toNatClampNeg = q 0 2 := nI_clamp (by omega)
    simp [o1, o3, ob_56, a3, r1, r7, r8, g0, g1, g2, g3, l8, c0, c1, b7, b8, b9, b10, b16, b17, c2, c3, e0, e1, e2, e3, e4, e5, Ne.symm e2, Ne.symm e3, Ne.symm e4, t1, t2, t3, g_ift, g_nmb, g_bs, gI_1, gI_2, gL_1, gL_2, gL_3, nI_1, nI_pred]
  · simp [aRef, uq, gI_1, gL_1, a1]
  · simp [aRef, uq, gI_1, gL_1, a2]
  · simp [aRef, uq, gI_1, gL_1]
  · simp [aRef, uq, gI_1, gL_1, a4]
  · have := h2 j (by simpa [aRef, uq] using hj)
    simpa [aRef, uq, gI_1, gL_1, gL_2, gI_2] using this
  · have := h3 j (by simpa [aRef, uq] using hj)
    simpa [aRef, uq, gI_1, gL_1, gL_2, gI_2] using this
  · simp [aRef, uq] at hj
    by_cases e : j = q 0 2
    · subst e
      simp [aRef, uq, gI_1, gL_1, gL_2, gI_2, nI_0]
    · have := h4 j (by omega)
      simpa [aRef, uq, gI_1, gL_1, gL_2, gI_2, e] using this
  · have := h5 j (by simpa [aRef, uq] using hj)
    simpa [aRef, uq, gI_1, gL_1, gL_2, gI_2] using this
  · exact ((((((gKeep.i (by unfold pgZ; omega)).trans (gKeep.i (by unfold pgZ; omega))).trans (gKeep.l (by unfold pgZ; omega))).trans (gKeep.l (by unfold pgZ; omega))).trans (gKeep.i (by unfold pgZ; omega))).trans (gKeep.i (by unfold pgZ; omega))).trans (gKeep.i (by unfold pgZ; omega))
theorem p_refF (hpg : pg = 5 ∨ pg = 25) (P : PR m.2.2 pg) (h : CPr pg m q S H L) (hn : 100 ≤ q 0 2) (hq : q 0 2 ≤ 100) (x : Int32) (t : Nat) : f_X2_refer gSH F pg x t m = some (-1, m) := by
  obtain ⟨⟨a1, a2, a3, a4⟩, h2, h3, h4, h5⟩ := h
  obtain ⟨r0, r1, r2, r3, r4, r5, r6, r7, r8, r9, r10, d0, d1, d2, d3, g0, g1, g2, g3⟩ := P
  obtain ⟨o1, o2, o3, b2, b3, b4, b5, b7, b8, b9, b10, b11, b12, b13, b14, b15, b16, b17, b18, b19, l3, l8⟩ := gP hpg
  have c0 : ¬ nI (q 0 2) < 0 := nI_pos (by omega)
  have c1 : ¬ nI (q 0 2) < 100 := nI_nlt (b := 100) hn (by omega)
  have c2 : (-1 : Int32) < 0 := by decide
  unfold f_X2_refer f_X0_add
  simp [o1, o3, a3, r1, g1, l8, c0, c1, c2, g_ift, g_bs, g_nmb]
/-- the scope that a declaration has; the importer of a reference -/
theorem p_own (h : CPr pg m q S H L) {d s : Nat} : CPr pg (gsI m (pg + 15) d (nI s)) (uq q 5 d (s + 1)) S H L := by
  obtain ⟨⟨a1, a2, a3, a4⟩, h2, h3, h4, h5⟩ := h
  refine ⟨⟨?_, ?_, ?_, ?_⟩, fun j hj => ?_, fun j hj => ?_, fun j hj => ?_, fun j hj => ?_⟩
  · simp [uq, gI_1, a1]
  · simp [uq, gI_1, a2]
  · simp [uq, gI_1, a3]
  · simp [uq, gI_1, a4]
  · have := h2 j (by simpa [uq] using hj)
    simpa [uq, gI_1, gI_2] using this
  · have := h3 j (by simpa [uq] using hj)
    by_cases e : j = d
    · subst e
      simp [uq, gI_1, gI_2, nI_pred, this]
    · simpa [uq, gI_1, gI_2, e] using this
  · have := h4 j (by simpa [uq] using hj)
    simpa [uq, gI_1, gI_2] using this
  · have := h5 j (by simpa [uq] using hj)
    simpa [uq, gI_1, gI_2] using this
theorem p_imp (h : CPr pg m q S H L) {d s : Nat} : CPr pg (gsI m (pg + 16) d (nI s)) (uq q 8 d (s + 1)) S H L := by
  obtain ⟨⟨a1, a2, a3, a4⟩, h2, h3, h4, h5⟩ := h
  refine ⟨⟨?_, ?_, ?_, ?_⟩, fun j hj => ?_, fun j hj => ?_, fun j hj => ?_, fun j hj => ?_⟩
  · simp [uq, gI_1, a1]
  · simp [uq, gI_1, a2]
  · simp [uq, gI_1, a3]
  · simp [uq, gI_1, a4]
  · have := h2 j (by simpa [uq] using hj)
    simpa [uq, gI_1, gI_2] using this
  · have := h3 j (by simpa [uq] using hj)
    simpa [uq, gI_1, gI_2] using this
  · have := h4 j (by simpa [uq] using hj)
    by_cases e : j = d
    · subst e
      simp [uq, gI_1, gI_2, nI_pred, this]
    · simpa [uq, gI_1, gI_2, e] using this
  · have := h5 j (by simpa [uq] using hj)
    simpa [uq, gI_1, gI_2] using this
end PROG
