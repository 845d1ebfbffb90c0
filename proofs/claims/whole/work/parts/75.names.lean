/-! NAMES: the text's tokens, the packed longs, the reference's places -/
def pR (b : Nat → Nat) (n : Nat) : Nat × Nat × (Nat → Nat → Nat) := aRun (kK b n) 4001 0 aQ0
/-- a text that reads without a fault -/
def pOk (b : Nat → Nat) (n : Nat) : Prop := (∀ i, i < n → b i < 256) ∧ n ≤ 4000 ∧ (pR b n).1 = 0
def pQ (b : Nat → Nat) (n : Nat) : Nat → Nat → Nat := (pR b n).2.2
def pE (b : Nat → Nat) (n : Nat) : Nat := (pR b n).2.1
section NAM
variable {b : Nat → Nat} {n : Nat}
theorem pQ_ok (h : pOk b n) : mQ (pQ b n) ∧ tkI (kK b n) (pE b n + 1) (pQ b n) ∧ kK b n (pE b n) = 266 ∧ ∀ t, t < pE b n → kK b n t ≠ 266 ∧ kK b n t ≠ 267 := by
  have a := kg_run 4001 0 aQ0 ⟨aS_0, aZ_0⟩ kg_0 h.2.2
  have t0 : tkI (kK b n) 0 aQ0 := by
    refine ⟨fun d hd => ?_, fun r hr => ?_, fun d d' h1 h2 => ?_, fun r r' h1 h2 => ?_, fun d r hd => ?_⟩
    · simp [aQ0] at hd
    · simp [aQ0] at hr
    · simp [aQ0] at h2
    · simp [aQ0] at h2
    · simp [aQ0] at hd
  have c := tkI_run 4001 0 aQ0 t0 (fun t h => by omega) h.2.2
  exact ⟨⟨a.1.1, a.2.1, a.2.2.1⟩, c⟩
theorem tP_le (h : pOk b n) : ∀ t, t ≤ pE b n → tP b n t ≤ n := by
  obtain ⟨-, -, -, ht⟩ := pQ_ok h
  intro t
  induction t with
  | zero => intro _; exact Nat.zero_le _
  | succ t ih =>
    intro hl
    have k := (ht t (by omega)).1
    have hs : tS b n (tP b n t) < n := by
      by_cases hc : tS b n (tP b n t) < n
      · exact hc
      · exact absurd ((tK_266 (p := tP b n t) h.1).1.mpr hc) k
    exact (tL_le hs).2
theorem tok_in (h : pOk b n) {t : Nat} (ht : t < pE b n) : kS b n t < n ∧ 1 ≤ kL b n t ∧ kS b n t + kL b n t ≤ n := by
  obtain ⟨-, -, -, hk⟩ := pQ_ok h
  have k := (hk t ht).1
  have hs : tS b n (tP b n t) < n := by
    by_cases hc : tS b n (tP b n t) < n
    · exact hc
    · exact absurd ((tK_266 (p := tP b n t) h.1).1.mpr hc) k
  exact ⟨hs, (tL_le hs).1, (tL_le hs).2⟩
theorem tok_lt (h : pOk b n) : ∀ (k t : Nat), t + k + 1 ≤ pE b n → kS b n t + kL b n t ≤ kS b n (t + k + 1) := by
  intro k
  induction k with
  | zero =>
    intro t ht
    have a := (tS_le (b := b) (tP_le h (t + 1) (by omega))).1
    exact a
  | succ k ih =>
    intro t ht
    have a := ih t (by omega)
    have c := (tS_le (b := b) (tP_le h (t + k + 1 + 1) (by omega))).1
    have d : tP b n (t + k + 1 + 1) = kS b n (t + k + 1) + kL b n (t + k + 1) := rfl
    show kS b n t + kL b n t ≤ tS b n (tP b n (t + k + 1 + 1))
    omega
theorem tok_mono (h : pOk b n) {t t' : Nat} (h1 : t < t') (h2 : t' ≤ pE b n) : kS b n t + kL b n t ≤ kS b n t' := by
  have := tok_lt h (t' - t - 1) t (by omega)
  rw [show t + (t' - t - 1) + 1 = t' by omega] at this
  exact this
theorem tok_inj (h : pOk b n) {t t' : Nat} (h1 : t < pE b n) (h2 : t' < pE b n) (e : kS b n t = kS b n t') : t = t' := by
  have a := (tok_in h h1).2.1
  have c := (tok_in h h2).2.1
  by_cases x : t < t'
  · have := tok_mono h x (by omega)
    omega
  · by_cases y : t' < t
    · have := tok_mono h y (by omega)
      omega
    · omega
theorem cIn_pos : ∀ c, c < 256 → cIn (nI c) = true → c ≠ 0 := by decide +kernel
/-- a name's bytes -/
theorem tok_name (h : pOk b n) {t : Nat} (ht : t < pE b n) (hk : kK b n t = 264) : kL b n t ≤ 12 ∧ ∀ i, i < kL b n t → b (kS b n t + i) ≠ 0 ∧ b (kS b n t + i) < 256 ∧ cIn (nI (b (kS b n t + i))) = true := by
  obtain ⟨a1, a2, a3⟩ := tok_in h ht
  have hlt : cLt (nI (b (kS b n t))) = true ∧ kL b n t ≤ 12 := by
    unfold kK tK at hk
    rw [if_pos (show tS b n (tP b n t) < n from a1)] at hk
    by_cases c1 : cLt (nI (b (tS b n (tP b n t)))) = true
    · refine ⟨c1, ?_⟩
      rw [if_pos c1] at hk
      by_cases c2 : 12 < tL b n (tP b n t)
      · rw [if_pos c2] at hk
        omega
      · show tL b n (tP b n t) ≤ 12
        omega
    · rw [if_neg c1] at hk
      by_cases c2 : cDg (nI (b (tS b n (tP b n t)))) = true
      · rw [if_pos c2] at hk
        split at hk <;> omega
      · rw [if_neg c2] at hk
        have := h.1 _ a1
        have e : b (tS b n (tP b n t)) < 256 := this
        split at hk <;> omega
  refine ⟨hlt.2, fun i hi => ?_⟩
  have e : kL b n t = runP cIn b (n - kS b n t) (kS b n t) - kS b n t := by
    show tL b n (tP b n t) = _
    unfold tL
    rw [if_pos (show tS b n (tP b n t) < n from a1), if_pos (show cLt (nI (b (tS b n (tP b n t)))) = true from hlt.1)]
    rfl
  have c := runP_all cIn b (n - kS b n t) (kS b n t) (kS b n t + i) (by omega) (by omega)
  have l := h.1 (kS b n t + i) (by omega)
  exact ⟨cIn_pos _ l c, l, c⟩
/-- two tokens are the same name -/
def nSm (b : Nat → Nat) (n t t' : Nat) : Prop := kL b n t = kL b n t' ∧ ∀ i, i < kL b n t → b (kS b n t + i) = b (kS b n t' + i)
theorem lN_inj {x y : Nat} (hx : x < 2 ^ 64) (hy : y < 2 ^ 64) (e : lN x = lN y) : x = y := by
  have a := wb_tn hx
  rw [e, wb_tn hy] at a
  exact a.symm
theorem nm_pack {s l s' l' : Nat} (h1 : l ≤ 12) (h2 : l' ≤ 12) (g : ∀ i, i < l → b (s + i) ≠ 0 ∧ b (s + i) < 256) (g' : ∀ i, i < l' → b (s' + i) ≠ 0 ∧ b (s' + i) < 256) : (nmH b s l = nmH b s' l' ∧ nmL b s l = nmL b s' l') ↔ (l = l' ∧ ∀ i, i < l → b (s + i) = b (s' + i)) := by
  have f1 : ∀ i, nmB b s l i < 256 := fun i => by
    unfold nmB
    split
    · rename_i c
      exact (g i c).2
    · omega
  have f2 : ∀ i, nmB b s' l' i < 256 := fun i => by
    unfold nmB
    split
    · rename_i c
      exact (g' i c).2
    · omega
  constructor
  · rintro ⟨e1, e2⟩
    have a1 := lN_inj (by have := pkv_lt (f := nmB b s l) (fun i _ => f1 i); omega) (by have := pkv_lt (f := nmB b s' l') (fun i _ => f2 i); omega) e1
    have a2 := lN_inj (by have := pkv_lt (f := fun i => nmB b s l (i + 6)) (fun i _ => f1 (i + 6)); omega) (by have := pkv_lt (f := fun i => nmB b s' l' (i + 6)) (fun i _ => f2 (i + 6)); omega) e2
    have c1 := pkv_inj (fun i _ => f1 i) (fun i _ => f2 i) a1
    have c2 := pkv_inj (f := fun i => nmB b s l (i + 6)) (g := fun i => nmB b s' l' (i + 6)) (fun i _ => f1 (i + 6)) (fun i _ => f2 (i + 6)) a2
    have all : ∀ i, i < 12 → nmB b s l i = nmB b s' l' i := fun i hi => by
      by_cases c : i < 6
      · exact c1 i c
      · have := c2 (i - 6) (by omega)
        rw [show i - 6 + 6 = i by omega] at this
        exact this
    have hl : l = l' := by
      by_cases x : l < l'
      · have := all l (by omega)
        unfold nmB at this
        rw [if_neg (by omega), if_pos x] at this
        exact absurd this.symm (g' l x).1
      · by_cases y : l' < l
        · have := all l' (by omega)
          unfold nmB at this
          rw [if_pos y, if_neg (by omega)] at this
          exact absurd this (g l' y).1
        · omega
    refine ⟨hl, fun i hi => ?_⟩
    have := all i (by omega)
    unfold nmB at this
    rw [if_pos hi, if_pos (by omega)] at this
    exact this
  · rintro ⟨rfl, e⟩
    have all : ∀ i, nmB b s l i = nmB b s' l i := fun i => by
      unfold nmB
      split
      · rename_i c
        exact e i c
      · rfl
    unfold nmH nmL
    rw [pkv_cong (fun i _ => all i), pkv_cong (f := fun i => nmB b s l (i + 6)) (g := fun i => nmB b s' l (i + 6)) (fun i _ => all (i + 6))]
    exact ⟨rfl, rfl⟩
theorem nm_eq (h : pOk b n) {t t' : Nat} (h1 : t < pE b n) (h2 : t' < pE b n) (k1 : kK b n t = 264) (k2 : kK b n t' = 264) : (kH b n t = kH b n t' ∧ kW b n t = kW b n t') ↔ nSm b n t t' := by
  obtain ⟨a1, a2⟩ := tok_name h h1 k1
  obtain ⟨c1, c2⟩ := tok_name h h2 k2
  exact nm_pack a1 c1 (fun i hi => ⟨(a2 i hi).1, (a2 i hi).2.1⟩) (fun i hi => ⟨(c2 i hi).1, (c2 i hi).2.1⟩)
/-- declaration d bears the name of reference r -/
def nkT (b : Nat → Nat) (n : Nat) (r d : Nat) : Bool := decide (kH b n (pQ b n 4 d) = kH b n (pQ b n 7 r) ∧ kW b n (pQ b n 4 d) = kW b n (pQ b n 7 r))
theorem tok_d (h : pOk b n) {d : Nat} (hd : d < pQ b n 0 1) : pQ b n 4 d < pE b n ∧ kK b n (pQ b n 4 d) = 264 := by
  obtain ⟨-, t, e, -⟩ := pQ_ok h
  have := t.1 d hd
  refine ⟨?_, this.2⟩
  have ne : pQ b n 4 d ≠ pE b n := fun x => by
    rw [x, e] at this
    omega
  omega
theorem tok_r (h : pOk b n) {r : Nat} (hr : r < pQ b n 0 2) : pQ b n 7 r < pE b n ∧ kK b n (pQ b n 7 r) = 264 := by
  obtain ⟨-, t, e, -⟩ := pQ_ok h
  have := t.2.1 r hr
  refine ⟨?_, this.2⟩
  have ne : pQ b n 7 r ≠ pE b n := fun x => by
    rw [x, e] at this
    omega
  omega
end NAM
/-! the object's compareNames -/
section CMP
variable {pg mn F : Nat} {m : gM} {q : Nat → Nat → Nat} {S : Nat → Nat} {H L : Nat → Int64}
theorem s_namedL (hpg : pg = 5 ∨ pg = 25) (P : PR m.2.2 pg) (C : CPr pg m q S H L) (hS : aS q) (x y : Int64) : ∀ (k N d : Nat), d + k = q 0 1 → k < N → l_X0_named_6 gSH F N (pg + 1) x y (bs d (fun d => decide (H (q 4 d) = x ∧ L (q 4 d) = y))) (nI d) m = some (bs (q 0 1) (fun d => decide (H (q 4 d) = x ∧ L (q 4 d) = y)), m) := by
  obtain ⟨o1, o2, o3, b2, b3, b4, b5, b7, b8, b9, b10, b11, b12, b13, b14, b15, b16, b17, b18, b19, l3, l8⟩ := gP hpg
  obtain ⟨r0, r1, r2, r3, r4, r5, r6, r7, r8, r9, r10, d0, d1, d2, d3, e0, e1, e2, e3⟩ := id P
  have l1 := hS.1.2.2.1
  intro k
  induction k with
  | zero =>
    intro N d hk hN
    obtain ⟨N, rfl⟩ : ∃ N', N = N' + 1 := ⟨N - 1, by omega⟩
    show b_X0_named_6 gSH F (l_X0_named_6 gSH F N) (pg + 1) x y (bs d (fun d => decide (H (q 4 d) = x ∧ L (q 4 d) = y))) (nI d) m = _
    unfold b_X0_named_6
    rw [o2, g_ift, C.1.2.1, if_pos (nI_le (by omega) (by omega)), show d = q 0 1 by omega]
  | succ k ih =>
    intro N d hk hN
    obtain ⟨N, rfl⟩ : ∃ N', N = N' + 1 := ⟨N - 1, by omega⟩
    have dd := C.2.2.1 d (by omega)
    have e48 : ∀ z, b_X0_named_48 gSH F (l_X0_named_6 gSH F N) (pg + 1) x y z (nI d) m = l_X0_named_6 gSH F N (pg + 1) x y z (nI (d + 1)) m := fun z => by
      unfold b_X0_named_48
      rw [g_nmb, nI_a1]
    have e : l_X0_named_6 gSH F (N + 1) (pg + 1) x y (bs d (fun d => decide (H (q 4 d) = x ∧ L (q 4 d) = y))) (nI d) m = l_X0_named_6 gSH F N (pg + 1) x y (bs (d + 1) (fun d => decide (H (q 4 d) = x ∧ L (q 4 d) = y))) (nI (d + 1)) m := by
      show b_X0_named_6 gSH F (l_X0_named_6 gSH F N) (pg + 1) x y (bs d (fun d => decide (H (q 4 d) = x ∧ L (q 4 d) = y))) (nI d) m = _
      unfold b_X0_named_6
      rw [o2, g_ift, C.1.2.1, if_neg (nI_ge (by omega) (by omega)), d2, g_bs, b4, g_inI (by omega) (by decide), g_ift, nI_clamp (by omega), dd.2.2.1, d3, g_bs, b5, g_inI (by omega) (by decide), g_ift, dd.2.2.2.1, g_nmb, e48, e48]
      show _ = l_X0_named_6 gSH F N (pg + 1) x y (if decide (H (q 4 d) = x ∧ L (q 4 d) = y) = true then _ else _) (nI (d + 1)) m
      by_cases c1 : H (q 4 d) = x
      · rw [if_pos c1]
        by_cases c2 : L (q 4 d) = y
        · rw [if_pos c2, if_pos (decide_eq_true ⟨c1, c2⟩)]
          rfl
        · rw [if_neg c2, if_neg (by simp [c2])]
      · rw [if_neg c1, if_neg (by simp [c1])]
    rw [e]
    exact ih N (d + 1) (by omega) (by omega)
theorem s_named (hpg : pg = 5 ∨ pg = 25) (P : PR m.2.2 pg) (C : CPr pg m q S H L) (hS : aS q) (hF : 5000 ≤ F) (x y : Int64) : f_X0_named gSH F (pg + 1) x y m = some (bs (q 0 1) (fun d => decide (H (q 4 d) = x ∧ L (q 4 d) = y)), m) := by
  have l1 := hS.1.2.2.1
  exact s_namedL hpg P C hS x y (q 0 1) F 0 (by omega) (by omega)
theorem s_compareL (hpg : pg = 5 ∨ pg = 25) (hmn : mn = 45 ∨ mn = 50) (hS : aS q) (hF : 5000 ≤ F) : ∀ (k N r : Nat) (m : gM), r + k = q 0 2 → k < N → PR m.2.2 pg → CPr pg m q S H L → m.2.2 mn 0 = some (mn + 1) → (∀ r', r' < r → m.2.1 (mn + 1) r' = bs (q 0 1) (fun d => decide (H (q 4 d) = H (q 7 r') ∧ L (q 4 d) = L (q 7 r')))) →
    ∃ m', l_X1_compareNames_7 gSH F N mn pg (pg + 6) (nI r) m = some m' ∧ (∀ r', r' < q 0 2 → m'.2.1 (mn + 1) r' = bs (q 0 1) (fun d => decide (H (q 4 d) = H (q 7 r') ∧ L (q 4 d) = L (q 7 r')))) ∧ m'.1 = m.1 ∧ (∀ c, c ≠ mn + 1 → m'.2.1 c = m.2.1 c) ∧ m'.2.2 = m.2.2 := by
  obtain ⟨o1, o2, o3, b2, b3, b4, b5, b7, b8, b9, b10, b11, b12, b13, b14, b15, b16, b17, b18, b19, l3, l8⟩ := gP hpg
  obtain ⟨om, c1, c2, c3, c4⟩ := gMn hmn
  have l2 := hS.1.2.2.2.1
  intro k
  induction k with
  | zero =>
    intro N r m hk hN P C mr hr
    obtain ⟨N, rfl⟩ : ∃ N', N = N' + 1 := ⟨N - 1, by omega⟩
    refine ⟨m, ?_, fun r' h => hr r' (by omega), rfl, fun _ _ => rfl, rfl⟩
    show b_X1_compareNames_7 gSH F (l_X1_compareNames_7 gSH F N) mn pg (pg + 6) (nI r) m = _
    unfold b_X1_compareNames_7
    rw [o3, g_ift, C.1.2.2.1, if_pos (nI_le (by omega) (by omega))]
  | succ k ih =>
    intro N r m hk hN P C mr hr
    obtain ⟨N, rfl⟩ : ∃ N', N = N' + 1 := ⟨N - 1, by omega⟩
    obtain ⟨r0, r1, r2, r3, r4, r5, r6, r7, r8, r9, r10, d0, d1, d2, d3, e0, e1, e2, e3⟩ := id P
    have rr := C.2.2.2.1 r (by omega)
    have e : l_X1_compareNames_7 gSH F (N + 1) mn pg (pg + 6) (nI r) m = l_X1_compareNames_7 gSH F N mn pg (pg + 6) (nI (r + 1)) (gsL m (mn + 1) r (bs (q 0 1) (fun d => decide (H (q 4 d) = H (q 7 r) ∧ L (q 4 d) = L (q 7 r))))) := by
      show b_X1_compareNames_7 gSH F (l_X1_compareNames_7 gSH F N) mn pg (pg + 6) (nI r) m = _
      unfold b_X1_compareNames_7
      rw [o3, g_ift, C.1.2.2.1, if_neg (nI_ge (by omega) (by omega)), om, g_ift, mr, g_bs, o1, g_ift, r0, g_bs, e2, g_bs, b9, g_inI (by omega) (by decide), g_ift, nI_clamp (by omega), rr.2.2.1, e3, g_bs, b10, g_inI (by omega) (by decide), g_ift, rr.2.2.2.1, o2, g_ift, s_named hpg P C hS hF, g_bs, g_nmb, g_nmb, c1, g_inI (by omega) (by decide), g_ift, g_nmb, g_nmb, nI_a1]
    rw [e]
    obtain ⟨m', a1, a2, a3, a4, a5⟩ := ih N (r + 1) (gsL m (mn + 1) r (bs (q 0 1) (fun d => decide (H (q 4 d) = H (q 7 r) ∧ L (q 4 d) = L (q 7 r))))) (by omega) (by omega) P (C.keep (fun c hc => ⟨rfl, gsL_ne (by omega), rfl⟩)) mr (fun r' hr' => by
      rw [gL_2]
      by_cases c : r' = r
      · rw [if_pos ⟨rfl, c⟩, c]
      · rw [if_neg (by omega)]
        exact hr r' (by omega))
    exact ⟨m', a1, a2, a3, fun c hc => (a4 c hc).trans (gsL_ne hc), a5⟩
theorem s_compareNames (hpg : pg = 5 ∨ pg = 25) (hmn : mn = 45 ∨ mn = 50) (hS : aS q) (hF : 5000 ≤ F) (P : PR m.2.2 pg) (C : CPr pg m q S H L) (mr : m.2.2 mn 0 = some (mn + 1)) :
    ∃ m', f_X1_compareNames gSH F mn pg m = some m' ∧ (∀ r', r' < q 0 2 → m'.2.1 (mn + 1) r' = bs (q 0 1) (fun d => decide (H (q 4 d) = H (q 7 r') ∧ L (q 4 d) = L (q 7 r')))) ∧ m'.1 = m.1 ∧ (∀ c, c ≠ mn + 1 → m'.2.1 c = m.2.1 c) ∧ m'.2.2 = m.2.2 := by
  obtain ⟨o1, -⟩ := gP hpg
  have l2 := hS.1.2.2.2.1
  obtain ⟨m', a1, a2⟩ := s_compareL (F := F) hpg hmn hS hF (q 0 2) F 0 m (by omega) (by omega) P C mr (fun r' h => by omega)
  refine ⟨m', ?_, a2⟩
  unfold f_X1_compareNames
  rw [o1, g_ift, P.2.1, g_bs]
  exact a1
end CMP
