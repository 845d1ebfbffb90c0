/-! THE REFERENCE'S READER: its memory, its small steps -/
def aGo (K : Nat → Nat) (i : Nat) (q : Nat → Nat → Nat) (i' : Nat) (q' : Nat → Nat → Nat) : Prop := i ≤ i' ∧ ∀ k, aRun K (k + (i' - i)) i q = aRun K k i' q'
def aEnd (K : Nat → Nat) (i : Nat) (q : Nat → Nat → Nat) (c i' : Nat) : Prop := i ≤ i' ∧ ∀ k, ∃ q', aRun K (k + (i' - i) + 1) i q = (c, i', q')
theorem aGo.refl {K : Nat → Nat} {i : Nat} {q : Nat → Nat → Nat} : aGo K i q i q := ⟨Nat.le_refl _, fun k => by rw [Nat.sub_self]; rfl⟩
theorem aGo.trans {K : Nat → Nat} {i j l : Nat} {q q' q'' : Nat → Nat → Nat} (h : aGo K i q j q') (g : aGo K j q' l q'') : aGo K i q l q'' := by
  refine ⟨Nat.le_trans h.1 g.1, fun k => ?_⟩
  have a := h.1
  have b := g.1
  rw [show k + (l - i) = (k + (l - j)) + (j - i) by omega, h.2, g.2]
theorem aGo.stop {K : Nat → Nat} {i j c l : Nat} {q q' : Nat → Nat → Nat} (h : aGo K i q j q') (g : aEnd K j q' c l) : aEnd K i q c l := by
  refine ⟨Nat.le_trans h.1 g.1, fun k => ?_⟩
  have a := h.1
  have b := g.1
  obtain ⟨p, hp⟩ := g.2 k
  refine ⟨p, ?_⟩
  rw [show k + (l - i) + 1 = (k + (l - j) + 1) + (j - i) by omega, h.2, hp]
theorem aGo.step {K : Nat → Nat} {i k : Nat} {q q' : Nat → Nat → Nat} (hk : K i = k) (h : aT i k q = (0, q')) (h1 : k ≠ 267) (h2 : k ≠ 266) : aGo K i q (i + 1) q' := by
  refine ⟨by omega, fun f => ?_⟩
  rw [show f + (i + 1 - i) = f + 1 by omega]
  show (if K i = 267 then _ else if (aT i (K i) q).1 = 0 then (if K i = 266 then _ else _) else _) = _
  rw [hk, if_neg h1, h, if_pos rfl, if_neg h2]
theorem aEnd.bad {K : Nat → Nat} {i : Nat} {q : Nat → Nat → Nat} (h : K i = 267) : aEnd K i q 1 i := by
  refine ⟨Nat.le_refl _, fun f => ⟨q, ?_⟩⟩
  show (if K i = 267 then _ else _) = _
  rw [if_pos h]
theorem aEnd.hit {K : Nat → Nat} {i c : Nat} {q q' : Nat → Nat → Nat} (h : K i ≠ 267) (e : aT i (K i) q = (c, q')) (hc : c ≠ 0) : aEnd K i q c i := by
  refine ⟨Nat.le_refl _, fun f => ⟨q', ?_⟩⟩
  rw [Nat.sub_self]
  show (if K i = 267 then _ else if (aT i (K i) q).1 = 0 then _ else _) = _
  rw [if_neg h, e, if_neg hc]
/-- a run that ends well, with P -/
def eWp (o : Option (Int32 × gM)) (P : Int32 → gM → Prop) : Prop := ∃ r m', o = some (r, m') ∧ P r m'
theorem eWp.bn {o : Option (Int32 × gM)} {g : Int32 → gM → Option (Int32 × gM)} {Q P : Int32 → gM → Prop} (h : eWp o Q) (k : ∀ r m, Q r m → eWp (g r m) P) : eWp (o.bind (fun x => nm x.1 (fun r => nm x.2 (fun m => g r m)))) P := by
  obtain ⟨r, m, e, hq⟩ := h
  rw [e]
  exact k r m hq
theorem eWp.tl {o : Option (Int32 × gM)} {P : Int32 → gM → Prop} (h : eWp o P) (k : ∀ r m, P r m → r = 0 ∨ r = 1) : eWp (o.bind (fun x => nm x.1 (fun r => nm x.2 (fun m => g_if (zB r) (some (r, m)))))) P := by
  refine h.bn (fun r m hp => ⟨r, m, ?_, hp⟩)
  rcases k r m hp with rfl | rfl <;> rfl
theorem eWp.tt {o : Option (Int32 × gM)} {P : Int32 → gM → Prop} (h : eWp o P) (k : ∀ r m, P r m → r = 0 ∨ r = 1) : eWp (o.bind (fun x => nm x.1 (fun r => nm x.2 (fun m => if r = 0 then some (0, m) else some (1, m))))) P := by
  refine h.bn (fun r m hp => ?_)
  rcases k r m hp with rfl | rfl
  · exact ⟨0, m, rfl, hp⟩
  · exact ⟨1, m, rfl, hp⟩
theorem eWp.mono {o : Option (Int32 × gM)} {P Q : Int32 → gM → Prop} (h : eWp o P) (k : ∀ r m, P r m → Q r m) : eWp o Q := by
  obtain ⟨r, m, e, hp⟩ := h
  exact ⟨r, m, e, k r m hp⟩
theorem eWp.so {r : Int32} {m : gM} {P : Int32 → gM → Prop} (h : P r m) : eWp (some (r, m)) P := ⟨r, m, rfl, h⟩
def plL : List Nat := [7, 10, 15, 20, 21, 37, 38, 39, 40, 41, 42, 47, 48, 49, 50, 51]
def rdR (c : Nat) : Prop := (66 ≤ c ∧ c ≤ 75) ∨ (88 ≤ c ∧ c ≤ 91)
/-- what the reading leaves alone -/
def KF (m0 m : gM) : Prop := (∀ c, c ≠ 62 → ¬ rdR c → m.1 c = m0.1 c) ∧ (∀ j, j ∉ plL → m.1 62 j = m0.1 62 j) ∧ m.2 = m0.2
theorem KF.refl (m : gM) : KF m m := ⟨fun _ _ _ => rfl, fun _ _ => rfl, rfl⟩
theorem KF.s {m0 m : gM} {j : Nat} {v : Int32} (h : KF m0 m) (hj : j ∈ plL) : KF m0 (gsI m 62 j v) := ⟨fun c hc hr => by
    rw [gsI_ne hc]
    exact h.1 c hc hr, fun i hi => by
    rw [gI_1, if_neg (show ¬ (62 = 62 ∧ i = j) from fun e => hi (e.2 ▸ hj))]
    exact h.2.1 i hi, h.2.2⟩
theorem KF.r {m0 m : gM} {c j : Nat} {v : Int32} (h : KF m0 m) (hc : rdR c) : KF m0 (gsI m c j v) := ⟨fun a ha hr => by
    rw [gsI_ne (show a ≠ c from fun e => hr (e ▸ hc))]
    exact h.1 a ha hr, fun i hi => by
    rw [gsI_ne (show 62 ≠ c by unfold rdR at hc; omega)]
    exact h.2.1 i hi, h.2.2⟩
theorem KF.k {m0 m m' : gM} (h : KF m0 m) (k : K62 fT m m') : KF m0 m' := ⟨fun c hc hr => (k.1 c hc).trans (h.1 c hc hr), fun j hj => (k.2.1 j (fun e => hj (by
    unfold fT at e
    unfold plL
    simp at e ⊢
    omega))).trans (h.2.1 j hj), k.2.2.trans h.2.2⟩
theorem KF.made {m0 m : gM} {b : Nat → Nat} {n : Nat} (k : KF m0 m) (h : MadeR m0 b n) : MadeR m b n := by
  obtain ⟨hr, hs, hle, hb⟩ := h
  refine ⟨by rw [k.2.2]; exact hr, by rw [k.2.1 6 (by decide)]; exact hs, hle, fun i hi => ⟨(hb i hi).1, ?_⟩⟩
  rw [k.1 65 (by decide) (by unfold rdR; omega)]
  exact (hb i hi).2
theorem KF.wd {m0 m : gM} (k : KF m0 m) (h : WdR m0) : WdR m := by
  obtain ⟨w1, w2, w3, w4⟩ := h
  refine ⟨by rw [k.2.2]; exact w1, by rw [k.2.2]; exact w2, fun w hw => ?_, fun w hw i hi => ?_⟩
  · rw [k.1 87 (by decide) (by unfold rdR; omega)]; exact w3 w hw
  · rw [k.1 86 (by decide) (by unfold rdR; omega)]; exact w4 w hw i hi
/-- the reference's references to its reading rows -/
def RPt (m : gM) : Prop := (m.2.2 62 8 = some 66 ∧ m.2.2 62 9 = some 67 ∧ m.2.2 62 11 = some 68 ∧ m.2.2 62 12 = some 69 ∧ m.2.2 62 13 = some 70 ∧ m.2.2 62 14 = some 71 ∧ m.2.2 62 16 = some 72 ∧ m.2.2 62 17 = some 73 ∧ m.2.2 62 18 = some 74 ∧ m.2.2 62 19 = some 75) ∧ m.2.2 62 43 = some 88 ∧ m.2.2 62 44 = some 89 ∧ m.2.2 62 45 = some 90 ∧ m.2.2 62 46 = some 91
def fk (f : Nat) : Nat := if f = 1 then 0 else if f = 11 then 1 else if f = 12 then 2 else if f = 2 then 3 else if f = 13 then 3 else 4
/-- the reference's program, its open brackets -/
def RPr (S Ln : Nat → Nat) (m : gM) (q : Nat → Nat → Nat) : Prop := (m.1 62 10 = nI (q 0 0) ∧ m.1 62 15 = nI (q 0 1) ∧ m.1 62 20 = nI (q 0 2)) ∧
  (∀ i, i < q 0 0 → m.1 66 i = nI (q 1 i) - 1 ∧ m.1 67 i = nI (q 2 i)) ∧
  (∀ d, d < q 0 1 → m.1 68 d = nI (q 3 d) ∧ m.1 69 d = nI (S (q 4 d)) ∧ m.1 70 d = nI (Ln (q 4 d)) ∧ m.1 71 d = nI (q 5 d) - 1) ∧
  (∀ r, r < q 0 2 → m.1 72 r = nI (q 6 r) ∧ m.1 73 r = nI (S (q 7 r)) ∧ m.1 74 r = nI (Ln (q 7 r)) ∧ m.1 75 r = nI (q 8 r) - 1)
def RFr (m : gM) (q : Nat → Nat → Nat) : Prop := (m.1 62 47 = nI (q 0 4) ∧ m.1 62 48 = nI (q 0 5) - 100 ∧ m.1 62 49 = nI (q 0 6)) ∧
  ∀ j, j < q 0 4 → m.1 88 j = nI (fk (q 9 j)) ∧ m.1 89 j = nI (q 10 j) ∧ (hasB (q 9 j) = true → m.1 90 j = nI (q 9 j + 11) ∧ m.1 91 j = nI (q 11 j))
theorem RPr.eq {S Ln : Nat → Nat} {m : gM} {q q' : Nat → Nat → Nat} (h : RPr S Ln m q) (e : ∀ c j, c ≤ 8 → (c = 0 → j ≤ 2) → q' c j = q c j) : RPr S Ln m q' := by
  obtain ⟨h1, h2, h3, h4⟩ := h
  have e0 := e 0 0 (by omega) (by omega)
  have e1 := e 0 1 (by omega) (by omega)
  have e2 := e 0 2 (by omega) (by omega)
  refine ⟨by rw [e0, e1, e2]; exact h1, fun i hi => ?_, fun i hi => ?_, fun i hi => ?_⟩
  · rw [e 1 i (by omega) (by omega), e 2 i (by omega) (by omega)]
    exact h2 i (by omega)
  · rw [e 3 i (by omega) (by omega), e 4 i (by omega) (by omega), e 5 i (by omega) (by omega)]
    exact h3 i (by omega)
  · rw [e 6 i (by omega) (by omega), e 7 i (by omega) (by omega), e 8 i (by omega) (by omega)]
    exact h4 i (by omega)
theorem RFr.eq {m : gM} {q q' : Nat → Nat → Nat} (h : RFr m q) (e : ∀ c j, (c = 0 ∧ 4 ≤ j ∧ j ≤ 6) ∨ (9 ≤ c ∧ c ≤ 11) → q' c j = q c j) : RFr m q' := by
  obtain ⟨h1, h2⟩ := h
  have e0 := e 0 4 (by omega)
  have e1 := e 0 5 (by omega)
  have e2 := e 0 6 (by omega)
  refine ⟨by rw [e0, e1, e2]; exact h1, fun i hi => ?_⟩
  rw [e 9 i (by omega), e 10 i (by omega), e 11 i (by omega)]
  exact h2 i (by omega)
section REF
variable {b : Nat → Nat} {n F : Nat} {m0 m : gM} {q : Nat → Nat → Nat} {x21 x50 x51 : Int32} {i j : Nat}
/-- the reference's memory while it reads, without a fault -/
def RM (b : Nat → Nat) (n : Nat) (m0 m : gM) (q : Nat → Nat → Nat) (x21 x50 x51 : Int32) : Prop := KF m0 m ∧ m.1 62 7 = 0 ∧ RPr (kS b n) (kL b n) m q ∧ RFr m q ∧ m.1 62 21 = x21 ∧ m.1 62 50 = x50 ∧ m.1 62 51 = x51
/-- the token that stands in the reference -/
def TKn (b : Nat → Nat) (n : Nat) (m : gM) (j : Nat) : Prop := m.1 62 40 = nI (kS b n j) ∧ m.1 62 38 = nI (rT (kK b n j)) ∧ (kK b n j < 256 → m.1 62 39 = nI (kK b n j)) ∧ (kK b n j ≠ 266 → m.1 62 37 = nI (tP b n (j + 1))) ∧ (256 ≤ kK b n j → kK b n j ≤ 264 → m.1 62 41 = nI (kL b n j)) ∧ (j ≤ tP b n j ∧ tP b n j ≤ n) ∧ kK b n j ≠ 267
def FLt (b : Nat → Nat) (n : Nat) (m0 m : gM) (c j : Nat) : Prop := KF m0 m ∧ m.1 62 7 = nI c ∧ m.1 62 42 = nI (kS b n j) ∧ j ≤ n
/-- the same token stands there -/
theorem TKn.eq {m' : gM} (h : TKn b n m j) (e : ∀ k, 37 ≤ k → k ≤ 41 → m'.1 62 k = m.1 62 k) : TKn b n m' j := by
  obtain ⟨h1, h2, h3, h4, h5, h6⟩ := h
  refine ⟨by rw [e 40 (by omega) (by omega)]; exact h1, by rw [e 38 (by omega) (by omega)]; exact h2, fun h => by rw [e 39 (by omega) (by omega)]; exact h3 h, fun h => by rw [e 37 (by omega) (by omega)]; exact h4 h, fun h g => by rw [e 41 (by omega) (by omega)]; exact h5 h g, h6⟩
theorem tk_lt (hb : ∀ i, i < n → b i < 256) : kK b n j < 300 := (tK_266 (p := tP b n j) hb).2
theorem rT_lt {k : Nat} (h : k < 300) : rT k < 300 := by
  unfold rT
  repeat' split
  all_goals omega
theorem tk_is (hb : ∀ i, i < n → b i < 256) (t : TKn b n m j) {w : Nat} (hw : w < 300) : m.1 62 38 = nI w ↔ rT (kK b n j) = w := by
  rw [t.2.1]
  exact k_lit (rT_lt (tk_lt hb)) hw
theorem tk_1 (hb : ∀ i, i < n → b i < 256) (t : TKn b n m j) : m.1 62 38 = 1 ↔ kK b n j = 264 := by
  have h := tk_lt (b := b) (n := n) (j := j) hb
  have g := t.2.2.2.2.2.2
  refine (tk_is hb t (w := 1) (by decide)).trans ?_
  unfold rT
  repeat' split
  all_goals omega
theorem tk_w (hb : ∀ i, i < n → b i < 256) (t : TKn b n m j) {w : Nat} (h1 : 10 ≤ w) (h2 : w ≤ 17) : m.1 62 38 = nI w ↔ kK b n j = w + 246 := by
  have h := tk_lt (b := b) (n := n) (j := j) hb
  have g := t.2.2.2.2.2.2
  refine (tk_is hb t (w := w) (by omega)).trans ?_
  unfold rT
  repeat' split
  all_goals omega
theorem tk_0 (hb : ∀ i, i < n → b i < 256) (t : TKn b n m j) : m.1 62 38 = 0 ↔ kK b n j = 266 := by
  have h := tk_lt (b := b) (n := n) (j := j) hb
  have g := t.2.2.2.2.2.2
  refine (tk_is hb t (w := 0) (by decide)).trans ?_
  unfold rT
  repeat' split
  all_goals omega
theorem tk_2 (hb : ∀ i, i < n → b i < 256) (t : TKn b n m j) : m.1 62 38 = 2 ↔ kK b n j = 265 := by
  have h := tk_lt (b := b) (n := n) (j := j) hb
  have g := t.2.2.2.2.2.2
  refine (tk_is hb t (w := 2) (by decide)).trans ?_
  unfold rT
  repeat' split
  all_goals omega
theorem tk_3 (hb : ∀ i, i < n → b i < 256) (t : TKn b n m j) : m.1 62 38 = 3 ↔ kK b n j < 256 := by
  have h := tk_lt (b := b) (n := n) (j := j) hb
  have g := t.2.2.2.2.2.2
  refine (tk_is hb t (w := 3) (by decide)).trans ?_
  unfold rT
  repeat' split
  all_goals omega
theorem e_is (hb : ∀ i, i < n → b i < 256) (t : TKn b n m j) {c : Nat} (hc : c < 256) : f_X8_is gSH F 62 (nI c) m = some (if kK b n j = c then 1 else 0, m) := by
  unfold f_X8_is
  rw [ob_62, g_ift]
  by_cases h : kK b n j < 256
  · rw [if_pos ((tk_3 hb t).mpr h), t.2.2.1 h]
    by_cases e : kK b n j = c
    · rw [if_pos (by rw [e]), if_pos e]
    · rw [if_neg (fun x => e ((k_lit (by omega) (by omega)).mp x)), if_neg e]
  · rw [if_neg (fun x => h ((tk_3 hb t).mp x)), if_neg (by omega)]
theorem e_next (hM : MadeR m0 b n) (hW : WdR m0) (hF : 5000 ≤ F) (h : RM b n m0 m q x21 x50 x51) (t : TKn b n m j) (hk : kK b n j ≠ 266) :
    eWp (f_X8_next gSH F 62 m) (fun r m' => (r = 0 ∧ kK b n (j + 1) = 267 ∧ FLt b n m0 m' 1 (j + 1)) ∨ (r = 1 ∧ RM b n m0 m' q x21 x50 x51 ∧ TKn b n m' (j + 1))) := by
  obtain ⟨k, h7, hP, hR, e21, e50, e51⟩ := h
  have hb : ∀ i, i < n → b i < 256 := fun i hi => (hM.2.2.2 i hi).1
  have hs : tS b n (tP b n j) < n := by
    by_cases h : tS b n (tP b n j) < n
    · exact h
    · exact absurd ((tK_266 (p := tP b n j) hb).1.mpr h) hk
  have hp : tP b n (j + 1) ≤ n := (tL_le hs).2
  have hp0 : j + 1 ≤ tP b n (j + 1) := by
    have a := (tL_le hs).1
    have c := (tS_le (b := b) t.2.2.2.2.2.1.2).1
    have d := t.2.2.2.2.2.1.1
    show j + 1 ≤ tS b n (tP b n j) + tL b n (tP b n j)
    omega
  obtain ⟨r, m', e, g1, g2, g3, g4⟩ := s_next (F := F) (k.made hM) (k.wd hW) hF hp (t.2.2.2.1 hk) h7
  refine ⟨r, m', e, ?_⟩
  have k' := k.k g1
  by_cases hB : kK b n (j + 1) = 267
  · obtain ⟨a1, a2, a3⟩ := g3 hB
    exact Or.inl ⟨a1, hB, k', a2, a3, Nat.le_trans hp0 hp⟩
  · obtain ⟨a1, a2, a3, a4, a5, a6⟩ := g4 hB
    have ek : ∀ c, c ≠ 62 → m'.1 c = m.1 c := g1.1
    have ej : ∀ j, j ∉ fT → m'.1 62 j = m.1 62 j := g1.2.1
    refine Or.inr ⟨a1, ⟨k', a2, ?_, ?_, by rw [ej 21 (by decide)]; exact e21, by rw [ej 50 (by decide)]; exact e50, by rw [ej 51 (by decide)]; exact e51⟩, g2, a3, a4, a5, a6, ⟨hp0, hp⟩, hB⟩
    · unfold RPr
      rw [ej 10 (by decide), ej 15 (by decide), ej 20 (by decide), ek 66 (by decide), ek 67 (by decide), ek 68 (by decide), ek 69 (by decide), ek 70 (by decide), ek 71 (by decide), ek 72 (by decide), ek 73 (by decide), ek 74 (by decide), ek 75 (by decide)]
      exact hP
    · unfold RFr
      rw [ej 47 (by decide), ej 48 (by decide), ej 49 (by decide), ek 88 (by decide), ek 89 (by decide), ek 90 (by decide), ek 91 (by decide)]
      exact hR
theorem e_blame (h : RM b n m0 m q x21 x50 x51) (t : TKn b n m j) {c : Nat} : eWp (f_X8_blame gSH F 62 (nI c) (m.1 62 40) m) (fun r m' => r = 0 ∧ FLt b n m0 m' c j) := by
  refine ⟨0, _, s_blame h.2.1, rfl, (h.1.s (by decide)).s (by decide), ?_, ?_, Nat.le_trans t.2.2.2.2.2.1.1 t.2.2.2.2.2.1.2⟩
  · simp [gI_1]
  · simp [gI_1, t.1]
theorem e_odd (h : RM b n m0 m q x21 x50 x51) (t : TKn b n m j) : eWp (f_X8_odd gSH F 62 m) (fun r m' => r = 0 ∧ FLt b n m0 m' 2 j) := by
  unfold f_X8_odd
  rw [ob_62, g_ift]
  exact (e_blame (c := 2) h t).tl (fun r m h => Or.inl h.1)
/-- a place of cell 62 that the reading's tables don't hold -/
theorem RM.x (h : RM b n m0 m q x21 x50 x51) (v : Int32) : RM b n m0 (gsI m 62 21 v) q v x50 x51 ∧ RM b n m0 (gsI m 62 50 v) q x21 v x51 ∧ RM b n m0 (gsI m 62 51 v) q x21 x50 v := by
  obtain ⟨k, h7, hP, hR, e21, e50, e51⟩ := h
  refine ⟨⟨k.s (by decide), ?_, ?_, ?_, ?_, ?_, ?_⟩, ⟨k.s (by decide), ?_, ?_, ?_, ?_, ?_, ?_⟩, ⟨k.s (by decide), ?_, ?_, ?_, ?_, ?_, ?_⟩⟩
  all_goals first | exact h7 | exact hP | exact hR | exact e21 | exact e50 | exact e51 | (simp [gI_1, h7, e21, e50, e51]; done) | (simpa [RPr, gI_1] using hP) | (simpa [RFr, gI_1] using hR)
theorem TKn.x (t : TKn b n m j) {c k : Nat} {v : Int32} (h : c ≠ 62 ∨ k < 37 ∨ 41 < k) : TKn b n (gsI m c k v) j := t.eq (fun a h1 h2 => by
  rw [gI_1, if_neg (by omega)])
theorem e_scopeF (h : RM b n m0 m q x21 x50 x51) (t : TKn b n m j) (hn : 64 ≤ q 0 0) (hq : q 0 0 ≤ 64) (p k : Int32) : eWp (f_X8_newScope gSH F 62 p k (m.1 62 40) m) (fun r m' => r = 0 ∧ FLt b n m0 m' 5 j) := by
  unfold f_X8_newScope
  rw [ob_62, g_ift, h.2.2.1.1.1, show q 0 0 = 64 by omega, if_pos (show nI 64 = 64 from rfl)]
  exact (e_blame (c := 5) h t).tl (fun r m h => Or.inl h.1)
theorem e_scope (hR : RPt m0) (h : RM b n m0 m q x21 x50 x51) (t : TKn b n m j) (hn : q 0 0 < 64) {p : Int32} {par kd : Nat} (hp : p = nI par - 1) : eWp (f_X8_newScope gSH F 62 p (nI kd) (m.1 62 40) m) (fun r m' => r = 1 ∧ RM b n m0 m' (aScope q kd par) x21 x50 x51 ∧ TKn b n m' j) := by
  obtain ⟨k, h7, ⟨⟨a1, a2, a3⟩, b1, b2, b3⟩, f, e21, e50, e51⟩ := h
  obtain ⟨⟨r8, r9, -⟩, -⟩ := hR
  refine ⟨1, gsI (gsI (gsI m 66 (q 0 0) p) 67 (q 0 0) (nI kd)) 62 10 (nI (q 0 0 + 1)), ?_, rfl, ⟨((k.r (by unfold rdR; omega)).r (by unfold rdR; omega)).s (by decide), ?_, ⟨⟨?_, ?_, ?_⟩, fun i hi => ?_, fun i hi => ?_, fun i hi => ?_⟩, ?_, ?_, ?_, ?_⟩, ((t.x (by omega)).x (by omega)).x (by omega)⟩
  · unfold f_X8_newScope
    have c0 : ¬ nI (q 0 0) = 64 := fun e => by
      have := (k_lit (k := q 0 0) (v := 64) (by omega) (by omega)).mp e
      omega
    have c3 : (nI (q 0 0)).toNatClampNeg = q 0 0 := nI_clamp (by omega)
    have c2 : aB gSH 66 .int (nI (q 0 0)) = true := g_inI (N := 65) (by omega) (by decide)
    have c4 : aB gSH 67 .int (nI (q 0 0)) = true := g_inI (N := 65) (by omega) (by decide)
    rw [← k.2.2] at r8 r9
    simp [ob_62, a1, c0, r8, r9, c2, c3, c4, g_ift, g_nmb, g_bs, gI_1, gI_2, nI_1]
  · simpa [gI_1] using h7
  · simp [gI_1, aScope, uq]
  · simpa [gI_1, aScope, uq] using a2
  · simpa [gI_1, aScope, uq] using a3
  · simp [aScope, uq] at hi
    by_cases e : i = q 0 0
    · subst e
      simp [gI_1, aScope, uq, hp]
    · have := b1 i (by omega)
      simpa [gI_1, aScope, uq, e] using this
  · have := b2 i (by simpa [aScope, uq] using hi)
    simpa [gI_1, aScope, uq] using this
  · have := b3 i (by simpa [aScope, uq] using hi)
    simpa [gI_1, aScope, uq] using this
  · exact RFr.eq (q := q) (by simpa [RFr, gI_1] using f) (fun c j hc => by
      simp only [aScope, uq]
      rw [if_neg (by omega), if_neg (by omega), if_neg (by omega)])
  · simpa [gI_1] using e21
  · simpa [gI_1] using e50
  · simpa [gI_1] using e51
theorem e_declF (h : RM b n m0 m q x21 x50 x51) (t : TKn b n m j) (hn : 60 ≤ q 0 1) (hq : q 0 1 ≤ 60) (p k : Int32) : eWp (f_X8_declare gSH F 62 p k m) (fun r m' => r = 0 ∧ FLt b n m0 m' 4 j) := by
  unfold f_X8_declare
  rw [ob_62, g_ift, h.2.2.1.1.2.1, show q 0 1 = 60 by omega, if_pos (show nI 60 = 60 from rfl)]
  exact (e_blame (c := 4) h t).tl (fun r m h => Or.inl h.1)
theorem e_decl (hR : RPt m0) (h : RM b n m0 m q x21 x50 x51) (t : TKn b n m j) (hk : kK b n j = 264) (hn : q 0 1 < 60) {p v : Int32} {sc has : Nat} (hp : p = nI sc) (hv : v = nI has - 1) : eWp (f_X8_declare gSH F 62 p v m) (fun r m' => r = 1 ∧ RM b n m0 m' (aDecl q sc j has) x21 x50 x51 ∧ TKn b n m' j) := by
  obtain ⟨k, h7, ⟨⟨a1, a2, a3⟩, b1, b2, b3⟩, f, e21, e50, e51⟩ := h
  obtain ⟨⟨r8, r9, r11, r12, r13, r14, -⟩, -⟩ := hR
  have t40 := t.1
  have t41 := t.2.2.2.2.1 (by omega) (by omega)
  refine ⟨1, gsI (gsI (gsI (gsI (gsI m 68 (q 0 1) p) 69 (q 0 1) (nI (kS b n j))) 70 (q 0 1) (nI (kL b n j))) 71 (q 0 1) v) 62 15 (nI (q 0 1 + 1)), ?_, rfl, ⟨((((k.r (by unfold rdR; omega)).r (by unfold rdR; omega)).r (by unfold rdR; omega)).r (by unfold rdR; omega)).s (by decide), ?_, ⟨⟨?_, ?_, ?_⟩, fun i hi => ?_, fun i hi => ?_, fun i hi => ?_⟩, ?_, ?_, ?_, ?_⟩, ((((t.x (by omega)).x (by omega)).x (by omega)).x (by omega)).x (by omega)⟩
  · unfold f_X8_declare
    have c0 : ¬ nI (q 0 1) = 60 := fun e => by
      have := (k_lit (k := q 0 1) (v := 60) (by omega) (by omega)).mp e
      omega
    have c3 : (nI (q 0 1)).toNatClampNeg = q 0 1 := nI_clamp (by omega)
    have c4 : aB gSH 68 .int (nI (q 0 1)) = true := g_inI (N := 61) (by omega) (by decide)
    have c5 : aB gSH 69 .int (nI (q 0 1)) = true := g_inI (N := 61) (by omega) (by decide)
    have c6 : aB gSH 70 .int (nI (q 0 1)) = true := g_inI (N := 61) (by omega) (by decide)
    have c7 : aB gSH 71 .int (nI (q 0 1)) = true := g_inI (N := 61) (by omega) (by decide)
    rw [← k.2.2] at r11 r12 r13 r14
    simp [ob_62, a2, c0, r11, r12, r13, r14, c3, c4, c5, c6, c7, g_ift, g_nmb, g_bs, gI_1, gI_2, nI_1, t40, t41]
  · simpa [gI_1] using h7
  · simpa [gI_1, aDecl, uq] using a1
  · simp [gI_1, aDecl, uq]
  · simpa [gI_1, aDecl, uq] using a3
  · have := b1 i (by simpa [aDecl, uq] using hi)
    simpa [gI_1, aDecl, uq] using this
  · simp [aDecl, uq] at hi
    by_cases e : i = q 0 1
    · subst e
      simp [gI_1, aDecl, uq, hp, hv]
    · have := b2 i (by omega)
      simpa [gI_1, aDecl, uq, e] using this
  · have := b3 i (by simpa [aDecl, uq] using hi)
    simpa [gI_1, aDecl, uq] using this
  · exact RFr.eq (q := q) (by simpa [RFr, gI_1] using f) (fun c j hc => by
      simp only [aDecl, uq]
      rw [if_neg (by omega), if_neg (by omega), if_neg (by omega), if_neg (by omega)])
  · simpa [gI_1] using e21
  · simpa [gI_1] using e50
  · simpa [gI_1] using e51
theorem br_20 {x : Nat} (h : x ≤ 120) : nI x - 100 = 20 ↔ 120 ≤ x := by
  have e : nI x - 100 = 20 ↔ nI x = 120 := by
    constructor
    · intro h
      rw [← Int32.sub_add_cancel (nI x) 100, h]
      rfl
    · intro h
      rw [h]
      rfl
  rw [e, show (120 : Int32) = nI 120 from rfl, k_lit (by omega) (by omega)]
  omega
theorem e_brackF (h : RM b n m0 m q x21 x50 x51) (t : TKn b n m j) (hn : 120 ≤ q 0 5) (hq : q 0 5 ≤ 120) : eWp (f_X8_bracket gSH F 62 m) (fun r m' => r = 0 ∧ FLt b n m0 m' 3 j) := by
  unfold f_X8_bracket
  rw [ob_62, g_ift, h.2.2.2.1.1.2.1, if_pos ((br_20 hq).mpr hn)]
  exact (e_blame (c := 3) h t).tl (fun r m h => Or.inl h.1)
theorem e_brack (h : RM b n m0 m q x21 x50 x51) (t : TKn b n m j) (hn : q 0 5 < 120) : eWp (f_X8_bracket gSH F 62 m) (fun r m' => r = 1 ∧ RM b n m0 m' (uq q 0 5 (q 0 5 + 1)) x21 x50 x51 ∧ TKn b n m' j) := by
  obtain ⟨k, h7, hP, ⟨⟨a1, a2, a3⟩, b1⟩, e21, e50, e51⟩ := h
  refine ⟨1, gsI m 62 48 (nI (q 0 5 + 1) - 100), ?_, rfl, ⟨k.s (by decide), ?_, ?_, ⟨⟨?_, ?_, ?_⟩, fun i hi => ?_⟩, ?_, ?_, ?_⟩, t.x (by omega)⟩
  · unfold f_X8_bracket
    rw [ob_62, g_ift, a2, if_neg (fun e => by
      have := (br_20 (x := q 0 5) (by omega)).mp e
      omega), g_nmb]
    rw [show nI (q 0 5) - 100 + 1 = nI (q 0 5 + 1) - 100 by rw [← nI_1, Int32.sub_eq_add_neg, Int32.sub_eq_add_neg, Int32.add_assoc, Int32.add_assoc, Int32.add_comm 1]]
  · simpa [gI_1] using h7
  · exact RPr.eq (q := q) (by simpa [RPr, gI_1] using hP) (fun c j hc h0 => by
      simp only [uq]
      rw [if_neg (by omega)])
  · simpa [gI_1, uq] using a1
  · simp [gI_1, uq]
  · simpa [gI_1, uq] using a3
  · have := b1 i (by simpa [uq] using hi)
    simpa [gI_1, uq] using this
  · simpa [gI_1] using e21
  · simpa [gI_1] using e50
  · simpa [gI_1] using e51
theorem e_open (hR : RPt m0) (h : RM b n m0 m q x21 x50 x51) (t : TKn b n m j) (hn : q 0 4 < 300) {fr kd : Nat} (inn : Nat) (hf : fk fr = kd) (hB : hasB fr = false) : ∃ m', f_X8_open gSH F 62 (nI kd) m = some m' ∧ RM b n m0 m' (aPush q fr inn) x21 x50 x51 ∧ TKn b n m' j := by
  obtain ⟨k, h7, hP, ⟨⟨a1, a2, a3⟩, b1⟩, e21, e50, e51⟩ := h
  obtain ⟨-, r43, r44, -⟩ := hR
  refine ⟨gsI (gsI (gsI m 88 (q 0 4) (nI kd)) 89 (q 0 4) (nI (q 0 6))) 62 47 (nI (q 0 4 + 1)), ?_, ⟨((k.r (by unfold rdR; omega)).r (by unfold rdR; omega)).s (by decide), ?_, ?_, ⟨⟨?_, ?_, ?_⟩, fun i hi => ?_⟩, ?_, ?_, ?_⟩, ((t.x (by omega)).x (by omega)).x (by omega)⟩
  · unfold f_X8_open
    have c3 : (nI (q 0 4)).toNatClampNeg = q 0 4 := nI_clamp (by omega)
    have c4 : aB gSH 88 .int (nI (q 0 4)) = true := g_inI (N := 300) (by omega) (by decide)
    have c5 : aB gSH 89 .int (nI (q 0 4)) = true := g_inI (N := 300) (by omega) (by decide)
    rw [← k.2.2] at r43 r44
    simp [ob_62, a1, a3, r43, r44, c3, c4, c5, g_ift, g_nmb, g_bs, gI_1, gI_2, nI_1]
  · simpa [gI_1] using h7
  · exact RPr.eq (q := q) (by simpa [RPr, gI_1] using hP) (fun c j hc h0 => by
      simp only [aPush, uq]
      rw [if_neg (by omega), if_neg (by omega), if_neg (by omega), if_neg (by omega)])
  · simp [gI_1, aPush, uq]
  · simpa [gI_1, aPush, uq] using a2
  · simpa [gI_1, aPush, uq] using a3
  · simp [aPush, uq] at hi
    by_cases e : i = q 0 4
    · subst e
      simp [gI_1, aPush, uq, hf, hB]
    · have := b1 i (by omega)
      simpa [gI_1, aPush, uq, e] using this
  · simpa [gI_1] using e21
  · simpa [gI_1] using e50
  · simpa [gI_1] using e51
/-- the place in cell 62 of the scope -/
theorem e_here (h : RM b n m0 m q x21 x50 x51) {v : Int32} {s : Nat} (hv : v = nI s) : RM b n m0 (gsI m 62 49 v) (uq q 0 6 s) x21 x50 x51 := by
  obtain ⟨k, h7, hP, ⟨⟨a1, a2, a3⟩, b1⟩, e21, e50, e51⟩ := h
  refine ⟨k.s (by decide), ?_, ?_, ⟨⟨?_, ?_, ?_⟩, fun i hi => ?_⟩, ?_, ?_, ?_⟩
  · simpa [gI_1] using h7
  · exact RPr.eq (q := q) (by simpa [RPr, gI_1] using hP) (fun c j hc h0 => by
      simp only [uq]
      rw [if_neg (by omega)])
  · simpa [gI_1, uq] using a1
  · simpa [gI_1, uq] using a2
  · simp [gI_1, uq, hv]
  · have := b1 i (by simpa [uq] using hi)
    simpa [gI_1, uq] using this
  · simpa [gI_1] using e21
  · simpa [gI_1] using e50
  · simpa [gI_1] using e51
theorem e_shut (h : RM b n m0 m q x21 x50 x51) (hq : 0 < q 0 4) : RM b n m0 (gsI m 62 47 (nI (q 0 4 - 1))) (uq q 0 4 (q 0 4 - 1)) x21 x50 x51 := by
  obtain ⟨k, h7, hP, ⟨⟨a1, a2, a3⟩, b1⟩, e21, e50, e51⟩ := h
  refine ⟨k.s (by decide), ?_, ?_, ⟨⟨?_, ?_, ?_⟩, fun i hi => ?_⟩, ?_, ?_, ?_⟩
  · simpa [gI_1] using h7
  · exact RPr.eq (q := q) (by simpa [RPr, gI_1] using hP) (fun c j hc h0 => by
      simp only [uq]
      rw [if_neg (by omega)])
  · simp [gI_1, uq]
  · simpa [gI_1, uq] using a2
  · simpa [gI_1, uq] using a3
  · simp [uq] at hi
    have := b1 i (by omega)
    simpa [gI_1, uq] using this
  · simpa [gI_1] using e21
  · simpa [gI_1] using e50
  · simpa [gI_1] using e51
theorem e_unbr (h : RM b n m0 m q x21 x50 x51) (hq : 0 < q 0 5) : RM b n m0 (gsI m 62 48 (nI (q 0 5) - 100 - 1)) (uq q 0 5 (q 0 5 - 1)) x21 x50 x51 := by
  obtain ⟨k, h7, hP, ⟨⟨a1, a2, a3⟩, b1⟩, e21, e50, e51⟩ := h
  refine ⟨k.s (by decide), ?_, ?_, ⟨⟨?_, ?_, ?_⟩, fun i hi => ?_⟩, ?_, ?_, ?_⟩
  · simpa [gI_1] using h7
  · exact RPr.eq (q := q) (by simpa [RPr, gI_1] using hP) (fun c j hc h0 => by
      simp only [uq]
      rw [if_neg (by omega)])
  · simpa [gI_1, uq] using a1
  · have : nI (q 0 5) - 100 - 1 = nI (q 0 5 - 1) - 100 := by
      have e : nI (q 0 5) = nI (q 0 5 - 1) + 1 := by rw [nI_1, show q 0 5 - 1 + 1 = q 0 5 by omega]
      rw [e, Int32.sub_eq_add_neg, Int32.sub_eq_add_neg, Int32.sub_eq_add_neg, Int32.add_assoc, Int32.add_assoc, ← Int32.add_assoc 1, Int32.add_comm 1, Int32.add_assoc (-100)]
      rfl
    simp [gI_1, uq, this]
  · simpa [gI_1, uq] using a3
  · have := b1 i (by simpa [uq] using hi)
    simpa [gI_1, uq] using this
  · simpa [gI_1] using e21
  · simpa [gI_1] using e50
  · simpa [gI_1] using e51
theorem RM.eq {q' : Nat → Nat → Nat} (h : RM b n m0 m q x21 x50 x51) (e : ∀ c r, c ≤ 11 → (c = 0 → r ≠ 3 ∧ r ≤ 6) → q' c r = q c r) : RM b n m0 m q' x21 x50 x51 := by
  obtain ⟨k, h7, hP, hF, h3⟩ := h
  exact ⟨k, h7, hP.eq (fun c j hc h0 => e c j (by omega) (by omega)), hF.eq (fun c j hc => e c j (by omega) (by omega)), h3⟩
end REF
