/-! THE REFERENCE'S READ -/
/-- the reference's references -/
def PTR (m : gM) : Prop := RPt m ∧ KPt m ∧ (m.2.2 62 1 = some 63 ∧ m.2.2 62 3 = some 64 ∧ m.2.2 62 5 = some 65 ∧ m.2.2 62 35 = some 86 ∧ m.2.2 62 36 = some 87) ∧ (m.2.2 62 52 = some 92 ∧ m.2.2 62 53 = some 93) ∧ (m.2.2 62 54 = some 94 ∧ m.2.2 62 55 = some 95 ∧ m.2.2 62 56 = some 96 ∧ m.2.2 62 57 = some 97 ∧ m.2.2 62 58 = some 98 ∧ m.2.2 62 59 = some 99 ∧ m.2.2 62 60 = some 100 ∧ m.2.2 62 61 = some 101 ∧ m.2.2 62 62 = some 102 ∧ m.2.2 62 63 = some 103) ∧ (m.2.2 62 68 = some 104 ∧ m.2.2 62 69 = some 105 ∧ m.2.2 62 70 = some 106) ∧ m.2.2 62 71 = some 107 ∧ m.2.2 62 72 = some 108
theorem PTR.eq {m m' : gM} (h : PTR m) (e : m'.2.2 = m.2.2) : PTR m' := by
  unfold PTR RPt KPt at *
  rw [e]
  exact h
/-- the reference's tape -/
def TpR (m : gM) (b : Nat → Nat) (n : Nat) : Prop := m.1 62 2 = nI n ∧ n ≤ 4000 ∧ ∀ i, i < n → b i < 256 ∧ m.1 63 i = nI (b i)
/-- the reference's text, and all that it knows of it -/
def RTx (m : gM) (b : Nat → Nat) (n : Nat) : Prop := pOk b n ∧ TxR m b n ∧ RPr (kS b n) (kL b n) m (pQ b n) ∧ NMs b n m ∧ RMr (pQ b n) (nkT b n) m
def RWd (m : gM) : Prop := WdR m
section RDR
variable {F : Nat} {m m' : gM} {b : Nat → Nat} {n : Nat}
/-- the cells of the object stay -/
def KO (m m' : gM) : Prop := (∀ c, (c < 62 ∨ 108 < c) → m'.1 c = m.1 c ∧ m'.2.1 c = m.2.1 c) ∧ m'.2.2 = m.2.2
theorem KO.refl (m : gM) : KO m m := ⟨fun _ _ => ⟨rfl, rfl⟩, rfl⟩
theorem KO.trans {a b c : gM} (h : KO a b) (k : KO b c) : KO a c := ⟨fun i hi => ⟨(k.1 i hi).1.trans (h.1 i hi).1, (k.1 i hi).2.trans (h.1 i hi).2⟩, k.2.trans h.2⟩
theorem KO.i {c j : Nat} {v : Int32} (h : 62 ≤ c ∧ c ≤ 108) : KO m (gsI m c j v) := ⟨fun a ha => ⟨gsI_ne (by omega), rfl⟩, rfl⟩
theorem KO.kf (h : KF m m') : KO m m' := ⟨fun c hc => ⟨h.1 c (by omega) (by unfold rdR; omega), by rw [h.2.2]⟩, by rw [h.2.2]⟩
theorem KO.kn (h : KN m m') : KO m m' := ⟨fun c hc => ⟨h.1 c (by omega) (by omega), by rw [h.2]⟩, by rw [h.2]⟩
theorem KO.km (h : KM m m') : KO m m' := ⟨fun c hc => h.1 c (by omega) (by omega), h.2.2⟩
/-- a walk that changes only whole numbers of some cells -/
theorem KO.c {Z : Nat → Prop} (h1 : ∀ c, ¬ Z c → m'.1 c = m.1 c) (h2 : m'.2 = m.2) (hz : ∀ c, Z c → 62 ≤ c ∧ c ≤ 108) : KO m m' := ⟨fun c hc => ⟨h1 c (fun z => by have := hz c z; omega), by rw [h2]⟩, by rw [h2]⟩
theorem s_keepR (hp : PTR m) (hF : 5000 ≤ F) {nS nD nR : Nat} (h1 : nS ≤ 64) (h2 : nD ≤ 60) (h3 : nR ≤ 100) (e1 : m.1 62 10 = nI nS) (e2 : m.1 62 15 = nI nD) (e3 : m.1 62 20 = nI nR) :
    ∃ m', f_X8_keep gSH F 62 m = some m' ∧ m'.2 = m.2 ∧ (∀ c, c ≠ 62 → ¬ (76 ≤ c ∧ c ≤ 85) → m'.1 c = m.1 c) ∧ (∀ j, j ≠ 24 → j ≠ 29 → j ≠ 34 → m'.1 62 j = m.1 62 j) ∧ (m'.1 62 24 = nI nS ∧ m'.1 62 29 = nI nD ∧ m'.1 62 34 = nI nR) ∧ (∀ j, j < nS → m'.1 76 j = m.1 66 j ∧ m'.1 77 j = m.1 67 j) ∧ (∀ j, j < nD → m'.1 78 j = m.1 68 j ∧ m'.1 79 j = m.1 69 j ∧ m'.1 80 j = m.1 70 j ∧ m'.1 81 j = m.1 71 j) ∧ (∀ j, j < nR → m'.1 82 j = m.1 72 j ∧ m'.1 83 j = m.1 73 j ∧ m'.1 84 j = m.1 74 j ∧ m'.1 85 j = m.1 75 j) := by
  obtain ⟨p, k, -⟩ := hp
  obtain ⟨a, a1, a2, a3, a4⟩ := kp_s (F := F) (nn := nS) (by omega) nS F 0 m (by omega) (by omega) e1 p k (fun j hj => by omega)
  have pa : RPt (gsI a 62 24 (nI nS)) := by unfold RPt; rw [gI_2, a3]; exact p
  have ka : KPt (gsI a 62 24 (nI nS)) := by unfold KPt; rw [gI_2, a3]; exact k
  have ea : ∀ c, c ≠ 62 → c ≠ 76 → c ≠ 77 → (gsI a 62 24 (nI nS)).1 c = m.1 c := fun c x y z => (gsI_ne x).trans (a2 c y z)
  have e2' : (gsI a 62 24 (nI nS)).1 62 15 = nI nD := by
    rw [gI_1, if_neg (by decide), a2 62 (by decide) (by decide)]
    exact e2
  obtain ⟨c, c1, c2, c3, c4⟩ := kp_d (F := F) (nn := nD) (by omega) nD F 0 (gsI a 62 24 (nI nS)) (by omega) (by omega) e2' pa ka (fun j hj => by omega)
  have pc : RPt (gsI c 62 29 (nI nD)) := by unfold RPt; rw [gI_2, c3]; exact pa
  have kc : KPt (gsI c 62 29 (nI nD)) := by unfold KPt; rw [gI_2, c3]; exact ka
  have e3' : (gsI c 62 29 (nI nD)).1 62 20 = nI nR := by
    rw [gI_1, if_neg (by decide), c2 62 (by decide) (by decide) (by decide) (by decide), gI_1, if_neg (by decide), a2 62 (by decide) (by decide)]
    exact e3
  obtain ⟨d, d1, d2, d3, d4⟩ := kp_r (F := F) (nn := nR) (by omega) nR F 0 (gsI c 62 29 (nI nD)) (by omega) (by omega) e3' pc kc (fun j hj => by omega)
  have ec : ∀ x, x ≠ 62 → ¬ (76 ≤ x ∧ x ≤ 81) → (gsI c 62 29 (nI nD)).1 x = m.1 x := fun x h y => by
    rw [gsI_ne h, c2 x (by omega) (by omega) (by omega) (by omega), ea x h (by omega) (by omega)]
  refine ⟨gsI d 62 34 (nI nR), ?_, ?_, fun x h y => ?_, fun j x y z => ?_, ⟨?_, ?_, ?_⟩, fun j hj => ?_, fun j hj => ?_, fun j hj => ?_⟩
  · unfold f_X8_keep
    rw [show (0 : Int32) = nI 0 from rfl, a1, show (0 : Int32) = nI 0 from rfl, c1, show (0 : Int32) = nI 0 from rfl, d1]
  · rw [gI_2, d3, gI_2, c3, gI_2, a3]
  · rw [gsI_ne h, d2 x (by omega) (by omega) (by omega) (by omega), ec x h (by omega)]
  · rw [gI_1, if_neg (by omega), d2 62 (by decide) (by decide) (by decide) (by decide), gI_1, if_neg (by omega), c2 62 (by decide) (by decide) (by decide) (by decide), gI_1, if_neg (by omega), a2 62 (by decide) (by decide)]
  · rw [gI_1, if_neg (by decide), d2 62 (by decide) (by decide) (by decide) (by decide), gI_1, if_neg (by decide), c2 62 (by decide) (by decide) (by decide) (by decide), gI_1, if_pos ⟨rfl, rfl⟩]
  · rw [gI_1, if_neg (by decide), d2 62 (by decide) (by decide) (by decide) (by decide), gI_1, if_pos ⟨rfl, rfl⟩]
  · rw [gI_1, if_pos ⟨rfl, rfl⟩]
  · have t := a4 j hj
    rw [gsI_ne (by decide), gsI_ne (by decide), d2 76 (by decide) (by decide) (by decide) (by decide), d2 77 (by decide) (by decide) (by decide) (by decide), gsI_ne (by decide), gsI_ne (by decide), c2 76 (by decide) (by decide) (by decide) (by decide), c2 77 (by decide) (by decide) (by decide) (by decide), gsI_ne (by decide), gsI_ne (by decide)]
    exact t
  · have t := c4 j hj
    rw [ea 68 (by decide) (by decide) (by decide), ea 69 (by decide) (by decide) (by decide), ea 70 (by decide) (by decide) (by decide), ea 71 (by decide) (by decide) (by decide)] at t
    rw [gsI_ne (by decide), gsI_ne (by decide), gsI_ne (by decide), gsI_ne (by decide), d2 78 (by decide) (by decide) (by decide) (by decide), d2 79 (by decide) (by decide) (by decide) (by decide), d2 80 (by decide) (by decide) (by decide) (by decide), d2 81 (by decide) (by decide) (by decide) (by decide), gsI_ne (by decide), gsI_ne (by decide), gsI_ne (by decide), gsI_ne (by decide)]
    exact t
  · have t := d4 j hj
    rw [ec 72 (by decide) (by decide), ec 73 (by decide) (by decide), ec 74 (by decide) (by decide), ec 75 (by decide) (by decide)] at t
    rw [gsI_ne (by decide), gsI_ne (by decide), gsI_ne (by decide), gsI_ne (by decide)]
    exact t
theorem s_giveBack (hp : PTR m) (hF : 5000 ≤ F) {nS nD nR : Nat} (h1 : nS ≤ 64) (h2 : nD ≤ 60) (h3 : nR ≤ 100) (e1 : m.1 62 24 = nI nS) (e2 : m.1 62 29 = nI nD) (e3 : m.1 62 34 = nI nR) :
    ∃ m', f_X8_giveBack gSH F 62 m = some m' ∧ m'.2 = m.2 ∧ (∀ c, c ≠ 62 → ¬ (66 ≤ c ∧ c ≤ 75) → m'.1 c = m.1 c) ∧ (∀ j, j ≠ 10 → j ≠ 15 → j ≠ 20 → m'.1 62 j = m.1 62 j) ∧ (m'.1 62 10 = nI nS ∧ m'.1 62 15 = nI nD ∧ m'.1 62 20 = nI nR) ∧ (∀ j, j < nS → m'.1 66 j = m.1 76 j ∧ m'.1 67 j = m.1 77 j) ∧ (∀ j, j < nD → m'.1 68 j = m.1 78 j ∧ m'.1 69 j = m.1 79 j ∧ m'.1 70 j = m.1 80 j ∧ m'.1 71 j = m.1 81 j) ∧ (∀ j, j < nR → m'.1 72 j = m.1 82 j ∧ m'.1 73 j = m.1 83 j ∧ m'.1 74 j = m.1 84 j ∧ m'.1 75 j = m.1 85 j) := by
  obtain ⟨p, k, -⟩ := hp
  have p0 : RPt (gsI m 62 10 (nI nS)) := p
  have k0 : KPt (gsI m 62 10 (nI nS)) := k
  obtain ⟨a, a1, a2, a3, a4⟩ := gb_s (F := F) (nn := nS) (by omega) nS F 0 (gsI m 62 10 (nI nS)) (by omega) (by omega) (by simp [gI_1]) p0 k0 (fun j hj => by omega)
  have v29 : a.1 62 29 = nI nD := by
    rw [a2 62 (by decide) (by decide), gI_1, if_neg (by decide)]
    exact e2
  rw [v29] at a1
  have pa : RPt (gsI a 62 15 (nI nD)) := by unfold RPt; rw [gI_2, a3]; exact p
  have ka : KPt (gsI a 62 15 (nI nD)) := by unfold KPt; rw [gI_2, a3]; exact k
  have ea : ∀ c, c ≠ 62 → c ≠ 66 → c ≠ 67 → (gsI a 62 15 (nI nD)).1 c = m.1 c := fun c x y z => by
    rw [gsI_ne x, a2 c y z, gsI_ne x]
  obtain ⟨c, c1, c2, c3, c4⟩ := gb_d (F := F) (nn := nD) (by omega) nD F 0 (gsI a 62 15 (nI nD)) (by omega) (by omega) (by simp [gI_1]) pa ka (fun j hj => by omega)
  have v34 : c.1 62 34 = nI nR := by
    rw [c2 62 (by decide) (by decide) (by decide) (by decide), gI_1, if_neg (by decide), a2 62 (by decide) (by decide), gI_1, if_neg (by decide)]
    exact e3
  rw [v34] at c1
  have pc : RPt (gsI c 62 20 (nI nR)) := by unfold RPt; rw [gI_2, c3]; exact pa
  have kc : KPt (gsI c 62 20 (nI nR)) := by unfold KPt; rw [gI_2, c3]; exact ka
  obtain ⟨d, d1, d2, d3, d4⟩ := gb_r (F := F) (nn := nR) (by omega) nR F 0 (gsI c 62 20 (nI nR)) (by omega) (by omega) (by simp [gI_1]) pc kc (fun j hj => by omega)
  have ec : ∀ x, x ≠ 62 → ¬ (66 ≤ x ∧ x ≤ 71) → (gsI c 62 20 (nI nR)).1 x = m.1 x := fun x h y => by
    rw [gsI_ne h, c2 x (by omega) (by omega) (by omega) (by omega), ea x h (by omega) (by omega)]
  refine ⟨d, ?_, ?_, fun x h y => ?_, fun j x y z => ?_, ⟨?_, ?_, ?_⟩, fun j hj => ?_, fun j hj => ?_, fun j hj => ?_⟩
  · unfold f_X8_giveBack
    rw [ob_62, g_ift, e1, g_nmb, show (0 : Int32) = nI 0 from rfl, a1, show (0 : Int32) = nI 0 from rfl, c1, show (0 : Int32) = nI 0 from rfl, d1]
  · rw [d3, gI_2, c3, gI_2, a3, gI_2]
  · rw [d2 x (by omega) (by omega) (by omega) (by omega), ec x h (by omega)]
  · rw [d2 62 (by decide) (by decide) (by decide) (by decide), gI_1, if_neg (by omega), c2 62 (by decide) (by decide) (by decide) (by decide), gI_1, if_neg (by omega), a2 62 (by decide) (by decide), gI_1, if_neg (by omega)]
  · rw [d2 62 (by decide) (by decide) (by decide) (by decide), gI_1, if_neg (by decide), c2 62 (by decide) (by decide) (by decide) (by decide), gI_1, if_neg (by decide), a2 62 (by decide) (by decide), gI_1, if_pos ⟨rfl, rfl⟩]
  · rw [d2 62 (by decide) (by decide) (by decide) (by decide), gI_1, if_neg (by decide), c2 62 (by decide) (by decide) (by decide) (by decide), gI_1, if_pos ⟨rfl, rfl⟩]
  · rw [d2 62 (by decide) (by decide) (by decide) (by decide), gI_1, if_pos ⟨rfl, rfl⟩]
  · have t := a4 j hj
    rw [gsI_ne (by decide), gsI_ne (by decide)] at t
    rw [d2 66 (by decide) (by decide) (by decide) (by decide), d2 67 (by decide) (by decide) (by decide) (by decide), gsI_ne (by decide), gsI_ne (by decide), c2 66 (by decide) (by decide) (by decide) (by decide), c2 67 (by decide) (by decide) (by decide) (by decide), gsI_ne (by decide), gsI_ne (by decide)]
    exact t
  · have t := c4 j hj
    rw [ea 78 (by decide) (by decide) (by decide), ea 79 (by decide) (by decide) (by decide), ea 80 (by decide) (by decide) (by decide), ea 81 (by decide) (by decide) (by decide)] at t
    rw [d2 68 (by decide) (by decide) (by decide) (by decide), d2 69 (by decide) (by decide) (by decide) (by decide), d2 70 (by decide) (by decide) (by decide) (by decide), d2 71 (by decide) (by decide) (by decide) (by decide), gsI_ne (by decide), gsI_ne (by decide), gsI_ne (by decide), gsI_ne (by decide)]
    exact t
  · have t := d4 j hj
    rw [ec 82 (by decide) (by decide), ec 83 (by decide) (by decide), ec 84 (by decide) (by decide), ec 85 (by decide) (by decide)] at t
    exact t
/-- the text of what was made -/
theorem s_takeTextL (hp : PTR m) : ∀ (k N i : Nat) (m : gM), i + k = n → k < N → n ≤ 4000 → PTR m → m.1 62 6 = nI n → (∀ j, j < n → m.1 65 j = nI (b j)) → (∀ j, j < i → m.1 64 j = nI (b j)) → ∃ m1, l_X8_takeText_10 gSH F N 62 (nI i) m = (f_X8_nameAll gSH F 62 m1).bind (fun m3 => (f_X8_meanAll gSH F 62 m3).bind (fun m5 => some m5)) ∧ (∀ c, c ≠ 64 → m1.1 c = m.1 c) ∧ m1.2 = m.2 ∧ ∀ j, j < n → m1.1 64 j = nI (b j) := by
  intro k
  induction k with
  | zero =>
    intro N i m hk hN hn p h6 h65 hj
    obtain ⟨N, rfl⟩ : ∃ N', N = N' + 1 := ⟨N - 1, by omega⟩
    refine ⟨m, ?_, fun _ _ => rfl, rfl, fun j hj' => hj j (by omega)⟩
    show b_X8_takeText_10 gSH F (l_X8_takeText_10 gSH F N) 62 (nI i) m = _
    unfold b_X8_takeText_10
    rw [ob_62, g_ift, h6, if_pos (nI_le (by omega) (by omega))]
  | succ k ih =>
    intro N i m hk hN hn p h6 h65 hj
    obtain ⟨N, rfl⟩ : ∃ N', N = N' + 1 := ⟨N - 1, by omega⟩
    have e : l_X8_takeText_10 gSH F (N + 1) 62 (nI i) m = l_X8_takeText_10 gSH F N 62 (nI (i + 1)) (gsI m 64 i (nI (b i))) := by
      show b_X8_takeText_10 gSH F (l_X8_takeText_10 gSH F N) 62 (nI i) m = _
      unfold b_X8_takeText_10
      rw [ob_62, g_ift, h6, if_neg (nI_ge (by omega) (by omega)), p.2.2.1.2.1, g_bs, p.2.2.1.2.2.1, g_bs, show aB gSH 65 .int (nI i) = true from g_inI (N := 4800) (by omega) (by decide), g_ift, show aB gSH 64 .int (nI i) = true from g_inI (N := 4000) (by omega) (by decide), g_ift, nI_clamp (by omega), h65 i (by omega), g_nmb, g_nmb, nI_a1]
    rw [e]
    obtain ⟨m1, c1, c2, c3, c4⟩ := ih N (i + 1) (gsI m 64 i (nI (b i))) (by omega) (by omega) hn p (by simpa [gI_1] using h6) (fun j hj' => by simpa [gI_1] using h65 j hj') (fun j hj' => by
      rw [gI_1]
      by_cases c : j = i
      · rw [if_pos ⟨rfl, c⟩, c]
      · rw [if_neg (by omega)]
        exact hj j (by omega))
    exact ⟨m1, c1, fun c hc => (c2 c hc).trans (gsI_ne hc), c3, c4⟩
/-- the program of the reference, as QS wants it -/
theorem QS.of {nk : Nat → Nat → Bool} (hp : PTR m) (R : RPr (kS b n) (kL b n) m (pQ b n)) (hn : ∀ r d, r < pQ b n 0 2 → d < pQ b n 0 1 → (m.1 92 d = m.1 93 r ↔ nk r d = true)) : QS (pQ b n) nk m := by
  obtain ⟨a, c, d, e⟩ := R
  obtain ⟨p, -, -, p52, pq, -⟩ := hp
  exact ⟨a, fun s hs => (c s hs).1, fun x hx => ⟨(d x hx).1, (d x hx).2.2.2⟩, fun r hr => ⟨(e r hr).1, (e r hr).2.2.2⟩, hn, ⟨p.1.1, p.1.2.2.1, p.1.2.2.2.2.2.1, p.1.2.2.2.2.2.2.1, p.1.2.2.2.2.2.2.2.2.2, p52.1, p52.2⟩, pq⟩
theorem RPr.k {S Ln : Nat → Nat} {q : Nat → Nat → Nat} (h : RPr S Ln m q) (e : ∀ c, 66 ≤ c → c ≤ 75 → m'.1 c = m.1 c) (e2 : m'.1 62 10 = m.1 62 10 ∧ m'.1 62 15 = m.1 62 15 ∧ m'.1 62 20 = m.1 62 20) : RPr S Ln m' q := by
  unfold RPr
  rw [e2.1, e2.2.1, e2.2.2, e 66 (by decide) (by decide), e 67 (by decide) (by decide), e 68 (by decide) (by decide), e 69 (by decide) (by decide), e 70 (by decide) (by decide), e 71 (by decide) (by decide), e 72 (by decide) (by decide), e 73 (by decide) (by decide), e 74 (by decide) (by decide), e 75 (by decide) (by decide)]
  exact h
theorem s_takeText (hF : fN ≤ F) (h : pOk b n) (hp : PTR m) (h6 : m.1 62 6 = nI n) (h65 : ∀ j, j < n → m.1 65 j = nI (b j)) (R : RPr (kS b n) (kL b n) m (pQ b n)) : ∃ m', f_X8_takeText gSH F 62 m = some m' ∧ KO m m' ∧ RTx m' b n ∧ (∀ c, c ≠ 62 → ¬ (64 = c ∨ (92 ≤ c ∧ c ≤ 106)) → m'.1 c = m.1 c) ∧ (∀ j, j ≠ 4 → j ≠ 64 → j ≠ 66 → j ≠ 67 → m'.1 62 j = m.1 62 j) := by
  have f5 := fN_5
  have n4 := h.2.1
  have p0 : PTR (gsI m 62 4 (nI n)) := hp
  obtain ⟨m1, a1, a2, a3, a4⟩ := s_takeTextL (b := b) (F := F) p0 n F 0 (gsI m 62 4 (nI n)) (by omega) (by omega) n4 p0 (by simpa [gI_1] using h6) (fun j hj => by simpa [gI_1] using h65 j hj) (fun j hj => by omega)
  have p1 : PTR m1 := p0.eq (by rw [a3])
  have e1 : ∀ c, c ≠ 62 → c ≠ 64 → m1.1 c = m.1 c := fun c x y => (a2 c y).trans (gsI_ne x)
  have e62 : ∀ j, j ≠ 4 → m1.1 62 j = m.1 62 j := fun j hj => by rw [a2 62 (by decide), gI_1, if_neg (by omega)]
  have t4 : m1.1 62 4 = nI n := by rw [a2 62 (by decide), gI_1, if_pos ⟨rfl, rfl⟩]
  have R1 : RPr (kS b n) (kL b n) m1 (pQ b n) := R.k (fun c x y => e1 c (by omega) (by omega)) ⟨e62 10 (by decide), e62 15 (by decide), e62 20 (by decide)⟩
  obtain ⟨m2, c1, c2, c3⟩ := s_nameAll (F := F) h (by omega) ⟨p1.2.2.1.2.1, n4, fun i hi => ⟨h.1 i hi, a4 i hi⟩⟩ ⟨R1, p1.1⟩ p1.2.2.2.1
  have p2 : PTR m2 := p1.eq (by rw [c2.2])
  have R2 : RPr (kS b n) (kL b n) m2 (pQ b n) := (RPq.kn ⟨R1, p1.1⟩ c2).1
  have q2 := QS.of p2 R2 (fun r d hr hd => c3.eq h hr hd)
  obtain ⟨m3, d1, d2, d3⟩ := s_meanAll (pQ_ok h).1 q2 p2.2.2.2.2.2.1
  have e3 : ∀ c, c ≠ 62 → ¬ (64 = c ∨ (92 ≤ c ∧ c ≤ 106)) → m3.1 c = m.1 c := fun c x y => by
    rw [(d2.1 c x (by omega)).1, c2.1 c (by omega) (by omega), e1 c x (by omega)]
  have e362 : ∀ j, j ≠ 4 → j ≠ 64 → j ≠ 66 → j ≠ 67 → m3.1 62 j = m.1 62 j := fun j x y z w => by
    rw [d2.2.1 j y z w, c2.1 62 (by decide) (by decide), e62 j x]
  refine ⟨m3, ?_, ?_, ⟨h, ⟨?_, ?_, n4, fun i hi => ⟨h.1 i hi, ?_⟩⟩, R2.k (fun c x y => (d2.1 c (by omega) (by omega)).1) ⟨d2.2.1 10 (by decide) (by decide) (by decide), d2.2.1 15 (by decide) (by decide) (by decide), d2.2.1 20 (by decide) (by decide) (by decide)⟩, ?_, d3⟩, e3, e362⟩
  · unfold f_X8_takeText
    rw [ob_62, g_ift, h6, g_nmb, show (0 : Int32) = nI 0 from rfl, a1, c1, g_bs, d1 F hF, g_bs]
  · have k1 : KO m m1 := KO.c (Z := fun c => c = 62 ∨ c = 64) (fun c hc => e1 c (fun z => hc (Or.inl z)) (fun z => hc (Or.inr z))) (by rw [a3]; rfl) (fun c hc => by omega)
    exact (k1.trans (KO.kn c2)).trans (KO.km d2)
  · rw [d2.2.2, c2.2, a3]
    exact hp.2.2.1.2.1
  · rw [d2.2.1 4 (by decide) (by decide) (by decide), c2.1 62 (by decide) (by decide)]
    exact t4
  · rw [(d2.1 64 (by decide) (by decide)).1, c2.1 64 (by decide) (by decide)]
    exact a4 i hi
  · unfold NMs
    rw [(d2.1 92 (by decide) (by decide)).1, (d2.1 93 (by decide) (by decide)).1]
    exact c3
/-- the tape is copied into what is read -/
theorem s_readL : ∀ (k N i : Nat) (m : gM), i + k = n → k < N → n ≤ 4000 → PTR m → m.1 62 2 = nI n → (∀ j, j < n → m.1 63 j = nI (b j)) → (∀ j, j < i → m.1 65 j = nI (b j)) → ∃ m1, l_X8_read_15 gSH F N 62 (nI i) m = (f_X8_keep gSH F 62 (gsI m1 62 2 0)).bind (fun m4 => (f_X8_readAll gSH F 62 m4).bind (fun q8 => nm q8.1 (fun r7 => nm q8.2 (fun m6 => if r7 = 0 then ((f_X8_giveBack gSH F 62 m6).bind (fun m12 => some (((-1) : Int32) - (m12.1 62 42), m12))) else ((f_X8_takeText gSH F 62 m6).bind (fun m10 => some (m10.1 62 10, m10))))))) ∧ (∀ c, c ≠ 65 → m1.1 c = m.1 c) ∧ m1.2 = m.2 ∧ ∀ j, j < n → m1.1 65 j = nI (b j) := by
  intro k
  induction k with
  | zero =>
    intro N i m hk hN hn p h2 h63 hj
    obtain ⟨N, rfl⟩ : ∃ N', N = N' + 1 := ⟨N - 1, by omega⟩
    refine ⟨m, ?_, fun _ _ => rfl, rfl, fun j hj' => hj j (by omega)⟩
    show b_X8_read_15 gSH F (l_X8_read_15 gSH F N) 62 (nI i) m = _
    unfold b_X8_read_15
    rw [ob_62, g_ift, h2, if_pos (nI_le (by omega) (by omega)), g_nmb]
  | succ k ih =>
    intro N i m hk hN hn p h2 h63 hj
    obtain ⟨N, rfl⟩ : ∃ N', N = N' + 1 := ⟨N - 1, by omega⟩
    have e : l_X8_read_15 gSH F (N + 1) 62 (nI i) m = l_X8_read_15 gSH F N 62 (nI (i + 1)) (gsI m 65 i (nI (b i))) := by
      show b_X8_read_15 gSH F (l_X8_read_15 gSH F N) 62 (nI i) m = _
      unfold b_X8_read_15
      rw [ob_62, g_ift, h2, if_neg (nI_ge (by omega) (by omega)), p.2.2.1.2.2.1, g_bs, p.2.2.1.1, g_bs, show aB gSH 63 .int (nI i) = true from g_inI (N := 4000) (by omega) (by decide), g_ift, show aB gSH 65 .int (nI i) = true from g_inI (N := 4800) (by omega) (by decide), g_ift, nI_clamp (by omega), h63 i (by omega), g_nmb, g_nmb, nI_a1]
    rw [e]
    obtain ⟨m1, c1, c2, c3, c4⟩ := ih N (i + 1) (gsI m 65 i (nI (b i))) (by omega) (by omega) hn p (by simpa [gI_1] using h2) (fun j hj' => by simpa [gI_1] using h63 j hj') (fun j hj' => by
      rw [gI_1]
      by_cases c : j = i
      · rw [if_pos ⟨rfl, c⟩, c]
      · rw [if_neg (by omega)]
        exact hj j (by omega))
    exact ⟨m1, c1, fun c hc => (c2 c hc).trans (gsI_ne hc), c3, c4⟩
/-- the reference's read -/
theorem s_readR {bx : Nat → Nat} {nx : Nat} (hF : fN ≤ F) (hp : PTR m) (hw : WdR m) (hT : TpR m b n) (hX : RTx m bx nx) :
    ∃ r m', f_X8_read gSH F 62 m = some (r, m') ∧ KO m m' ∧ WdR m' ∧ m'.1 62 0 = 0 ∧ TpR m' b 0 ∧
      ((pR b n).1 = 0 → r = nI (pQ b n 0 0) ∧ RTx m' b n ∧ m'.1 62 7 = 0) ∧ ((pR b n).1 ≠ 0 → r = -1 - nI (kS b n (pE b n)) ∧ RTx m' bx nx ∧ m'.1 62 7 = nI (pR b n).1) ∧ (pR b n).1 < 2 ^ 31 := by
  have f5 := fN_5
  obtain ⟨t1, t2, t3⟩ := hT
  have hb : ∀ i, i < n → b i < 256 := fun i hi => (t3 i hi).1
  have p0 : PTR (gsI (gsI m 62 0 0) 62 6 (nI n)) := hp
  obtain ⟨m1, a1, a2, a3, a4⟩ := s_readL (b := b) (F := F) n F 0 (gsI (gsI m 62 0 0) 62 6 (nI n)) (by omega) (by omega) t2 p0 (by simpa [gI_1] using t1) (fun j hj => by simpa [gI_1] using (t3 j hj).2) (fun j hj => by omega)
  obtain ⟨x1, x2, x3, x4, x5⟩ := hX
  have lS := (pQ_ok x1).1.1.1
  generalize hm2 : gsI m1 62 2 0 = m2
  have p2 : PTR m2 := by rw [← hm2]; exact p0.eq (by rw [gI_2, a3])
  have e2 : ∀ c, c ≠ 62 → c ≠ 65 → m2.1 c = m.1 c := fun c x y => by rw [← hm2, gsI_ne x, a2 c y, gsI_ne x, gsI_ne x]
  have e62 : ∀ j, j ≠ 0 → j ≠ 2 → j ≠ 6 → m2.1 62 j = m.1 62 j := fun j x y z => by rw [← hm2, gI_1, if_neg (by omega), a2 62 (by decide), gI_1, if_neg (by omega), gI_1, if_neg (by omega)]
  have v0 : m2.1 62 0 = 0 := by rw [← hm2, gI_1, if_neg (by decide), a2 62 (by decide)]; simp [gI_1]
  have v2 : m2.1 62 2 = 0 := by rw [← hm2]; simp [gI_1]
  have v6 : m2.1 62 6 = nI n := by rw [← hm2, gI_1, if_neg (by decide), a2 62 (by decide)]; simp [gI_1]
  have v65 : ∀ j, j < n → m2.1 65 j = nI (b j) := fun j hj => by rw [← hm2, gsI_ne (by decide)]; exact a4 j hj
  have s2 : m2.2 = m.2 := by rw [← hm2, gI_2, a3]; rfl
  have R2 : RPr (kS bx nx) (kL bx nx) m2 (pQ bx nx) := x3.k (fun c x y => e2 c (by omega) (by omega)) ⟨e62 10 (by decide) (by decide) (by decide), e62 15 (by decide) (by decide) (by decide), e62 20 (by decide) (by decide) (by decide)⟩
  obtain ⟨m3, c1, c2, c3, c4, ⟨c5, c6, c7⟩, c8, c9, c10⟩ := s_keepR (F := F) p2 (by omega) lS.2.1 lS.2.2.1 lS.2.2.2.1 R2.1.1 R2.1.2.1 R2.1.2.2
  have p3 : PTR m3 := p2.eq (by rw [c2])
  have M3 : MadeR m3 b n := ⟨p3.2.2.1.2.2.1, by rw [c4 6 (by decide) (by decide) (by decide)]; exact v6, t2, fun i hi => ⟨hb i hi, by rw [c3 65 (by decide) (by decide)]; exact v65 i hi⟩⟩
  have W3 : WdR m3 := by
    obtain ⟨w1, w2, w3, w4⟩ := hw
    refine ⟨p3.2.2.1.2.2.2.1, p3.2.2.1.2.2.2.2, fun w hw => ?_, fun w hw i hi => ?_⟩
    · rw [c3 87 (by decide) (by decide), e2 87 (by decide) (by decide)]; exact w3 w hw
    · rw [c3 86 (by decide) (by decide), e2 86 (by decide) (by decide)]; exact w4 w hw i hi
  obtain ⟨r, m4, d1, d2, d3, d4, d5⟩ := s_readAll (F := F) M3 W3 p3.1 (by omega)
  have p4 : PTR m4 := p3.eq (by rw [d2.2.2])
  have K2 : KO m m2 := KO.c (Z := fun c => c = 62 ∨ c = 65) (fun c hc => e2 c (fun z => hc (Or.inl z)) (fun z => hc (Or.inr z))) s2 (fun c hc => by omega)
  have K3 : KO m2 m3 := KO.c (Z := fun c => c = 62 ∨ (76 ≤ c ∧ c ≤ 85)) (fun c hc => c3 c (fun z => hc (Or.inl z)) (fun z => hc (Or.inr z))) c2 (fun c hc => by omega)
  have K4 : KO m m4 := (K2.trans K3).trans (KO.kf d2)
  have un : f_X8_read gSH F 62 m = if r = 0 then (f_X8_giveBack gSH F 62 m4).bind (fun m12 => some (((-1) : Int32) - (m12.1 62 42), m12)) else (f_X8_takeText gSH F 62 m4).bind (fun m10 => some (m10.1 62 10, m10)) := by
    unfold f_X8_read
    rw [ob_62, g_ift, g_nmb, show (gsI m 62 0 0).1 62 2 = nI n by simpa [gI_1] using t1, g_nmb, show (0 : Int32) = nI 0 from rfl, show gsI (gsI m 62 0 (nI 0)) 62 6 (nI n) = gsI (gsI m 62 0 0) 62 6 (nI n) from rfl, a1, hm2, c1, g_bs, d1, g_bs, g_nmb, g_nmb]
    rfl
  have kw : ∀ m' : gM, PTR m' → (m'.1 87 = m4.1 87) → (m'.1 86 = m4.1 86) → WdR m' := fun m' pp h87 h86 => by
    obtain ⟨w1, w2, w3, w4⟩ := d2.wd W3
    exact ⟨pp.2.2.1.2.2.2.1, pp.2.2.1.2.2.2.2, fun w hw => by rw [h87]; exact w3 w hw, fun w hw i hi => by rw [h86]; exact w4 w hw i hi⟩
  rw [un]
  by_cases hz : (pR b n).1 = 0
  · obtain ⟨r1, f7, R4, w4⟩ := d3 hz
    have ok : pOk b n := ⟨hb, t2, hz⟩
    obtain ⟨m5, g1, g2, g3, g4, g5⟩ := s_takeText (F := F) hF ok p4 (by rw [d2.2.1 6 (by decide)]; exact M3.2.1) (fun j hj => by rw [d2.1 65 (by decide) (by unfold rdR; omega)]; exact (M3.2.2.2 j hj).2) R4
    rw [r1, if_neg one0, g1, g_bs]
    refine ⟨_, m5, rfl, K4.trans g2, kw m5 (p4.eq g2.2) (g4 87 (by decide) (by decide)) (g4 86 (by decide) (by decide)), ?_, ⟨?_, by omega, fun i hi => by omega⟩, fun _ => ⟨?_, g3, ?_⟩, fun h => absurd hz h, d5⟩
    · rw [g5 0 (by decide) (by decide) (by decide) (by decide), d2.2.1 0 (by decide), c4 0 (by decide) (by decide) (by decide)]
      exact v0
    · rw [g5 2 (by decide) (by decide) (by decide) (by decide), d2.2.1 2 (by decide), c4 2 (by decide) (by decide) (by decide)]
      exact v2
    · rw [g5 10 (by decide) (by decide) (by decide) (by decide)]
      exact R4.1.1
    · rw [g5 7 (by decide) (by decide) (by decide) (by decide)]
      exact f7
  · obtain ⟨r1, f7, f42⟩ := d4 hz
    obtain ⟨m5, g1, g2, g3, g4, ⟨g5, g6, g7⟩, g8, g9, g10⟩ := s_giveBack (F := F) p4 (by omega) lS.2.1 lS.2.2.1 lS.2.2.2.1 (by rw [d2.2.1 24 (by decide)]; exact c5) (by rw [d2.2.1 29 (by decide)]; exact c6) (by rw [d2.2.1 34 (by decide)]; exact c7)
    rw [r1, if_pos rfl, g1, g_bs]
    have p5 : PTR m5 := p4.eq (by rw [g2])
    have kp : ∀ c, 76 ≤ c → c ≤ 85 → m4.1 c = m3.1 c := fun c x y => d2.1 c (by omega) (by unfold rdR; omega)
    have e5 : ∀ c, c ≠ 62 → c ≠ 65 → ¬ (66 ≤ c ∧ c ≤ 85) → ¬ (88 ≤ c ∧ c ≤ 91) → m5.1 c = m.1 c := fun c x y z w => by
      rw [g3 c x (by omega), d2.1 c x (by unfold rdR; omega), c3 c x (by omega), e2 c x y]
    have K5 : KO m4 m5 := KO.c (Z := fun c => c = 62 ∨ (66 ≤ c ∧ c ≤ 75)) (fun c hc => g3 c (fun z => hc (Or.inl z)) (fun z => hc (Or.inr z))) g2 (fun c hc => by omega)
    obtain ⟨y1, y2, y3, y4⟩ := R2
    refine ⟨_, m5, rfl, K4.trans K5, kw m5 p5 (g3 87 (by decide) (by decide)) (g3 86 (by decide) (by decide)), ?_, ⟨?_, by omega, fun i hi => by omega⟩, fun h => absurd h hz, fun _ => ⟨?_, ⟨x1, ⟨p5.2.2.1.2.1, ?_, x2.2.2.1, fun i hi => ⟨(x2.2.2.2 i hi).1, ?_⟩⟩, ⟨⟨g5, g6, g7⟩, fun i hi => ?_, fun i hi => ?_, fun i hi => ?_⟩, ?_, ?_⟩, ?_⟩, d5⟩
    · rw [g4 0 (by decide) (by decide) (by decide), d2.2.1 0 (by decide), c4 0 (by decide) (by decide) (by decide)]
      exact v0
    · rw [g4 2 (by decide) (by decide) (by decide), d2.2.1 2 (by decide), c4 2 (by decide) (by decide) (by decide)]
      exact v2
    · rw [g4 42 (by decide) (by decide) (by decide), f42]
      rfl
    · rw [g4 4 (by decide) (by decide) (by decide), d2.2.1 4 (by decide), c4 4 (by decide) (by decide) (by decide), e62 4 (by decide) (by decide) (by decide)]
      exact x2.2.1
    · rw [e5 64 (by decide) (by decide) (by decide) (by decide)]
      exact (x2.2.2.2 i hi).2
    · rw [(g8 i hi).1, (g8 i hi).2, kp 76 (by decide) (by decide), kp 77 (by decide) (by decide), (c8 i hi).1, (c8 i hi).2]
      exact y2 i hi
    · obtain ⟨z1, z2, z3, z4⟩ := g9 i hi
      obtain ⟨w1, w2, w3, w4⟩ := c9 i hi
      rw [z1, z2, z3, z4, kp 78 (by decide) (by decide), kp 79 (by decide) (by decide), kp 80 (by decide) (by decide), kp 81 (by decide) (by decide), w1, w2, w3, w4]
      exact y3 i hi
    · obtain ⟨z1, z2, z3, z4⟩ := g10 i hi
      obtain ⟨w1, w2, w3, w4⟩ := c10 i hi
      rw [z1, z2, z3, z4, kp 82 (by decide) (by decide), kp 83 (by decide) (by decide), kp 84 (by decide) (by decide), kp 85 (by decide) (by decide), w1, w2, w3, w4]
      exact y4 i hi
    · unfold NMs
      rw [e5 92 (by decide) (by decide) (by decide) (by decide), e5 93 (by decide) (by decide) (by decide) (by decide)]
      exact x4
    · unfold RMr
      rw [e5 105 (by decide) (by decide) (by decide) (by decide), e5 106 (by decide) (by decide) (by decide) (by decide), g2, d2.2.2, c2, s2]
      exact x5
    · rw [g4 7 (by decide) (by decide) (by decide)]
      exact f7
end RDR
