/-! THE OBJECT'S RENAME -/
/-- the object's half of what both know -/
def OB (m : gM) (tp tx pg df mn tr : Nat) (bt : Nat → Nat) (nt : Nat) (bx : Nat → Nat) (nx f : Nat) : Prop := CRf m ∧ CO m tp tx pg df mn tr ∧ TapC m tp bt nt ∧ TapC m tx bx nx ∧ CTx m pg mn bx nx ∧ m.1 0 8 = nI f
/-- the reference's half -/
def RF (m : gM) (bt : Nat → Nat) (nt : Nat) (bx : Nat → Nat) (nx f : Nat) : Prop := PTR m ∧ WdR m ∧ TpR m bt nt ∧ RTx m bx nx ∧ m.1 62 7 = nI f
section ORN
variable {F tp tx pg df mn tr : Nat} {m m' : gM} {bt bx : Nat → Nat} {nt nx f : Nat}
theorem JP.iff : JP m tp tx pg df mn tr bt nt bx nx f ↔ OB m tp tx pg df mn tr bt nt bx nx f ∧ RF m bt nt bx nx f := by
  constructor
  · rintro ⟨h1, h2, h3, h4, h5, h6, h7, h8, h9, h10, h11⟩
    exact ⟨⟨h1, h2, h3, h4, h5, h6⟩, h7, h8, h9, h10, h11⟩
  · rintro ⟨⟨h1, h2, h3, h4, h5, h6⟩, h7, h8, h9, h10, h11⟩
    exact ⟨h1, h2, h3, h4, h5, h6, h7, h8, h9, h10, h11⟩
theorem PR.k {r r' : Nat → Nat → Option Nat} (h : PR r pg) (e : ∀ c, c = pg ∨ c = pg + 1 ∨ c = pg + 6 → r' c = r c) : PR r' pg := by
  unfold PR
  rw [e pg (by omega), e (pg + 1) (by omega), e (pg + 6) (by omega)]
  exact h
theorem CRf.kk (h : CRf m) (e : ∀ c, c ≠ 0 → c ≠ 60 → m'.2.2 c = m.2.2 c) (e60 : m'.2.2 60 0 = m.2.2 60 0) : CRf m' := by
  obtain ⟨⟨a1, a2⟩, ⟨a3, a4⟩, ⟨a5, a6⟩, a7, a8⟩ := h
  refine ⟨⟨a1.k (fun c hc => e c (by omega) (by omega)), a2.k (fun c hc => e c (by omega) (by omega))⟩, ⟨by rw [e 1 (by decide) (by decide)]; exact a3, by rw [e 3 (by decide) (by decide)]; exact a4⟩, ⟨by rw [e 45 (by decide) (by decide)]; exact a5, by rw [e 50 (by decide) (by decide)]; exact a6⟩, by rw [e 55 (by decide) (by decide)]; exact a7, by rw [e60]; exact a8⟩
/-- all but the tokens, the trial, the resolver -/
theorem OB.kk (h : OB m tp tx pg df mn tr bt nt bx nx f) (e1 : ∀ c, c ≠ 56 → c ≠ 60 → c ≠ tr + 3 → c ≠ tr + 4 → m'.1 c = m.1 c) (e2 : ∀ c, c ≠ 56 → c ≠ 61 → c ≠ tr + 1 → c ≠ tr + 2 → m'.2.1 c = m.2.1 c) (e3 : ∀ c, c ≠ 60 → m'.2.2 c = m.2.2 c) (e60 : m'.2.2 60 0 = m.2.2 60 0) : OB m' tp tx pg df mn tr bt nt bx nx f := by
  obtain ⟨h1, h2, h3, h4, h5, h6⟩ := h
  obtain ⟨-, o1, o2, o3⟩ := id h2
  refine ⟨h1.kk (fun c _ h => e3 c h) e60, ?_, h3.k' (e1 tp (by omega) (by omega) (by omega) (by omega)) (e1 (tp + 1) (by omega) (by omega) (by omega) (by omega)) (e3 tp (by omega)), h4.k' (e1 tx (by omega) (by omega) (by omega) (by omega)) (e1 (tx + 1) (by omega) (by omega) (by omega) (by omega)) (e3 tx (by omega)), h5.k (by omega) (by omega) (fun c hc => ⟨e1 c (by omega) (by omega) (by omega) (by omega), e2 c (by omega) (by omega) (by omega) (by omega)⟩) (fun c hc => e3 c (by omega)), by rw [e1 0 (by omega) (by omega) (by omega) (by omega)]; exact h6⟩
  unfold CO
  rw [e3 0 (by decide)]
  exact h2
theorem CPr.new {q : Nat → Nat → Nat} {S S' : Nat → Nat} {H L H' L' : Nat → Int64} (C : CPr pg m q S H L) (e1 : ∀ c, pg ≤ c → c ≤ pg + 19 → c ≠ pg + 3 → c ≠ pg + 8 → m'.1 c = m.1 c) (e2 : m'.2.1 (pg + 13) = m.2.1 (pg + 13)) (rD : ∀ d, d < q 0 1 → m'.1 (pg + 3) d = nI (S' (q 4 d)) ∧ m'.2.1 (pg + 4) d = H' (q 4 d) ∧ m'.2.1 (pg + 5) d = L' (q 4 d)) (rR : ∀ r, r < q 0 2 → m'.1 (pg + 8) r = nI (S' (q 7 r)) ∧ m'.2.1 (pg + 9) r = H' (q 7 r) ∧ m'.2.1 (pg + 10) r = L' (q 7 r)) : CPr pg m' q S' H' L' := by
  obtain ⟨c1, c2, c3, c4, c5⟩ := C
  refine ⟨?_, fun i hi => ?_, fun i hi => ?_, fun i hi => ?_, fun i hi => ?_⟩
  · rw [e1 pg (by omega) (by omega) (by omega) (by omega), e1 (pg + 1) (by omega) (by omega) (by omega) (by omega), e1 (pg + 6) (by omega) (by omega) (by omega) (by omega)]
    exact c1
  · rw [e1 (pg + 11) (by omega) (by omega) (by omega) (by omega), e1 (pg + 12) (by omega) (by omega) (by omega) (by omega), e1 (pg + 14) (by omega) (by omega) (by omega) (by omega), e2]
    exact c2 i hi
  · obtain ⟨r1, r2, r3⟩ := rD i hi
    have a := c3 i hi
    rw [e1 (pg + 2) (by omega) (by omega) (by omega) (by omega), e1 (pg + 15) (by omega) (by omega) (by omega) (by omega)]
    exact ⟨a.1, r1, r2, r3, a.2.2.2.2⟩
  · obtain ⟨r1, r2, r3⟩ := rR i hi
    have a := c4 i hi
    rw [e1 (pg + 7) (by omega) (by omega) (by omega) (by omega), e1 (pg + 16) (by omega) (by omega) (by omega) (by omega), e1 (pg + 17) (by omega) (by omega) (by omega) (by omega)]
    exact ⟨a.1, r1, r2, r3, a.2.2.2.2⟩
  · rw [e1 (pg + 18) (by omega) (by omega) (by omega) (by omega), e1 (pg + 19) (by omega) (by omega) (by omega) (by omega)]
    exact c5 i hi
/-- what the trial finds -/
def AG (m : gM) (bx : Nat → Nat) (nx : Nat) (g : Int64) (c : Nat → Nat) (l : Nat) : Prop := ∀ r, r < pQ bx nx 0 2 → ∀ d, bm (m.2.1 104 r) d = true ↔ mB (pQ bx nx) (nkN bx nx g (m.2.1 104) c l) (fun i => decide (pQ bx nx 15 r = i + 1)) r d
theorem sw_2 (m : gM) (k j : Nat) (v : Option Nat) (a x : Nat) : (gsR m k j v).2.2 a x = if a = k ∧ x = j then v else m.2.2 a x := rfl
/-- the object's new text, swapped in -/
theorem o_swap (m4 : gM) (z : m4.2.2 0 0 = some tp ∧ m4.2.2 0 1 = some tx ∧ m4.2.2 0 2 = some pg ∧ m4.2.2 0 3 = some df ∧ m4.2.2 0 4 = some mn ∧ m4.2.2 0 5 = some tr ∧ m4.2.2 0 6 = some 55 ∧ m4.2.2 0 7 = some 60) (otx : oB gSH tx 5 = true) (v : Int32) : ∃ m6, (f_X7_swapTapes gSH F 0 m4).bind (fun m69 => (m69.2.2 0 0).bind (fun t71 => g_if (oB gSH t71 5) (nm (gsI m69 t71 1 0) (fun m73 => (m73.2.2 0 4).bind (fun t74 => (m73.2.2 0 5).bind (fun t75 => nm (gsR m73 0 4 (some t75)) (fun m76 => nm (gsR m76 0 5 (some t74)) (fun m77 => some (some v, m77))))))))) = some (some v, m6) ∧ (∀ c, c ≠ tx → m6.1 c = m4.1 c) ∧ m6.1 tx 1 = 0 ∧ (∀ j, j ≠ 1 → m6.1 tx j = m4.1 tx j) ∧ m6.2.1 = m4.2.1 ∧ (∀ c, c ≠ 0 → m6.2.2 c = m4.2.2 c) ∧ (m6.2.2 0 0 = some tx ∧ m6.2.2 0 1 = some tp ∧ m6.2.2 0 2 = some pg ∧ m6.2.2 0 3 = some df ∧ m6.2.2 0 4 = some tr ∧ m6.2.2 0 5 = some mn ∧ m6.2.2 0 6 = some 55 ∧ m6.2.2 0 7 = some 60) := by
  obtain ⟨z0, z1, z2, z3, z4, z5, z6, z7⟩ := z
  refine ⟨gsR (gsR (gsI (gsR (gsR m4 0 1 (some tp)) 0 0 (some tx)) tx 1 0) 0 4 (some tr)) 0 5 (some mn), ?_, fun c hc => ?_, ?_, fun j hj => ?_, rfl, fun c hc => ?_, ?_⟩
  · unfold f_X7_swapTapes
    rw [ob_0, g_ift, z1, g_bs, z0, g_bs, g_nmb, g_nmb, g_bs]
    have e0 : (gsR (gsR m4 0 1 (some tp)) 0 0 (some tx)).2.2 0 0 = some tx := rfl
    have e4 : (gsI (gsR (gsR m4 0 1 (some tp)) 0 0 (some tx)) tx 1 0).2.2 0 4 = some mn := z4
    have e5 : (gsI (gsR (gsR m4 0 1 (some tp)) 0 0 (some tx)) tx 1 0).2.2 0 5 = some tr := z5
    rw [e0, g_bs, otx, g_ift, g_nmb, e4, g_bs, e5, g_bs, g_nmb, g_nmb]
  · show (gsI (gsR (gsR m4 0 1 (some tp)) 0 0 (some tx)) tx 1 0).1 c = _
    rw [gsI_ne hc]
    rfl
  · show (gsI (gsR (gsR m4 0 1 (some tp)) 0 0 (some tx)) tx 1 0).1 tx 1 = _
    rw [gI_1, if_pos ⟨rfl, rfl⟩]
  · show (gsI (gsR (gsR m4 0 1 (some tp)) 0 0 (some tx)) tx 1 0).1 tx j = _
    rw [gI_1, if_neg (fun w => hj w.2)]
    rfl
  · rw [gsR_ne hc, gsR_ne hc]
    show (gsR (gsR m4 0 1 (some tp)) 0 0 (some tx)).2.2 c = _
    rw [gsR_ne hc, gsR_ne hc]
  · exact ⟨rfl, rfl, z2, z3, rfl, rfl, z6, z7⟩
end ORN
