/-! THE REFERENCE'S RENAME: all of it -/
section RNM
variable {F tp tx pg df mn tr : Nat} {m m' : gM} {bt bx : Nat → Nat} {nt nx f : Nat}
theorem eT_nSm {b c : Nat → Nat} {n l t t' : Nat} (h : eT b c l (kS b n t) (kL b n t)) : nSm b n t t' ↔ eT b c l (kS b n t') (kL b n t') := by
  obtain ⟨h1, h2⟩ := h
  constructor
  · rintro ⟨a1, a2⟩
    exact ⟨by omega, fun j hj => by rw [← a2 j (by omega)]; exact h2 j hj⟩
  · rintro ⟨a1, a2⟩
    exact ⟨by omega, fun j hj => by rw [h2 j (by omega), a2 j (by omega)]⟩
/-- whose number the new name gets -/
def idQ (m : gM) (bx : Nat → Nat) (nx : Nat) (bt : Nat → Nat) (nt : Nat) (x : Int32) : Prop := (∃ d, d < pQ bx nx 0 1 ∧ eT bx bt nt (kS bx nx (pQ bx nx 4 d)) (kL bx nx (pQ bx nx 4 d)) ∧ x = m.1 92 d) ∨ ∃ r, r < pQ bx nx 0 2 ∧ eT bx bt nt (kS bx nx (pQ bx nx 7 r)) (kL bx nx (pQ bx nx 7 r)) ∧ x = m.1 93 r
theorem id_iff (h : pOk bx nx) (g : NMs bx nx m) {x4 : Int32} (I : (x4 = 5000 ∧ (∀ d, d < pQ bx nx 0 1 → ¬ eT bx bt nt (kS bx nx (pQ bx nx 4 d)) (kL bx nx (pQ bx nx 4 d))) ∧ ∀ r, r < pQ bx nx 0 2 → ¬ eT bx bt nt (kS bx nx (pQ bx nx 7 r)) (kL bx nx (pQ bx nx 7 r))) ∨ idQ m bx nx bt nt x4) {t y : Nat} (hy : nFst bx nx t y) (ht : (∃ d, d < pQ bx nx 0 1 ∧ t = pQ bx nx 4 d) ∨ ∃ r, r < pQ bx nx 0 2 ∧ t = pQ bx nx 7 r) : x4 = nI (kS bx nx y) ↔ eT bx bt nt (kS bx nx t) (kL bx nx t) := by
  have n4 := h.2.1
  rcases I with ⟨a1, a2, a3⟩ | Q
  · have no : ¬ eT bx bt nt (kS bx nx t) (kL bx nx t) := by
      rcases ht with ⟨d, w1, w2⟩ | ⟨r, w1, w2⟩
      · rw [w2]; exact a2 d w1
      · rw [w2]; exact a3 r w1
    have lt := (tok_in h (nFst_in h hy).1).1
    constructor
    · intro e
      rw [a1] at e
      have := (nI_eq (a := 5000) (by omega) (by omega)).mp e
      omega
    · intro e
      exact absurd e no
  · have key : ∀ t0 y0, nFst bx nx t0 y0 → eT bx bt nt (kS bx nx t0) (kL bx nx t0) → x4 = nI (kS bx nx y0) → (x4 = nI (kS bx nx y) ↔ eT bx bt nt (kS bx nx t) (kL bx nx t)) := fun t0 y0 w1 w2 w3 => by
      rw [w3, nFst_eq h w1 hy, eT_nSm w2]
    rcases Q with ⟨d, w1, w2, w3⟩ | ⟨r, w1, w2, w3⟩
    · obtain ⟨y0, u1, u2⟩ := g.1 d w1
      exact key _ y0 u1 w2 (by rw [w3, u2])
    · obtain ⟨y0, u1, u2⟩ := g.2 r w1
      exact key _ y0 u1 w2 (by rw [w3, u2])
theorem ren_nk (h : pOk bx nx) (g' : NMs bx nx m) (hc : Nme bt nt) {g : Int64} {X : Nat → Int64} {x4 : Int32} (I : (x4 = 5000 ∧ (∀ d, d < pQ bx nx 0 1 → ¬ eT bx bt nt (kS bx nx (pQ bx nx 4 d)) (kL bx nx (pQ bx nx 4 d))) ∧ ∀ r, r < pQ bx nx 0 2 → ¬ eT bx bt nt (kS bx nx (pQ bx nx 7 r)) (kL bx nx (pQ bx nx 7 r))) ∨ idQ m bx nx bt nt x4) {r d : Nat} (hr : r < pQ bx nx 0 2) (hd : d < pQ bx nx 0 1) : (if bm g d = true then x4 else m.1 92 d) = (if X r &&& g ≠ 0 then x4 else m.1 93 r) ↔ nkN bx nx g X bt nt r d = true := by
  rw [nkN_iff h hc hr hd]
  obtain ⟨y, u1, u2⟩ := g'.1 d hd
  obtain ⟨y', v1, v2⟩ := g'.2 r hr
  have e1 := id_iff h g' I u1 (Or.inl ⟨d, hd, rfl⟩)
  have e2 := id_iff h g' I v1 (Or.inr ⟨r, hr, rfl⟩)
  rw [eT_iff h hc (tok_d h hd).1 (tok_d h hd).2] at e1
  rw [eT_iff h hc (tok_r h hr).1 (tok_r h hr).2] at e2
  by_cases a : bm g d = true
  · rw [if_pos a, if_pos a, if_pos a]
    by_cases b : X r &&& g ≠ 0
    · rw [if_pos b, if_pos b, if_pos b]
      exact ⟨fun _ => ⟨rfl, rfl⟩, fun _ => rfl⟩
    · rw [if_neg b, if_neg b, if_neg b, v2, e2]
      exact ⟨fun z => ⟨z.1.symm, z.2.symm⟩, fun z => ⟨z.1.symm, z.2.symm⟩⟩
  · rw [if_neg a, if_neg a, if_neg a]
    by_cases b : X r &&& g ≠ 0
    · rw [if_pos b, if_pos b, if_pos b, u2, ← e1]
      exact ⟨fun z => z.symm, fun z => z.symm⟩
    · rw [if_neg b, if_neg b, if_neg b, g'.eq h hr hd]
      unfold nkT
      rw [decide_eq_true_eq]
theorem r_rename (hF : fN ≤ F) (h : RF m bt nt bx nx f) {d : Nat} (hd : d < pQ bx nx 0 1) {g : Int64} (fr : ∀ m' : gM, m'.2.1 104 = m.2.1 104 → m'.2.2 62 68 = some 104 → m'.1 62 20 = nI (pQ bx nx 0 2) → f_X8_friendsOf gSH F 62 (nI d) m' = some (g, m')) (hg : ∀ x, bm g x = true → x < pQ bx nx 0 1 ∧ sNm bx nx (pQ bx nx 4 d) (pQ bx nx 4 x)) (hX : ∀ r, r < pQ bx nx 0 2 → ∀ x, bm (m.2.1 104 r) x = true → x < pQ bx nx 0 1 ∧ nkT bx nx r x = true) :
    ∃ v m2, f_X8_rename gSH F 62 (nI d) m = some (v, m2) ∧ KO m m2 ∧ m2.1 62 0 = 0 ∧ ((¬ Nme bt nt ∧ v = -2 ∧ RF m2 bt nt bx nx f) ∨ (Nme bt nt ∧ ((¬ AG m bx nx g bt nt ∧ v = -3 ∧ RF m2 bt nt bx nx f) ∨ (AG m bx nx g bt nt ∧ ((4000 < nwN bx nx (uT (pQ bx nx) g (m.2.1 104)) nt ∧ v = -4 ∧ RF m2 bt nt bx nx f) ∨ (nwN bx nx (uT (pQ bx nx) g (m.2.1 104)) nt ≤ 4000 ∧ v = nI (bc (pQ bx nx 0 1) (bm g) + bc (pQ bx nx 0 2) (fun r => decide (m.2.1 104 r &&& g ≠ 0))) ∧ RF m2 bt 0 (nwB bx nx (uT (pQ bx nx) g (m.2.1 104)) bt nt) (nwN bx nx (uT (pQ bx nx) g (m.2.1 104)) nt) f)))))) := by
  have f5 := fN_5
  have pk := h.2.2.2.1.1
  have l1 := (pQ_ok pk).1.1.1.2.2.1
  have l2 := (pQ_ok pk).1.1.1.2.2.2.1
  have x15 : m.1 62 15 = nI (pQ bx nx 0 1) := h.2.2.2.1.2.2.1.1.2.1
  generalize hm0 : gsI m 62 0 0 = m0
  have R0 : RF m0 bt nt bx nx f := by rw [← hm0]; exact h.s (Or.inl rfl)
  have c0 : m0.1 62 0 = 0 := by rw [← hm0, gI_1, if_pos ⟨rfl, rfl⟩]
  have s0 : m0.2 = m.2 := by rw [← hm0]; rfl
  have i0 : ∀ c, c ≠ 62 → m0.1 c = m.1 c := fun c hc => by rw [← hm0, gsI_ne hc]
  have K0 : KO m m0 := KO.c (Z := fun c => c = 62) i0 s0 (fun c hc => by omega)
  obtain ⟨p0, w0, t0, ⟨-, x2, x3, x4, x5⟩, x7⟩ := id R0
  obtain ⟨v, a1, a2⟩ := r_isName (F := F) p0 w0 (by omega) t0
  have st0 : f_X8_rename gSH F 62 (nI d) m = (if v = 0 then some (-2, m0) else (f_X8_friendsOf gSH F 62 (nI d) m0).bind (fun q13 => nm q13.1 (fun r12 => nm q13.2 (fun m11 => l_X8_rename_53 gSH F F 62 r12 5000 0 0 m11)))) := by
    unfold f_X8_rename b_X8_rename_18
    rw [if_neg (nI_pos (by omega)), ob_62, g_ift, x15, if_neg (nI_ge hd (by omega)), g_ift, s_fails1, hm0, g_bs, g_nmb, g_nmb, if_pos (rfl : (0 : Int32) = 0), g_ift, a1, g_bs, g_nmb, g_nmb]
  rcases a2 with ⟨v1, N⟩ | ⟨v0, N⟩
  rotate_left
  · exact ⟨-2, m0, by rw [st0, if_pos v0], K0, c0, Or.inl ⟨N, rfl, R0⟩⟩
  have fr0 := fr m0 (by rw [s0]) p0.2.2.2.2.2.1.1 x3.1.2.2
  rw [if_neg (show ¬ v = 0 by rw [v1]; decide), fr0, g_bs, g_nmb, g_nmb] at st0
  have rk0 := R0.rk
  obtain ⟨y4, b1, b2⟩ := s_ren53 (F := F) (g := g) rk0 (by omega) (pQ bx nx 0 1) F 0 5000 (by omega) (by omega) (Or.inl ⟨rfl, fun d hd => absurd hd (Nat.not_lt_zero _)⟩)
  have b1' : l_X8_rename_53 gSH F F 62 g 5000 0 0 m0 = _ := b1
  obtain ⟨y5, m1, c1, c2, c3, ID'⟩ := s_ren114 (F := F) (g := g) rk0 (by omega) (A := ∀ d, d < pQ bx nx 0 1 → ¬ eT bx bt nt (kS bx nx (pQ bx nx 4 d)) (kL bx nx (pQ bx nx 4 d))) (Q := idQ m0 bx nx bt nt) (fun r hr e => Or.inr ⟨r, hr, e, rfl⟩) (pQ bx nx 0 2) F 0 y4 m0 (by omega) (by omega) ⟨fun _ _ => rfl, fun _ _ => rfl, rfl⟩ (fun r hr => absurd hr (Nat.not_lt_zero _)) (by
    rcases b2 with ⟨z1, z2⟩ | z
    · exact Or.inl ⟨z2, z1, fun r hr => absurd hr (Nat.not_lt_zero _)⟩
    · exact Or.inr (Or.inl z))
  have c1' : l_X8_rename_114 gSH F F 62 g y4 0 0 m0 = _ := c1
  have ID : (y5 = 5000 ∧ (∀ d, d < pQ bx nx 0 1 → ¬ eT bx bt nt (kS bx nx (pQ bx nx 4 d)) (kL bx nx (pQ bx nx 4 d))) ∧ ∀ r, r < pQ bx nx 0 2 → ¬ eT bx bt nt (kS bx nx (pQ bx nx 7 r)) (kL bx nx (pQ bx nx 7 r))) ∨ idQ m0 bx nx bt nt y5 := by
    rcases ID' with ⟨z0, z1, z2⟩ | z
    · exact Or.inl ⟨z1, z0, z2⟩
    · exact Or.inr z
  clear ID' b2
  have X1 := KX.k78 c2
  have p1 : PTR m1 := p0.eq c2.2.2
  have hu : ∀ r, r < pQ bx nx 0 2 → m1.1 108 r = if (fun r => decide (m.2.1 104 r &&& g ≠ 0)) r = true then 1 else 0 := fun r hr => by
    have z := (c3 r hr).2
    rw [s0] at z
    rw [z]
    by_cases w : m.2.1 104 r &&& g = 0
    · rw [if_pos w, if_neg (show ¬ decide (m.2.1 104 r &&& g ≠ 0) = true from fun y => (decide_eq_true_eq.mp y) w)]
    · rw [if_neg w, if_pos (show decide (m.2.1 104 r &&& g ≠ 0) = true from decide_eq_true w)]
  obtain ⟨m2, d1, d2, d3, d4⟩ := s_ren215 (F := F) (g := g) (x4 := y5) p1 (by rw [c2.1 62 (by decide)]; exact x3.1.2.1) l1 (pQ bx nx 0 1) F 0 m1 (by omega) (by omega) (KN.refl m1) rfl (fun d => by rw [if_neg (fun z => absurd z.1 (Nat.not_lt_zero _))])
  have d1' : l_X8_rename_215 gSH F F 62 g y5 0 0 m1 = _ := d1
  have p2 : PTR m2 := p1.eq (by rw [d2.2])
  obtain ⟨m3, e1, e2, e3, e4⟩ := s_ren254 (F := F) (g := g) (x4 := y5) (u := fun r => decide (m.2.1 104 r &&& g ≠ 0)) p2 (by rw [d2.1 62 (by decide) (by decide), c2.1 62 (by decide)]; exact x3.1.2.2) l2 (fun r hr => by rw [d2.1 108 (by decide) (by decide)]; exact hu r hr) (bc (pQ bx nx 0 1) (bm g)) (pQ bx nx 0 2) F 0 m2 (by omega) (by omega) (KN.refl m2) rfl (fun d => by rw [if_neg (fun z => absurd z.1 (Nat.not_lt_zero _))])
  have e1' : l_X8_rename_254 gSH F F 62 g y5 (nI (bc (pQ bx nx 0 1) (bm g))) 0 m2 = _ := e1
  have X3 : KX m0 m3 := (X1.trans (KX.kn d2)).trans (KX.kn e2)
  have p3 : PTR m3 := p0.eq X3.2.2.2
  have R3 : RPr (kS bx nx) (kL bx nx) m3 (pQ bx nx) := x3.k (fun c a b => X3.1 c (by omega) (by omega) (by omega) (by omega) (by omega)) ⟨X3.2.1 10 (by decide) (by decide) (by decide), X3.2.1 15 (by decide) (by decide) (by decide), X3.2.1 20 (by decide) (by decide) (by decide)⟩
  have Q3 : QS (pQ bx nx) (nkN bx nx g (m.2.1 104) bt nt) m3 := QS.of p3 R3 (fun r d' hr hd' => by
    rw [e3, d4 d' hd', e4 r hr, d3, c2.1 92 (by decide), c2.1 93 (by decide)]
    have z := ren_nk (g := g) (X := m.2.1 104) pk x4 N ID hr hd'
    rw [← z]
    by_cases w : m.2.1 104 r &&& g ≠ 0
    · rw [if_pos w, if_pos (show decide (m.2.1 104 r &&& g ≠ 0) = true from decide_eq_true w)]
    · rw [if_neg w, if_neg (show ¬ decide (m.2.1 104 r &&& g ≠ 0) = true from fun y => w (decide_eq_true_eq.mp y))])
  have o107 : ∀ r, r < pQ bx nx 0 2 → m3.2.1 107 r = m.2.1 104 r := fun r hr => by
    rw [e2.2, d2.2, (c3 r hr).1, s0]
  obtain ⟨x6, m4, f1, f2, f3⟩ := s_ren297 (F := F) (g := g) (pQ_ok pk).1 hF (nI (bc (pQ bx nx 0 1) (bm g) + bc (pQ bx nx 0 2) (fun r => decide (m.2.1 104 r &&& g ≠ 0)))) (pQ bx nx 0 2) F 0 m3 (by omega) (by omega) Q3 p3.2.2.2.2.2.2.1 (fun r hr => absurd hr (Nat.not_lt_zero _))
  have f1' : l_X8_rename_297 gSH F F 62 g (nI (bc (pQ bx nx 0 1) (bm g) + bc (pQ bx nx 0 2) (fun r => decide (m.2.1 104 r &&& g ≠ 0)))) 1 0 m3 = _ := f1
  have X4 : KX m0 m4 := X3.trans (KX.kb f2)
  have p4 : PTR m4 := p0.eq X4.2.2.2
  have R4 : RPr (kS bx nx) (kL bx nx) m4 (pQ bx nx) := x3.k (fun c a b => X4.1 c (by omega) (by omega) (by omega) (by omega) (by omega)) ⟨X4.2.1 10 (by decide) (by decide) (by decide), X4.2.1 15 (by decide) (by decide) (by decide), X4.2.1 20 (by decide) (by decide) (by decide)⟩
  obtain ⟨m5, g1, g2, g3⟩ := s_nameAll (F := F) (m := m4) pk (by omega) ⟨p4.2.2.1.2.1, x2.2.2.1, fun i hi => by rw [X4.1 64 (by decide) (by decide) (by decide) (by decide) (by decide)]; exact x2.2.2.2 i hi⟩ ⟨R4, p4.1⟩ p4.2.2.2.1
  have X5 : KX m0 m5 := X4.trans (KX.kn g2)
  have R5 : RF m5 bt nt bx nx f := R0.kx X5 g3
  have K5 : KO m m5 := K0.trans ⟨fun c hc => ⟨X5.1 c (by omega) (by omega) (by omega) (by omega) (by omega), X5.2.2.1 c (by omega) (by omega) (by omega)⟩, X5.2.2.2⟩
  have c5 : m5.1 62 0 = 0 := by rw [X5.2.1 0 (by decide) (by decide) (by decide)]; exact c0
  have agi : (∀ r', r' < pQ bx nx 0 2 → ∀ d, bm (m3.2.1 107 r') d = true ↔ mB (pQ bx nx) (nkN bx nx g (m.2.1 104) bt nt) (fun i => decide (pQ bx nx 15 r' = i + 1)) r' d) ↔ AG m bx nx g bt nt := by
    unfold AG
    constructor
    · intro w r hr
      have := w r hr
      rw [o107 r hr] at this
      exact this
    · intro w r hr
      rw [o107 r hr]
      exact w r hr
  have st : f_X8_rename gSH F 62 (nI d) m = (if x6 = 0 then some (-3, m5) else (f_X8_build gSH F 62 g m5).bind (fun q7 => nm q7.1 (fun r6 => nm q7.2 (fun m5 => if r6 = 0 then (some ((-4), m5)) else ((f_X8_readAll gSH F 62 m5).bind (fun q11 => nm q11.1 (fun r10 => nm q11.2 (fun m9 => nm (gsI m9 62 2 0) (fun m12 => nm (gsI m12 62 7 (m12.1 62 73)) (fun m13 => (f_X8_takeText gSH F 62 m13).bind (fun m14 => some (nI (bc (pQ bx nx 0 1) (bm g) + bc (pQ bx nx 0 2) (fun r => decide (m.2.1 104 r &&& g ≠ 0))), m14)))))))))))) := by
    rw [st0]
    show l_X8_rename_53 gSH F F 62 g 5000 0 0 m0 = _
    rw [b1', c1', d1', e1', f1']
    unfold b_X8_rename_345
    rw [ob_62, g_ift, g1, g_bs]
  rcases f3 with ⟨x61, f3⟩ | ⟨x60, f3⟩
  rotate_left
  · exact ⟨-3, m5, by rw [st, if_pos x60], K5, c5, Or.inr ⟨N, Or.inl ⟨fun w => f3 (agi.mpr w), rfl, R5⟩⟩⟩
  have ag := agi.mp f3
  rw [if_neg (show ¬ x6 = 0 by rw [x61]; decide)] at st
  clear f3 agi
  generalize hm6 : gsI m5 62 73 (m5.1 62 7) = m6
  have R6 : RF m6 bt nt bx nx f := by rw [← hm6]; exact R5.s (Or.inr (Or.inr rfl))
  have i6 : ∀ c, c ≠ 62 → m6.1 c = m5.1 c := fun c hc => by rw [← hm6, gsI_ne hc]
  have s6 : m6.2 = m5.2 := by rw [← hm6]; rfl
  have j6 : ∀ j, j ≠ 73 → m6.1 62 j = m5.1 62 j := fun j hj => by rw [← hm6, gI_1, if_neg (by omega)]
  have v73 : m6.1 62 73 = nI f := by
    rw [← hm6, gI_1, if_pos ⟨rfl, rfl⟩]
    exact R5.2.2.2.2
  have K6 : KO m m6 := K5.trans (KO.c (Z := fun c => c = 62) i6 s6 (fun c hc => by omega))
  have rk6 := R6.rk
  have tkd := tok_d pk hd
  have la12 := (tok_name pk tkd.1 tkd.2).1
  have la1 := (tok_in pk tkd.1).2.1
  have hla := all_la (g := g) (X := m.2.1 104) pk hd hX hg
  have hU := uT_k (g := g) (X := m.2.1 104) pk
  have hlD : ∀ d', d' < pQ bx nx 0 1 → bm g d' = true → kL bx nx (pQ bx nx 4 d') = kL bx nx (pQ bx nx 4 d) := fun d' a b => hla _ (tok_d pk a).1 (by rw [uT_d pk a]; exact b)
  have hlR : ∀ r, r < pQ bx nx 0 2 → (fun r => decide (m.2.1 104 r &&& g ≠ 0)) r = true → kL bx nx (pQ bx nx 7 r) = kL bx nx (pQ bx nx 4 d) := fun r a b => hla _ (tok_r pk a).1 ((uT_r pk a).mpr (decide_eq_true_eq.mp b))
  have u6 : ∀ r, r < pQ bx nx 0 2 → m6.1 108 r = if (fun r => decide (m.2.1 104 r &&& g ≠ 0)) r = true then 1 else 0 := fun r hr => by
    have k108 : m6.1 108 r = m1.1 108 r := by
      rw [i6 108 (by decide), g2.1 108 (by decide) (by decide), (f2.1 108 r (by decide) (by omega)).1, e2.1 108 (by decide) (by decide), d2.1 108 (by decide) (by decide)]
    rw [k108]
    exact hu r hr
  have cnt := nwN_cnt (l := nt) pk hla
  rw [uT_cnt pk] at cnt
  have lt := len_test cnt
  have nl : nwN bx nx (uT (pQ bx nx) g (m.2.1 104)) nt < 2 ^ 31 := by
    have b1 := bc_le (bm g) (pQ bx nx 0 1)
    have b2 := bc_le (fun r => decide (m.2.1 104 r &&& g ≠ 0)) (pQ bx nx 0 2)
    have n12 := N.2.1
    have n4 := pk.2.1
    have : nt * (bc (pQ bx nx 0 1) (bm g) + bc (pQ bx nx 0 2) (fun r => decide (m.2.1 104 r &&& g ≠ 0))) ≤ 12 * 160 := Nat.mul_le_mul n12 (by omega)
    omega
  have bd : f_X8_build gSH F 62 g m5 = (if nI (nwN bx nx (uT (pQ bx nx) g (m.2.1 104)) nt) ≤ 4000 then l_X8_build_123 gSH F F 62 g 0 (gsI m6 62 6 0) else some (0, m6)) := by
    unfold f_X8_build
    rw [ob_62, g_ift, hm6, g_nmb, g_nmb, R6.2.2.2.1.2.1.2.1]
    have q1 := s_bld16 (F := F) (g := g) rk6 hlD (nI nx) (pQ bx nx 0 1) F 0 (by omega) (by omega)
    have q1' : l_X8_build_16 gSH F F 62 g (nI nx + nI 0 * (nI nt - nI (kL bx nx (pQ bx nx 4 d)))) 0 m6 = _ := q1
    rw [show nI 0 = (0 : Int32) from rfl, Int32.zero_mul, Int32.add_zero] at q1'
    have q2 := s_bld62 (F := F) (g := g) (u := fun r => decide (m.2.1 104 r &&& g ≠ 0)) rk6 u6 hlR (nI nx) (bc (pQ bx nx 0 1) (bm g)) (pQ bx nx 0 2) F 0 (by omega) (by omega)
    rw [lt] at q2
    rw [q1']
    exact q2
  by_cases fit : nwN bx nx (uT (pQ bx nx) g (m.2.1 104)) nt ≤ 4000
  rotate_left
  · rw [if_neg (show ¬ nI (nwN bx nx (uT (pQ bx nx) g (m.2.1 104)) nt) ≤ 4000 from nI_ge (a := 4000) (by omega) nl)] at bd
    refine ⟨-4, m6, ?_, K6, by rw [j6 0 (by decide)]; exact c5, Or.inr ⟨N, Or.inr ⟨ag, Or.inl ⟨by omega, rfl, R6⟩⟩⟩⟩
    rw [st, bd, g_bs, g_nmb, g_nmb, if_pos (rfl : (0 : Int32) = 0)]
  rw [if_pos (show nI (nwN bx nx (uT (pQ bx nx) g (m.2.1 104)) nt) ≤ 4000 from nI_le (b := 4000) fit (by decide))] at bd
  have W := wp_of (b := bx) (n := nx) (c := bt) (l := nt) pk N hla la12 fit
  have R6' : RF (gsI m6 62 6 0) bt nt bx nx f := R6.s (Or.inr (Or.inl rfl))
  have hend : ∀ s, wSt bx nx (uT (pQ bx nx) g (m.2.1 104)) s = true → s + kL bx nx (pQ bx nx 4 d) ≤ nx := fun s hs => by
    obtain ⟨t, q1, q2, q3⟩ := wSt_iff.mp hs
    have := (tok_in pk q1).2.2
    rw [hla t q1 q2] at this
    omega
  have w00 : wIn bx nx (uT (pQ bx nx) g (m.2.1 104)) 0 = false := by
    cases z : wIn bx nx (uT (pQ bx nx) g (m.2.1 104)) 0
    · rfl
    · obtain ⟨t, q1, q2, q3, q4⟩ := wIn_iff.mp z
      exact absurd q3 (Nat.not_lt_zero _)
  obtain ⟨m7, n1, n2, n3⟩ := s_bld123 (F := F) (g := g) (u := fun r => decide (m.2.1 104 r &&& g ≠ 0)) (nD := pQ bx nx 0 1) (nR := pQ bx nx 0 2) (sD := fun d => kS bx nx (pQ bx nx 4 d)) (lD := fun d => kL bx nx (pQ bx nx 4 d)) (sR := fun r => kS bx nx (pQ bx nx 7 r)) (lR := fun r => kL bx nx (pQ bx nx 7 r)) W (by omega) la1 hend hlD hlR (wS_iff pk) nx F 0 (gsI m6 62 6 0) (by omega) (by have := pk.2.1; omega) (Nat.zero_le _) w00 R6'.rk (fun r hr => by rw [gsI_ne (by decide)]; exact u6 r hr) ⟨by rw [gI_1, if_pos ⟨rfl, rfl⟩]; rfl, fun x hx => absurd hx (Nat.not_lt_zero _)⟩
  have n1' : l_X8_build_123 gSH F F 62 g 0 (gsI m6 62 6 0) = some (1, m7) := n1
  have p7 : PTR m7 := R6.1.eq (by rw [n3.2.2]; rfl)
  have ok := nt_ok pk N hU fit
  have M7 : MadeR m7 (nwB bx nx (uT (pQ bx nx) g (m.2.1 104)) bt nt) (nwN bx nx (uT (pQ bx nx) g (m.2.1 104)) nt) := ⟨p7.2.2.1.2.2.1, n2.1, fit, fun i hi => ⟨ok.1 i hi, n2.2 i hi⟩⟩
  have W7 : WdR m7 := by
    obtain ⟨w1, w2, w3, w4⟩ := R6.2.1
    refine ⟨p7.2.2.1.2.2.2.1, p7.2.2.1.2.2.2.2, fun w hw => ?_, fun w hw i hi => ?_⟩
    · rw [n3.1 87 (by decide) (by decide), gsI_ne (by decide)]; exact w3 w hw
    · rw [n3.1 86 (by decide) (by decide), gsI_ne (by decide)]; exact w4 w hw i hi
  obtain ⟨r8, m8, o1, o2, o3, -, -⟩ := s_readAll (F := F) M7 W7 p7.1 (by omega)
  obtain ⟨-, -, o5, -⟩ := o3 ok.2.2
  have o5' : RPr (kS (nwB bx nx (uT (pQ bx nx) g (m.2.1 104)) bt nt) (nwN bx nx (uT (pQ bx nx) g (m.2.1 104)) nt)) (kL (nwB bx nx (uT (pQ bx nx) g (m.2.1 104)) bt nt) (nwN bx nx (uT (pQ bx nx) g (m.2.1 104)) nt)) m8 (pQ (nwB bx nx (uT (pQ bx nx) g (m.2.1 104)) bt nt) (nwN bx nx (uT (pQ bx nx) g (m.2.1 104)) nt)) := o5
  have v7 : m8.1 62 73 = nI f := by
    rw [o2.2.1 73 (by decide), n3.2.1 73 (by decide), gI_1, if_neg (by decide)]
    exact v73
  generalize hm9 : gsI (gsI m8 62 2 0) 62 7 (nI f) = m9
  have i9 : ∀ c, c ≠ 62 → m9.1 c = m8.1 c := fun c hc => by rw [← hm9, gsI_ne hc, gsI_ne hc]
  have j9 : ∀ j, j ≠ 2 → j ≠ 7 → m9.1 62 j = m8.1 62 j := fun j h1 h2 => by rw [← hm9, gI_1, if_neg (by omega), gI_1, if_neg (by omega)]
  have s9 : m9.2 = m8.2 := by rw [← hm9]; rfl
  have p9 : PTR m9 := p7.eq (by rw [s9, o2.2.2])
  obtain ⟨m10, t1, t2, t3, t4, t5⟩ := s_takeText (F := F) (m := m9) hF ok p9 (by rw [j9 6 (by decide) (by decide), o2.2.1 6 (by decide)]; exact n2.1) (fun j hj => by rw [i9 65 (by decide), o2.1 65 (by decide) (by unfold rdR; omega)]; exact n2.2 j hj) (o5'.k (fun c a b => i9 c (by omega)) ⟨j9 10 (by decide) (by decide), j9 15 (by decide) (by decide), j9 20 (by decide) (by decide)⟩)
  refine ⟨_, m10, ?_, ?_, ?_, Or.inr ⟨N, Or.inr ⟨ag, Or.inr ⟨fit, rfl, p9.eq t2.2, ?_, ⟨?_, by omega, fun i hi => absurd hi (Nat.not_lt_zero _)⟩, t3, ?_⟩⟩⟩⟩
  · rw [st, bd, n1', g_bs, g_nmb, g_nmb, if_neg one0, o1, g_bs, g_nmb, g_nmb, g_nmb, g_nmb]
    have e73 : (gsI m8 62 2 0).1 62 73 = nI f := by rw [gI_1, if_neg (by decide)]; exact v7
    show (f_X8_takeText gSH F 62 (gsI (gsI m8 62 2 0) 62 7 ((gsI m8 62 2 0).1 62 73))).bind _ = _
    rw [e73, hm9, t1, g_bs]
  · have k7 : KO m6 m7 := KO.c (Z := fun c => c = 62 ∨ c = 65) (fun c hc => by rw [n3.1 c (fun z => hc (Or.inl z)) (fun z => hc (Or.inr z)), gsI_ne (fun z => hc (Or.inl z))]) (by rw [n3.2.2]; rfl) (fun c hc => by omega)
    have k9 : KO m8 m9 := KO.c (Z := fun c => c = 62) i9 s9 (fun c hc => by omega)
    exact (((K6.trans k7).trans (KO.kf o2)).trans k9).trans t2
  · rw [t5 0 (by decide) (by decide) (by decide) (by decide), j9 0 (by decide) (by decide), o2.2.1 0 (by decide), n3.2.1 0 (by decide), gI_1, if_neg (by decide), j6 0 (by decide)]
    exact c5
  · obtain ⟨w1, w2, w3, w4⟩ := W7
    have p10 : PTR m10 := p9.eq t2.2
    refine ⟨p10.2.2.1.2.2.2.1, p10.2.2.1.2.2.2.2, fun w hw => ?_, fun w hw i hi => ?_⟩
    · rw [t4 87 (by decide) (by decide), i9 87 (by decide), o2.1 87 (by decide) (by unfold rdR; omega)]; exact w3 w hw
    · rw [t4 86 (by decide) (by decide), i9 86 (by decide), o2.1 86 (by decide) (by unfold rdR; omega)]; exact w4 w hw i hi
  · rw [t5 2 (by decide) (by decide) (by decide) (by decide), ← hm9]
    rfl
  · rw [t5 7 (by decide) (by decide) (by decide) (by decide), ← hm9, gI_1, if_pos ⟨rfl, rfl⟩]
/-- rename -/
theorem j_rename (hF : fN ≤ F) (h : JP m tp tx pg df mn tr bt nt bx nx f) (x : Int32) : WO (f_X7_rename gSH F 0 x m) (f_X8_rename gSH F 62 x) := by
  have f5 := fN_5
  obtain ⟨O, R⟩ := JP.iff.mp h
  obtain ⟨h1, ⟨z, o1, o2, o3⟩, h3t, h4t, ⟨pk, C, k3, k4⟩, h6⟩ := id O
  have hpg : pg = 5 ∨ pg = 25 := by omega
  obtain ⟨g1, g2, g3, -⟩ := gP hpg
  have l1 := (pQ_ok pk).1.1.1.2.2.1
  have x15 : m.1 62 15 = nI (pQ bx nx 0 1) := R.2.2.2.1.2.2.1.1.2.1
  have P : PR m.2.2 pg := h1.pr hpg
  have hs := s_hasM (F := F) g2 (show pQ bx nx 0 1 < 2 ^ 31 by omega) C.1.2.1
  by_cases bad : x < 0 ∨ nI (pQ bx nx 0 1) ≤ x
  · refine RO.w h ⟨none, ?_, fun m' s => ⟨0, 1, ?_, Or.inl ⟨rfl, rfl⟩⟩⟩
    · unfold f_X7_rename
      rw [ob_0, g_ift, z.2.2.1, g_bs, g1, g_ift, P.1, g_bs, g2, g_ift, hs, g_bs, g_nmb, g_nmb, if_pos bad, if_pos (rfl : (0 : Int32) = 0)]
    · unfold f_X8_rename b_X8_rename_17 b_X8_rename_18
      have x15' : m'.1 62 15 = nI (pQ bx nx 0 1) := by rw [s.1]; exact x15
      by_cases c0 : x < 0
      · rw [if_pos c0, ob_62, g_ift, s_fails0, g_bs, g_nmb, g_nmb, if_neg one0]
      · rw [if_neg c0, ob_62, g_ift, x15', if_pos (bad.elim (fun z => absurd z c0) id), g_ift, s_fails0, g_bs, g_nmb, g_nmb, if_neg one0]
  obtain ⟨d, hd, rfl⟩ := i32_in (by omega) (fun c => bad (Or.inl c)) (fun c => bad (Or.inr c))
  obtain ⟨g, fr1, fr2, hg, hX⟩ := h.fri2 (F := F) (by omega) hd
  obtain ⟨o, m1, a1, a2, a3⟩ := o_rename (F := F) (by omega) h hd fr1 hg hX
  refine ⟨o, m1, a1, fun m' s => ?_⟩
  have mc : ∀ c, 62 ≤ c → m'.1 c = m.1 c := fun c hc => by rw [s.1]; exact (a2 c hc).1
  have ml : ∀ c, 62 ≤ c → c ≠ 109 → m'.2.1 c = m.2.1 c := fun c hc h9 => by rw [s.2.1 c h9]; exact (a2 c hc).2.1
  have mr : m'.2.2 62 = m.2.2 62 := by rw [s.2.2]; exact (a2 62 (by decide)).2.2
  have R' : RF m' bt nt bx nx f := by
    obtain ⟨q7, q8, q9, ⟨x1, x2, x3, x4, x5⟩, q11⟩ := R
    refine ⟨?_, ?_, ?_, ⟨x1, ?_, x3.k (fun c a b => mc c (by omega)) ⟨by rw [mc 62 (by decide)], by rw [mc 62 (by decide)], by rw [mc 62 (by decide)]⟩, ?_, ?_⟩, by rw [mc 62 (by decide)]; exact q11⟩
    · obtain ⟨q1, q2, q3, q4, q5, q6, q7, q8⟩ := q7
      refine ⟨?_, ?_, ?_, ?_, ?_, ?_, ?_, ?_⟩
      · unfold RPt at q1 ⊢; rw [mr]; exact q1
      · unfold KPt at q2 ⊢; rw [mr]; exact q2
      · rw [mr]; exact q3
      · rw [mr]; exact q4
      · rw [mr]; exact q5
      · rw [mr]; exact q6
      · rw [mr]; exact q7
      · rw [mr]; exact q8
    · obtain ⟨w1, w2, w3, w4⟩ := q8
      exact ⟨by rw [mr]; exact w1, by rw [mr]; exact w2, fun w hw => by rw [mc 87 (by decide)]; exact w3 w hw, fun w hw i hi => by rw [mc 86 (by decide)]; exact w4 w hw i hi⟩
    · unfold TpR; rw [mc 62 (by decide), mc 63 (by decide)]; exact q9
    · unfold TxR; rw [mc 62 (by decide), mc 64 (by decide), mr]; exact x2
    · unfold NMs; rw [mc 92 (by decide), mc 93 (by decide)]; exact x4
    · unfold RMr; rw [mc 105 (by decide), mc 106 (by decide), ml 104 (by decide) (by decide)]; exact x5
  have e104 : m'.2.1 104 = m.2.1 104 := ml 104 (by decide) (by decide)
  obtain ⟨v, m2, b1, b2, b3, b4⟩ := r_rename (F := F) (g := g) hF R' hd (fun m'' u1 u2 u3 => fr2 m'' (by rw [u1, e104]) u2 u3) hg (by rw [e104]; exact hX)
  have agE : AG m' bx nx g bt nt ↔ AG m bx nx g bt nt := by unfold AG; rw [e104]
  rw [agE, e104] at b4
  have K : ∀ c, c < 62 → m2.1 c = m1.1 c ∧ m2.2.1 c = m1.2.1 c := fun c hc => ⟨by rw [(b2.1 c (by omega)).1, s.1], by rw [(b2.1 c (by omega)).2, s.2.1 c (by omega)]⟩
  have Kr : m2.2.2 = m1.2.2 := by rw [b2.2, s.2.2]
  have OK : ∀ {tp tx pg df mn tr : Nat} {bt : Nat → Nat} {nt : Nat} {bx : Nat → Nat} {nx f : Nat}, OB m1 tp tx pg df mn tr bt nt bx nx f → OB m2 tp tx pg df mn tr bt nt bx nx f := fun {tp tx pg df mn tr bt nt bx nx f} H => by
    obtain ⟨u1, u2, u3, u4, u5, u6⟩ := H
    obtain ⟨-, v1, v2, v3⟩ := id u2
    refine ⟨by unfold CRf; rw [Kr]; exact u1, by unfold CO; rw [Kr]; exact u2, u3.k' (K tp (by omega)).1 (K (tp + 1) (by omega)).1 (by rw [Kr]), u4.k' (K tx (by omega)).1 (K (tx + 1) (by omega)).1 (by rw [Kr]), u5.k (by omega) (by omega) (fun c hc => K c (by omega)) (fun c _ => by rw [Kr]), by rw [(K 0 (by omega)).1]; exact u6⟩
  have e109 : m2.2.1 109 = m'.2.1 109 := (b2.1 109 (by omega)).2
  rcases a3 with ⟨n1, q1, q2⟩ | ⟨n1, ⟨q0, q1, q2⟩ | ⟨q0, ⟨y0, q1, q2⟩ | ⟨y0, q1, q2⟩⟩⟩
  · rcases b4 with ⟨-, w1, w2⟩ | ⟨n2, -⟩
    · exact ⟨v, m2, b1, ⟨_, _, _, _, _, _, _, _, _, _, _, JP.iff.mpr ⟨OK q2, w2⟩⟩, e109, Or.inr ⟨by rw [q1, w1], b3⟩⟩
    · exact absurd n2 n1
  · rcases b4 with ⟨n2, -⟩ | ⟨-, ⟨-, w1, w2⟩ | ⟨n2, -⟩⟩
    · exact absurd n1 n2
    · exact ⟨v, m2, b1, ⟨_, _, _, _, _, _, _, _, _, _, _, JP.iff.mpr ⟨OK q2, w2⟩⟩, e109, Or.inr ⟨by rw [q1, w1], b3⟩⟩
    · exact absurd n2 q0
  · rcases b4 with ⟨n2, -⟩ | ⟨-, ⟨n2, -⟩ | ⟨-, ⟨-, w1, w2⟩ | ⟨n2, -⟩⟩⟩
    · exact absurd n1 n2
    · exact absurd q0 n2
    · exact ⟨v, m2, b1, ⟨_, _, _, _, _, _, _, _, _, _, _, JP.iff.mpr ⟨OK q2, w2⟩⟩, e109, Or.inr ⟨by rw [q1, w1], b3⟩⟩
    · omega
  · rcases b4 with ⟨n2, -⟩ | ⟨-, ⟨n2, -⟩ | ⟨-, ⟨n2, -⟩ | ⟨-, w1, w2⟩⟩⟩
    · exact absurd n1 n2
    · exact absurd q0 n2
    · omega
    · have q3 := OK q2
      have q4 : OB m2 tx tp pg df tr mn bt 0 (nwB bx nx (uT (pQ bx nx) g (m.2.1 104)) bt nt) (nwN bx nx (uT (pQ bx nx) g (m.2.1 104)) nt) f := by
        obtain ⟨u1, u2, u3, u4⟩ := q3
        exact ⟨u1, u2, ⟨u3.1, u3.2.1, u3.2.2.1, by omega, fun i hi => absurd hi (Nat.not_lt_zero _)⟩, u4⟩
      exact ⟨v, m2, b1, ⟨_, _, _, _, _, _, _, _, _, _, _, JP.iff.mpr ⟨q4, w2⟩⟩, e109, Or.inr ⟨by rw [q1, w1], b3⟩⟩
end RNM
