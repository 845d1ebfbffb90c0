/-! RENAME OF BOTH SIDES -/
section RNM
variable {F tp tx pg df mn tr : Nat} {m m' : gM} {bt bx : Nat → Nat} {nt nx f : Nat}
theorem bm_same {x y : Int64} {p : Nat → Prop} (h : ∀ d, bm x d = true ↔ p d) : x = y ↔ ∀ d, bm y d = true ↔ p d := by
  constructor
  · intro e
    rw [← e]
    exact h
  · intro e
    apply bm_ext
    intro d _
    have w : bm x d = true ↔ bm y d = true := (h d).trans (e d).symm
    cases a : bm x d <;> cases b : bm y d
    · rfl
    · rw [w.mpr b] at a; cases a
    · rw [w.mp a] at b; cases b
    · rfl
theorem o_rename (hF : 5000 ≤ F) (h : JP m tp tx pg df mn tr bt nt bx nx f) {d : Nat} (hd : d < pQ bx nx 0 1) {g : Int64} (fr : ∀ m' : gM, m'.2.1 (mn + 2) = m.2.1 (mn + 2) → m'.2.2 mn 1 = some (mn + 2) → f_X1_friendsOf gSH F mn (nI d) (nI (pQ bx nx 0 2)) m' = some (g, m')) (hg : ∀ x, bm g x = true → x < pQ bx nx 0 1 ∧ sNm bx nx (pQ bx nx 4 d) (pQ bx nx 4 x)) (hX : ∀ r, r < pQ bx nx 0 2 → ∀ x, bm (m.2.1 104 r) x = true → x < pQ bx nx 0 1 ∧ nkT bx nx r x = true) :
    ∃ o m1, f_X7_rename gSH F 0 (nI d) m = some (o, m1) ∧ KU m m1 ∧ ((¬ Nme bt nt ∧ o = some (-2) ∧ OB m1 tp tx pg df mn tr bt nt bx nx f) ∨ (Nme bt nt ∧ ((¬ AG m bx nx g bt nt ∧ o = some (-3) ∧ OB m1 tp tx pg df mn tr bt nt bx nx f) ∨ (AG m bx nx g bt nt ∧ ((4000 < nwN bx nx (uT (pQ bx nx) g (m.2.1 104)) nt ∧ o = some (-4) ∧ OB m1 tp tx pg df mn tr bt nt bx nx f) ∨ (nwN bx nx (uT (pQ bx nx) g (m.2.1 104)) nt ≤ 4000 ∧ o = some (nI (bc (pQ bx nx 0 1) (bm g) + bc (pQ bx nx 0 2) (fun r => decide (m.2.1 104 r &&& g ≠ 0)))) ∧ OB m1 tx tp pg df tr mn bx 0 (nwB bx nx (uT (pQ bx nx) g (m.2.1 104)) bt nt) (nwN bx nx (uT (pQ bx nx) g (m.2.1 104)) nt) f)))))) := by
  have O := (JP.iff.mp h).1
  obtain ⟨h1, h2, h3t, h4t, ⟨pk, C, k3, k4⟩, h6⟩ := id O
  obtain ⟨z, o1, o2, o3⟩ := id h2
  have hpg : pg = 5 ∨ pg = 25 := by omega
  have hmn : mn = 45 ∨ mn = 50 := by omega
  have htr : tr = 45 ∨ tr = 50 := by omega
  obtain ⟨v, m1, a1, a2, a3, a4⟩ := s_areJust (F := F) h3t hF
  have O1 : OB m1 tp tx pg df mn tr bt nt bx nx f := O.kk (fun c x _ _ _ => (a2 c x).1) (fun c x _ _ _ => (a2 c x).2.1) (fun c _ => by rw [a3]) (by rw [a3])
  rcases a4 with ⟨v1, N, x3, x4, x5⟩ | ⟨v0, N⟩
  · obtain ⟨h1', h2', h3t', h4t', ⟨-, C', k3', k4'⟩, h6'⟩ := id O1
    have mean : ∀ r, r < pQ bx nx 0 2 → m.2.1 (mn + 2) r = m.2.1 104 r := fun r hr => (h.mean hr).1
    have row1 : m1.2.1 (mn + 2) = m.2.1 (mn + 2) := (a2 (mn + 2) (by omega)).2.1
    have b1 := fr m1 row1 (h1'.mr hmn).2.1
    obtain ⟨m2, b2, b3, b4⟩ := s_suppose (F := F) (m := m1) (b := bx) (n := nx) (c := bt) (l := nt) (g := g) (X := m.2.1 104) pk N hF (fun x hx => (hg x hx).1) hpg o3 (h1'.pr hpg) C' ⟨(h1'.mr hmn).1, (h1'.mr hmn).2.1⟩ (h1'.mr htr).1 x3 x4 k3' (fun r hr => by rw [row1]; exact mean r hr)
    have O2 : OB m2 tp tx pg df mn tr bt nt bx nx f := O1.kk (fun c _ _ _ _ => by rw [b3.1]) (fun c _ _ x _ => b3.2.1 c x) (fun c _ => by rw [b3.2.2]) (by rw [b3.2.2])
    obtain ⟨h1'', h2'', h3t'', h4t'', ⟨-, C'', k3'', k4''⟩, h6''⟩ := id O2
    obtain ⟨m3, c1, c2, c3⟩ := s_resolve (F := F) (m := m2) (q := pQ bx nx) (nk := nkN bx nx g (m.2.1 104) bt nt) hpg htr (pQ_ok pk).1 hF (h1''.pr hpg) h1''.2.2.2.2 (h1''.mr htr) C'' b4
    obtain ⟨y1, y2, y3, y4⟩ := c2
    have O3 : OB m3 tp tx pg df mn tr bt nt bx nx f := O2.kk (fun c _ w1 w2 w3 => y1 c w1 w2 w3) (fun c _ w1 w2 w3 => y3 c w1 w3) (fun c w => by rw [y4, gsR_ne w, gsR_ne w]) (by rw [y4]; rfl)
    have hd' := o_head (F := F) O hd (g := g) (m2 := m2) (m3 := m3) a1 a2 a3
    have hd2 := hd'.2 v1 b1 b2 b3.2.2 c1
    have e56 : m3.2.1 56 = m1.2.1 56 := by rw [y3 56 (by decide) (by omega)]; exact b3.2.1 56 (by omega)
    have i56 : m3.1 56 = m1.1 56 := by rw [y1 56 (by decide) (by omega) (by omega)]; exact congrFun b3.1 56
    have T : ∀ r, r < pQ bx nx 0 2 → m3.2.1 (tr + 1) r = bs (pQ bx nx 0 1) (nkN bx nx g (m.2.1 104) bt nt r) := fun r hr => by
      rw [y3 (tr + 1) (by omega) (by omega)]
      exact b4 r hr
    have X3 : ∀ r, r < pQ bx nx 0 2 → m3.2.1 (mn + 2) r = m.2.1 104 r := fun r hr => by
      rw [y3 (mn + 2) (by omega) (by omega)]
      show m2.2.1 (mn + 2) r = _
      rw [b3.2.1 (mn + 2) (by omega), row1]
      exact mean r hr
    obtain ⟨o, m6, t1, t2, t3⟩ := o_tail (F := F) hF O3 hd N X3 (fun x hx => (hg x hx).1) (by rw [e56]; exact x3) (by rw [e56]; exact x4) (by rw [i56]; exact x5) T c3 (all_la pk hd hX hg)
    have ku : KU m m6 := fun c hc => by
      have s := t2 c hc
      have w1 : m3.1 c = m2.1 c := y1 c (by omega) (by omega) (by omega)
      have w2 : m3.2.1 c = m2.2.1 c := y3 c (by omega) (by omega)
      have w3 : m3.2.2 c = m2.2.2 c := by rw [y4, gsR_ne (by omega), gsR_ne (by omega)]
      have u := a2 c (by omega)
      exact ⟨by rw [s.1, w1, b3.1, u.1], by rw [s.2.1, w2, b3.2.1 c (by omega), u.2.1], by rw [s.2.2, w3, b3.2.2, u.2.2]⟩
    have ag : (∀ r, r < pQ bx nx 0 2 → m3.2.1 (tr + 2) r = m.2.1 104 r) ↔ AG m bx nx g bt nt := by
      constructor
      · intro w r hr
        exact (bm_same (c3 r hr).1).mp (w r hr)
      · intro w r hr
        exact (bm_same (c3 r hr).1).mpr (w r hr)
    refine ⟨o, m6, by rw [hd2, t1], ku, Or.inr ⟨N, ?_⟩⟩
    rcases t3 with ⟨q1, q2, q3⟩ | ⟨q0, ⟨q1, q2, q3⟩ | ⟨q1, q2, q3⟩⟩
    · exact Or.inl ⟨fun w => q3 (ag.mpr w), q1, by rw [q2]; exact O3⟩
    · exact Or.inr ⟨ag.mp q0, Or.inl ⟨q3, q1, by rw [q2]; exact O3⟩⟩
    · exact Or.inr ⟨ag.mp q0, Or.inr ⟨q2, q1, q3⟩⟩
  · have hd' := o_head (F := F) O hd (g := g) (m2 := m) (m3 := m) a1 a2 a3
    exact ⟨_, m1, hd'.1 v0, fun c hc => a2 c (by omega), Or.inl ⟨N, rfl, O1⟩⟩
/-- what the reference's trial leaves as it is -/
def KX (m m' : gM) : Prop := (∀ c, c ≠ 62 → c ≠ 92 → c ≠ 93 → c ≠ 108 → ¬ (94 ≤ c ∧ c ≤ 103) → m'.1 c = m.1 c) ∧ (∀ j, j ≠ 64 → j ≠ 66 → j ≠ 67 → m'.1 62 j = m.1 62 j) ∧ (∀ c, c ≠ 62 → c ≠ 107 → ¬ (94 ≤ c ∧ c ≤ 103) → m'.2.1 c = m.2.1 c) ∧ m'.2.2 = m.2.2
theorem KX.trans {m1 m2 : gM} (h : KX m m1) (k : KX m1 m2) : KX m m2 := ⟨fun c a1 a2 a3 a4 a5 => (k.1 c a1 a2 a3 a4 a5).trans (h.1 c a1 a2 a3 a4 a5), fun j a1 a2 a3 => (k.2.1 j a1 a2 a3).trans (h.2.1 j a1 a2 a3), fun c a1 a2 a3 => (k.2.2.1 c a1 a2 a3).trans (h.2.2.1 c a1 a2 a3), k.2.2.2.trans h.2.2.2⟩
theorem KX.kn (k : KN m m') : KX m m' := ⟨fun c _ a2 a3 _ _ => k.1 c a2 a3, fun j _ _ _ => by rw [k.1 62 (by decide) (by decide)], fun c _ _ _ => by rw [k.2], by rw [k.2]⟩
theorem KX.k78 (k : K78 m m') : KX m m' := ⟨fun c _ _ _ a _ => k.1 c a, fun j _ _ _ => by rw [k.1 62 (by decide)], fun c _ a _ => k.2.1 c a, k.2.2⟩
theorem KX.kb (k : KB 0 m m') : KX m m' := ⟨fun c a1 _ _ _ a5 => by funext j; exact (k.1 c j a1 (by omega)).1, k.2.1, fun c a1 _ a3 => by funext j; exact (k.1 c j a1 (by omega)).2, k.2.2.2⟩
/-- the reference's half, kept -/
theorem RF.kx (h : RF m bt nt bx nx f) (k : KX m m') (nm : NMs bx nx m') : RF m' bt nt bx nx f := by
  obtain ⟨h7, h8, h9, ⟨x1, x2, x3, x4, x5⟩, h11⟩ := h
  obtain ⟨k1, k2, k3, k4⟩ := k
  refine ⟨h7.eq k4, ?_, ?_, ⟨x1, ?_, x3.k (fun c a b => k1 c (by omega) (by omega) (by omega) (by omega) (by omega)) ⟨k2 10 (by decide) (by decide) (by decide), k2 15 (by decide) (by decide) (by decide), k2 20 (by decide) (by decide) (by decide)⟩, nm, ?_⟩, ?_⟩
  · obtain ⟨w1, w2, w3, w4⟩ := h8
    exact ⟨by rw [k4]; exact w1, by rw [k4]; exact w2, fun w hw => by rw [k1 87 (by decide) (by decide) (by decide) (by decide) (by decide)]; exact w3 w hw, fun w hw i hi => by rw [k1 86 (by decide) (by decide) (by decide) (by decide) (by decide)]; exact w4 w hw i hi⟩
  · unfold TpR; rw [k2 2 (by decide) (by decide) (by decide), k1 63 (by decide) (by decide) (by decide) (by decide) (by decide)]; exact h9
  · unfold TxR; rw [k2 4 (by decide) (by decide) (by decide), k1 64 (by decide) (by decide) (by decide) (by decide) (by decide), k4]; exact x2
  · unfold RMr; rw [k1 105 (by decide) (by decide) (by decide) (by decide) (by decide), k1 106 (by decide) (by decide) (by decide) (by decide) (by decide), k3 104 (by decide) (by decide) (by decide)]; exact x5
  · rw [k2 7 (by decide) (by decide) (by decide)]; exact h11
/-- a cell of the reference's own is written -/
theorem RF.s (h : RF m bt nt bx nx f) {j : Nat} {v : Int32} (hj : j = 0 ∨ j = 6 ∨ j = 73) : RF (gsI m 62 j v) bt nt bx nx f := by
  obtain ⟨h7, h8, h9, ⟨x1, x2, x3, x4, x5⟩, h11⟩ := h
  have e : ∀ i, i ≠ 0 → i ≠ 6 → i ≠ 73 → (gsI m 62 j v).1 62 i = m.1 62 i := fun i a1 a2 a3 => by rw [gI_1, if_neg (by omega)]
  refine ⟨h7.eq rfl, ?_, ?_, ⟨x1, ?_, x3.k (fun c a b => gsI_ne (by omega)) ⟨e 10 (by decide) (by decide) (by decide), e 15 (by decide) (by decide) (by decide), e 20 (by decide) (by decide) (by decide)⟩, ?_, ?_⟩, ?_⟩
  · obtain ⟨w1, w2, w3, w4⟩ := h8
    exact ⟨w1, w2, fun w hw => by rw [gsI_ne (by decide)]; exact w3 w hw, fun w hw i hi => by rw [gsI_ne (by decide)]; exact w4 w hw i hi⟩
  · unfold TpR; rw [e 2 (by decide) (by decide) (by decide), gsI_ne (by decide)]; exact h9
  · unfold TxR; rw [e 4 (by decide) (by decide) (by decide), gsI_ne (by decide)]; exact x2
  · unfold NMs; rw [gsI_ne (by decide), gsI_ne (by decide)]; exact x4
  · unfold RMr; rw [gsI_ne (by decide), gsI_ne (by decide)]; exact x5
  · rw [e 7 (by decide) (by decide) (by decide)]; exact h11
theorem RF.rk (h : RF m bt nt bx nx f) : RK m bx bt nx nt (pQ bx nx 0 1) (pQ bx nx 0 2) (fun d => kS bx nx (pQ bx nx 4 d)) (fun d => kL bx nx (pQ bx nx 4 d)) (fun r => kS bx nx (pQ bx nx 7 r)) (fun r => kL bx nx (pQ bx nx 7 r)) := by
  obtain ⟨h7, h8, h9, ⟨x1, x2, x3, x4, x5⟩, h11⟩ := h
  have S := (pQ_ok x1).1.1.1
  exact ⟨h7, ⟨x2.2.2.1, x2.2.2.2⟩, h9.1, ⟨h9.2.1, h9.2.2⟩, ⟨x3.1.2.1, x3.1.2.2, x2.2.1⟩, ⟨S.2.2.1, S.2.2.2.1⟩, fun d hd => ⟨(x3.2.2.1 d hd).2.1, (x3.2.2.1 d hd).2.2.1, (tok_in x1 (tok_d x1 hd).1).2.2⟩, fun r hr => ⟨(x3.2.2.2 r hr).2.1, (x3.2.2.2 r hr).2.2.1, (tok_in x1 (tok_r x1 hr).1).2.2⟩⟩
end RNM
