/-! THE OBJECT'S READ -/
/-- the references of the object's cells that never change -/
def CRf (m : gM) : Prop := (PR m.2.2 5 ∧ PR m.2.2 25) ∧ (m.2.2 1 0 = some 2 ∧ m.2.2 3 0 = some 4) ∧ ((m.2.2 45 0 = some 46 ∧ m.2.2 45 1 = some 47 ∧ m.2.2 45 2 = some 48 ∧ m.2.2 45 3 = some 49) ∧ (m.2.2 50 0 = some 51 ∧ m.2.2 50 1 = some 52 ∧ m.2.2 50 2 = some 53 ∧ m.2.2 50 3 = some 54)) ∧ (m.2.2 55 0 = some 56 ∧ m.2.2 55 1 = some 57 ∧ m.2.2 55 2 = some 58 ∧ m.2.2 55 3 = some 59) ∧ m.2.2 60 0 = some 61
/-- which cells are which -/
def CO (m : gM) (tp tx pg df mn tr : Nat) : Prop := (m.2.2 0 0 = some tp ∧ m.2.2 0 1 = some tx ∧ m.2.2 0 2 = some pg ∧ m.2.2 0 3 = some df ∧ m.2.2 0 4 = some mn ∧ m.2.2 0 5 = some tr ∧ m.2.2 0 6 = some 55 ∧ m.2.2 0 7 = some 60) ∧ ((tp = 1 ∧ tx = 3) ∨ (tp = 3 ∧ tx = 1)) ∧ ((pg = 5 ∧ df = 25) ∨ (pg = 25 ∧ df = 5)) ∧ ((mn = 45 ∧ tr = 50) ∨ (mn = 50 ∧ tr = 45))
/-- the object's text, and all that it knows of it -/
def CTx (m : gM) (pg mn : Nat) (b : Nat → Nat) (n : Nat) : Prop := pOk b n ∧ CPr pg m (pQ b n) (kS b n) (kH b n) (kW b n) ∧ (∀ r, r < pQ b n 0 2 → m.2.1 (mn + 1) r = bs (pQ b n 0 1) (nkT b n r)) ∧ ∀ r, r < pQ b n 0 2 → MNr (pQ b n) (nkT b n) mn m r
/-- the cells of the reference stay -/
def KU (m m' : gM) : Prop := ∀ c, 62 ≤ c → m'.1 c = m.1 c ∧ m'.2.1 c = m.2.1 c ∧ m'.2.2 c = m.2.2 c
theorem KU.refl (m : gM) : KU m m := fun _ _ => ⟨rfl, rfl, rfl⟩
theorem KU.trans {a b c : gM} (h : KU a b) (k : KU b c) : KU a c := fun i hi => ⟨(k i hi).1.trans (h i hi).1, (k i hi).2.1.trans (h i hi).2.1, (k i hi).2.2.trans (h i hi).2.2⟩
theorem s_codeLt {b : Nat → Nat} {n : Nat} : (pR b n).1 < 2 ^ 31 := by
  have key : ∀ (K : Nat → Nat) (n i : Nat) (q : Nat → Nat → Nat), (aRun K n i q).1 < 2 ^ 31 := by
    intro K n
    induction n with
    | zero =>
      intro i q
      show (2 : Nat) < 2 ^ 31
      decide
    | succ n ih =>
      intro i q
      have e : aRun K (n + 1) i q = (if K i = 267 then (1, i, q) else if (aT i (K i) q).1 = 0 then (if K i = 266 then (0, i, (aT i (K i) q).2) else aRun K n (i + 1) (aT i (K i) q).2) else ((aT i (K i) q).1, i, (aT i (K i) q).2)) := rfl
      rw [e]
      split
      · show (1 : Nat) < 2 ^ 31
        decide
      · split
        · split
          · show (0 : Nat) < 2 ^ 31
            decide
          · exact ih _ _
        · exact aT_lt i (K i) q
  exact key _ _ _ _
section RDC
variable {F tp tx pg df mn tr : Nat} {m m' : gM} {b bx : Nat → Nat} {n nx : Nat}
theorem MNr.k {q : Nat → Nat → Nat} {nk : Nat → Nat → Bool} {r : Nat} (h : MNr q nk mn m r) (e1 : m'.2.1 (mn + 2) = m.2.1 (mn + 2)) (e2 : m'.1 (mn + 3) = m.1 (mn + 3)) (e3 : m'.1 (mn + 4) = m.1 (mn + 4)) : MNr q nk mn m' r := by
  unfold MNr
  rw [e1, e2, e3]
  exact h
theorem CTx.k (h : CTx m pg mn b n) (hpg : pg = 5 ∨ pg = 25) (hmn : mn = 45 ∨ mn = 50) (e : ∀ c, (pg ≤ c ∧ c ≤ pg + 19) ∨ (mn ≤ c ∧ c ≤ mn + 4) → m'.1 c = m.1 c ∧ m'.2.1 c = m.2.1 c) (e2 : ∀ c, pg ≤ c ∧ c ≤ pg + 19 → m'.2.2 c = m.2.2 c) : CTx m' pg mn b n := by
  obtain ⟨h1, h2, h3, h4⟩ := h
  refine ⟨h1, h2.keep (fun c hc => ⟨(e c (by omega)).1, (e c (by omega)).2, e2 c (by omega)⟩), fun r hr => by rw [(e (mn + 1) (by omega)).2]; exact h3 r hr, fun r hr => (h4 r hr).k (e (mn + 2) (by omega)).2 (e (mn + 3) (by omega)).1 (e (mn + 4) (by omega)).1⟩
theorem ob_0 : oB gSH 0 7 = true := by decide +kernel
theorem TapC.k' {t : Nat} (h : TapC m t b n) (e1 : m'.1 t = m.1 t) (e2 : m'.1 (t + 1) = m.1 (t + 1)) (e3 : m'.2.2 t = m.2.2 t) : TapC m' t b n := by
  obtain ⟨x1, x2, x3, x4, x5⟩ := h
  exact ⟨x1, by rw [e3]; exact x2, by rw [e1]; exact x3, x4, fun j hj => ⟨(x5 j hj).1, by rw [e2]; exact (x5 j hj).2⟩⟩
theorem s_readC (hF : fN ≤ F) (hf : CRf m) (ho : CO m tp tx pg df mn tr) (hT : TapC m tp b n) (hX : TapC m tx bx nx) (hC : CTx m pg mn bx nx) :
    ∃ r m', f_X7_read gSH F 0 m = some (r, m') ∧ KU m m' ∧ CRf m' ∧
      ((pR b n).1 = 0 → r = nI (pQ b n 0 0) ∧ CO m' tx tp df pg mn tr ∧ TapC m' tx bx 0 ∧ TapC m' tp b n ∧ CTx m' df mn b n ∧ m'.1 0 8 = 0) ∧
      ((pR b n).1 ≠ 0 → r = -1 - nI (kS b n (pE b n)) ∧ CO m' tp tx pg df mn tr ∧ TapC m' tp b 0 ∧ TapC m' tx bx nx ∧ CTx m' pg mn bx nx ∧ m'.1 0 8 = nI (pR b n).1) := by
  have f5 := fN_5
  obtain ⟨⟨z0, z1, z2, z3, z4, z5, z6, z7⟩, o1, o2, o3⟩ := ho
  obtain ⟨⟨P5, P25⟩, ⟨u1, u3⟩, ⟨w45, w50⟩, v55, v60⟩ := hf
  have hdf : df = 5 ∨ df = 25 := by omega
  have hpg : pg = 5 ∨ pg = 25 := by omega
  have hmn : mn = 45 ∨ mn = 50 := by omega
  have Pdf : PR m.2.2 df := by rcases hdf with rfl | rfl <;> assumption
  obtain ⟨m1, e1, e2, e3, e4, e5⟩ := s_parse (F := F) hdf (by omega) hT Pdf v55
  have r1 : ∀ c, c ≠ 55 → m1.2.2 c = m.2.2 c := fun c hc => by rw [e5]; exact gsR_ne hc
  have r55 : ∀ j, j ≠ 4 → m1.2.2 55 j = m.2.2 55 j := fun j hj => by rw [e5]; simp [gsR, hj]
  have ot : oB gSH tp 5 = true := (ob_tape (by omega)).1
  have otx : oB gSH tx 5 = true := (ob_tape (by omega)).1
  have op : oB gSH 55 3 = true := ob_55
  have hb : ∀ i, i < n → b i < 256 := fun i hi => (hT.2.2.2.2 i hi).1
  -- what is the same until the end
  by_cases hz : (pR b n).1 = 0
  · have ok : pOk b n := ⟨hb, hT.2.2.2.1, hz⟩
    obtain ⟨C1, w1⟩ := e2 hz
    have hq := (pQ_ok ok).1
    generalize hm2 : gsR (gsR (gsR (gsR (gsI m1 0 8 0) 0 1 (some tp)) 0 0 (some tx)) 0 2 (some df)) 0 3 (some pg) = m2
    have q1 : ∀ c, c ≠ 0 → m2.1 c = m1.1 c := fun c hc => by rw [← hm2]; show (gsI m1 0 8 0).1 c = _; exact gsI_ne hc
    have q2 : m2.2.1 = m1.2.1 := by rw [← hm2]; rfl
    have q3 : ∀ c, c ≠ 0 → m2.2.2 c = m1.2.2 c := fun c hc => by rw [← hm2, gsR_ne hc, gsR_ne hc, gsR_ne hc, gsR_ne hc]; rfl
    have y0 : m2.2.2 0 0 = some tx := by rw [← hm2]; simp [gsR]
    have y1 : m2.2.2 0 1 = some tp := by rw [← hm2]; simp [gsR]
    have y2 : m2.2.2 0 2 = some df := by rw [← hm2]; simp [gsR]
    have y3 : m2.2.2 0 3 = some pg := by rw [← hm2]; simp [gsR]
    have yj : ∀ j, 4 ≤ j → m2.2.2 0 j = m.2.2 0 j := fun j hj => by
      rw [← r1 0 (by decide), ← hm2]
      have h0 : ¬ j = 0 := by omega
      have h1 : ¬ j = 1 := by omega
      have h2 : ¬ j = 2 := by omega
      have h3 : ¬ j = 3 := by omega
      simp [gsR, gsI, h0, h1, h2, h3]
    have y8 : m2.1 0 8 = 0 := by rw [← hm2]; simp [gsR, gsI]
    have C2 : CPr df m2 (pQ b n) (kS b n) (kH b n) (kW b n) := C1.keep (fun c hc => ⟨q1 c (by omega), by rw [q2], q3 c (by omega)⟩)
    have P2 : PR m2.2.2 df := by
      unfold PR
      rw [q3 df (by omega), q3 (df + 1) (by omega), q3 (df + 6) (by omega), r1 df (by omega), r1 (df + 1) (by omega), r1 (df + 6) (by omega)]
      exact Pdf
    have M2 : m2.2.2 mn 0 = some (mn + 1) ∧ m2.2.2 mn 1 = some (mn + 2) ∧ m2.2.2 mn 2 = some (mn + 3) ∧ m2.2.2 mn 3 = some (mn + 4) := by
      rw [q3 mn (by omega), r1 mn (by omega)]
      rcases hmn with rfl | rfl
      · exact w45
      · exact w50
    obtain ⟨m3, a1, a2, a3, a4, a5⟩ := s_compareNames (F := F) hdf hmn hq.1 (by omega) P2 C2 M2.1
    have C3 : CPr df m3 (pQ b n) (kS b n) (kH b n) (kW b n) := C2.keep (fun c hc => ⟨by rw [a3], a4 c (by omega), by rw [a5]⟩)
    obtain ⟨m4, c1, c2, c3⟩ := s_resolve (F := F) (nk := nkT b n) hdf hmn hq (by omega) (by rw [a5]; exact P2) (by rw [a5, q3 60 (by decide), r1 60 (by decide)]; exact v60) (by rw [a5]; exact M2) C3 (fun r hr => a2 r hr)
    have t1 : ∀ c, c ≠ 60 → c ≠ mn + 3 → c ≠ mn + 4 → m4.1 c = m2.1 c := fun c x y z => by
      rw [c2.1 c x y z]
      show m3.1 c = _
      rw [a3]
    have t2 : ∀ c, c ≠ 61 → c ≠ mn + 2 → c ≠ mn + 1 → m4.2.1 c = m2.2.1 c := fun c x y z => by
      rw [c2.2.2.1 c x y]
      show m3.2.1 c = _
      exact a4 c z
    have t3 : ∀ c, c ≠ 60 → m4.2.2 c = m2.2.2 c := fun c x => by
      rw [c2.2.2.2, gsR_ne x, gsR_ne x, a5]
    have t60 : m4.2.2 60 0 = some 61 := by
      rw [c2.2.2.2]
      simp [gsR]
      rw [a5, q3 60 (by decide), r1 60 (by decide)]
      exact v60
    generalize hm5 : gsI m4 tx 1 0 = m5
    have s1 : ∀ c, c ≠ tx → m5.1 c = m4.1 c := fun c x => by rw [← hm5]; exact gsI_ne x
    have s2 : m5.2 = m4.2 := by rw [← hm5]; rfl
    have t08 : m4.1 0 8 = 0 := by rw [t1 0 (by decide) (by omega) (by omega)]; exact y8
    have full : f_X7_read gSH F 0 m = some (nI (pQ b n 0 0), m5) := by
      unfold f_X7_read
      rw [ob_0, g_ift, z6, g_bs, z0, g_bs, z3, g_bs, op, g_ift, e1, g_bs, g_nmb, g_nmb, g_nmb]
      have ec : nI (aRun (kK b n) 4001 0 aQ0).1 = 0 := by
        show nI (pR b n).1 = 0
        rw [hz]
        rfl
      dsimp only
      rw [ec, show (gsI m1 0 8 0).1 0 8 = 0 by simp [gI_1], if_pos rfl]
      unfold f_X7_swapTapes
      rw [ob_0, g_ift, show (gsI m1 0 8 0).2.2 0 1 = some tx by rw [gI_2, r1 0 (by decide)]; exact z1, g_bs, show (gsI m1 0 8 0).2.2 0 0 = some tp by rw [gI_2, r1 0 (by decide)]; exact z0, g_bs, g_nmb, g_nmb, g_bs]
      rw [show (gsR (gsR (gsI m1 0 8 0) 0 1 (some tp)) 0 0 (some tx)).2.2 0 2 = some pg by simp [gsR, gsI, r1 0 (by decide), z2], g_bs, show (gsR (gsR (gsI m1 0 8 0) 0 1 (some tp)) 0 0 (some tx)).2.2 0 3 = some df by simp [gsR, gsI, r1 0 (by decide), z3], g_bs, g_nmb, g_nmb, hm2, yj 4 (by decide), z4, g_bs, y2, g_bs, (gMn hmn).1, g_ift, a1, g_bs, a5, yj 7 (by decide), z7, g_bs, y2, g_bs, yj 4 (by decide), z4, g_bs, ob_60, g_ift, c1, g_bs]
      unfold b_X7_read_74
      rw [ob_0, g_ift, t3 0 (by decide), y0, g_bs, otx, g_ift, g_nmb, hm5]
      have s08 : m5.1 0 8 = 0 := by rw [s1 0 (by omega)]; exact t08
      rw [s08, if_pos rfl, s2, t3 0 (by decide), y2, g_bs, (gP hdf).1, g_ift, s1 df (by omega), t1 df (by omega) (by omega) (by omega), q1 df (by omega), C1.1.1]
      rfl
    have kc : ∀ c, paZ df c → m1.1 c = m.1 c ∧ m1.2.1 c = m.2.1 c := e4
    have S5 : ∀ c, c ≠ tx → c ≠ 60 → c ≠ mn + 3 → c ≠ mn + 4 → c ≠ 0 → paZ df c → m5.1 c = m.1 c := fun c x y z w v u => by
      rw [s1 c x, t1 c y z w, q1 c v, (kc c u).1]
    have T5 : ∀ c, c ≠ 0 → c ≠ 55 → c ≠ 60 → m5.2.2 c = m.2.2 c := fun c x y z => by rw [s2, t3 c z, q3 c x, r1 c y]
    refine ⟨_, m5, full, fun c hc => ⟨S5 c (by omega) (by omega) (by omega) (by omega) (by omega) (by unfold paZ; omega), ?_, T5 c (by omega) (by omega) (by omega)⟩, ⟨⟨?_, ?_⟩, ⟨?_, ?_⟩, ⟨?_, ?_⟩, ?_, ?_⟩, fun _ => ⟨rfl, ⟨⟨?_, ?_, ?_, ?_, ?_, ?_, ?_, ?_⟩, by omega, by omega, o3⟩, ?_, ?_, ?_, ?_⟩, fun h => absurd hz h⟩
    · rw [s2, t2 c (by omega) (by omega) (by omega), q2, (kc c (by unfold paZ; omega)).2]
    · unfold PR
      rw [T5 5 (by decide) (by decide) (by decide), T5 6 (by decide) (by decide) (by decide), T5 11 (by decide) (by decide) (by decide)]
      exact P5
    · unfold PR
      rw [T5 25 (by decide) (by decide) (by decide), T5 26 (by decide) (by decide) (by decide), T5 31 (by decide) (by decide) (by decide)]
      exact P25
    · rw [T5 1 (by decide) (by decide) (by decide)]; exact u1
    · rw [T5 3 (by decide) (by decide) (by decide)]; exact u3
    · rw [T5 45 (by decide) (by decide) (by decide)]; exact w45
    · rw [T5 50 (by decide) (by decide) (by decide)]; exact w50
    · rw [s2, t3 55 (by decide), q3 55 (by decide), r55 0 (by decide), r55 1 (by decide), r55 2 (by decide), r55 3 (by decide)]
      exact v55
    · rw [s2]; exact t60
    · rw [s2, t3 0 (by decide)]; exact y0
    · rw [s2, t3 0 (by decide)]; exact y1
    · rw [s2, t3 0 (by decide)]; exact y2
    · rw [s2, t3 0 (by decide)]; exact y3
    · rw [s2, t3 0 (by decide), yj 4 (by decide)]; exact z4
    · rw [s2, t3 0 (by decide), yj 5 (by decide)]; exact z5
    · rw [s2, t3 0 (by decide), yj 6 (by decide)]; exact z6
    · rw [s2, t3 0 (by decide), yj 7 (by decide)]; exact z7
    · refine ⟨by omega, ?_, ?_, by omega, fun i hi => by omega⟩
      · rw [T5 tx (by omega) (by omega) (by omega)]
        exact hX.2.1
      · rw [← hm5, gI_1, if_pos ⟨rfl, rfl⟩]
        rfl
    · exact hT.k' (S5 tp (by omega) (by omega) (by omega) (by omega) (by omega) (by unfold paZ; omega)) (S5 (tp + 1) (by omega) (by omega) (by omega) (by omega) (by omega) (by unfold paZ; omega)) (T5 tp (by omega) (by omega) (by omega))
    · refine ⟨ok, C1.keep (fun c hc => ⟨?_, ?_, ?_⟩), fun r hr => ?_, fun r hr => (c3 r hr).k ?_ ?_ ?_⟩
      · rw [s1 c (by omega), t1 c (by omega) (by omega) (by omega), q1 c (by omega)]
      · rw [s2, t2 c (by omega) (by omega) (by omega), q2]
      · rw [s2, t3 c (by omega), q3 c (by omega)]
      · rw [s2, c2.2.2.1 (mn + 1) (by omega) (by omega)]
        exact a2 r hr
      · rw [s2]
      · exact s1 (mn + 3) (by omega)
      · exact s1 (mn + 4) (by omega)
    · rw [s1 0 (by omega)]; exact t08
  · generalize hm2 : gsI (gsI m1 0 8 (nI (pR b n).1)) tp 1 0 = m2
    have q1 : ∀ c, c ≠ 0 → c ≠ tp → m2.1 c = m1.1 c := fun c x y => by rw [← hm2, gsI_ne y, gsI_ne x]
    have q2 : m2.2 = m1.2 := by rw [← hm2]; rfl
    have y8 : m2.1 0 8 = nI (pR b n).1 := by rw [← hm2, gsI_ne (by omega)]; simp [gI_1]
    have kc : ∀ c, paZ df c → m1.1 c = m.1 c ∧ m1.2.1 c = m.2.1 c := e4
    have S5 : ∀ c, c ≠ 0 → c ≠ tp → paZ df c → m2.1 c = m.1 c := fun c x y u => by rw [q1 c x y, (kc c u).1]
    have T5 : ∀ c, c ≠ 55 → m2.2.2 c = m.2.2 c := fun c x => by rw [q2, r1 c x]
    have hcode := aT_lt
    have hne : ¬ nI (pR b n).1 = 0 := by
      have lt := (s_codeLt (b := b) (n := n))
      exact nI_ne0 (by omega) lt
    have full : f_X7_read gSH F 0 m = some (-1 - nI (kS b n (pE b n)), m2) := by
      unfold f_X7_read
      rw [ob_0, g_ift, z6, g_bs, z0, g_bs, z3, g_bs, op, g_ift, e1, g_bs, g_nmb, g_nmb, g_nmb]
      dsimp only
      rw [show (gsI m1 0 8 (nI (aRun (kK b n) 4001 0 aQ0).1)).1 0 8 = nI (pR b n).1 by simp [gI_1]; rfl, if_neg hne]
      unfold b_X7_read_74
      rw [ob_0, g_ift, show (gsI m1 0 8 (nI (aRun (kK b n) 4001 0 aQ0).1)).2.2 0 0 = some tp by rw [gI_2, r1 0 (by decide)]; exact z0, g_bs, ot, g_ift, g_nmb, show gsI (gsI m1 0 8 (nI (aRun (kK b n) 4001 0 aQ0).1)) tp 1 0 = m2 from hm2, y8, if_neg hne, T5 0 (by decide), z6, g_bs, op, g_ift]
      unfold f_X3_place
      rw [op, g_ift, q2, r55 0 (by decide), v55.1, g_bs, ob_56, g_ift, g_bs, g_nmb, g_nmb, q1 56 (by decide) (by omega), e3]
      rfl
    refine ⟨_, m2, full, fun c hc => ⟨S5 c (by omega) (by omega) (by unfold paZ; omega), by rw [q2, (kc c (by unfold paZ; omega)).2], T5 c (by omega)⟩, ⟨⟨?_, ?_⟩, ⟨?_, ?_⟩, ⟨?_, ?_⟩, ?_, ?_⟩, fun h => absurd h hz, fun _ => ⟨rfl, ⟨?_, o1, o2, o3⟩, ?_, ?_, ?_, y8⟩⟩
    · unfold PR
      rw [T5 5 (by decide), T5 6 (by decide), T5 11 (by decide)]
      exact P5
    · unfold PR
      rw [T5 25 (by decide), T5 26 (by decide), T5 31 (by decide)]
      exact P25
    · rw [T5 1 (by decide)]; exact u1
    · rw [T5 3 (by decide)]; exact u3
    · rw [T5 45 (by decide)]; exact w45
    · rw [T5 50 (by decide)]; exact w50
    · rw [q2, r55 0 (by decide), r55 1 (by decide), r55 2 (by decide), r55 3 (by decide)]
      exact v55
    · rw [T5 60 (by decide)]; exact v60
    · rw [T5 0 (by decide)]
      exact ⟨z0, z1, z2, z3, z4, z5, z6, z7⟩
    · refine ⟨by omega, ?_, ?_, by omega, fun i hi => by omega⟩
      · rw [T5 tp (by omega)]
        exact hT.2.1
      · rw [← hm2, gI_1, if_pos ⟨rfl, rfl⟩]
        rfl
    · exact hX.k' (S5 tx (by omega) (by omega) (by unfold paZ; omega)) (S5 (tx + 1) (by omega) (by omega) (by unfold paZ; omega)) (T5 tx (by omega))
    · refine hC.k hpg hmn (fun c hc => ⟨S5 c (by omega) (by omega) (by unfold paZ; omega), by rw [q2, (kc c (by unfold paZ; omega)).2]⟩) (fun c hc => T5 c (by omega))
end RDC
