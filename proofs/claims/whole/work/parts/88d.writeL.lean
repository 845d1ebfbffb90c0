/-! WRITING THE NEW TEXT: the object's loop -/
def WJ (wS : Nat → Bool) (la i x : Nat) : Prop := x ≤ 4012 ∧ ∀ j, i ≤ j → (j < x ↔ ∃ s, s < i ∧ wS s = true ∧ j < s + la)
def WA (s : Nat → Nat) (N i x : Nat) : Prop := x ≤ N ∧ (∀ d, d < x → s d < i) ∧ ∀ d, x ≤ d → d < N → i ≤ s d
section WRL
variable {b B c P : Nat → Nat} {n l la : Nat} {wS wI : Nat → Bool} {F : Nat} {m : gM} {tp tx pg mn : Nat} {g nH nL : Int64}
theorem WJ.at (W : WP b n l la wS wI P B c) {i x : Nat} (h : WJ wS la i x) : i < x ↔ wI i = true := by
  rw [W.2.2.2.2.1 i]
  exact h.2 i (Nat.le_refl _)
theorem WJ.step (W : WP b n l la wS wI P B c) {i x : Nat} (hi : i < 4000) (h : WJ wS la i x) : WJ wS la (i + 1) (if wS i = true then i + la else x) := by
  have la12 := W.2.2.2.2.2.2.2.2.2.2.2
  cases q : wS i
  · rw [if_neg (by decide)]
    refine ⟨h.1, fun j hj => ?_⟩
    rw [h.2 j (by omega)]
    constructor
    · rintro ⟨s, a1, a2, a3⟩
      exact ⟨s, by omega, a2, a3⟩
    · rintro ⟨s, a1, a2, a3⟩
      have : s ≠ i := fun z => by rw [z, q] at a2; cases a2
      exact ⟨s, by omega, a2, a3⟩
  · rw [if_pos rfl]
    refine ⟨by omega, fun j hj => ?_⟩
    constructor
    · intro a
      exact ⟨i, by omega, q, a⟩
    · rintro ⟨s, a1, a2, a3⟩
      by_cases z : s = i
      · rw [← z]; exact a3
      · have := W.2.2.2.2.2.1 s i a2 q (by omega)
        omega
theorem WA.hit {s : Nat → Nat} {N i x : Nat} (h : WA s N i x) (mo : ∀ d d', d < d' → d' < N → s d < s d') (hx : x < N) (e : s x = i) : WA s N (i + 1) (x + 1) := by
  obtain ⟨h1, h2, h3⟩ := h
  refine ⟨by omega, fun d hd => ?_, fun d a1 a2 => ?_⟩
  · by_cases z : d = x
    · rw [z]; omega
    · have := h2 d (by omega)
      omega
  · have := mo x d (by omega) a2
    omega
theorem WA.no {s : Nat → Nat} {N i x : Nat} (h : WA s N i x) (mo : ∀ d d', d < d' → d' < N → s d < s d') (hx : ¬ (x < N ∧ s x = i)) : WA s N (i + 1) x := by
  obtain ⟨h1, h2, h3⟩ := h
  refine ⟨h1, fun d hd => by have := h2 d hd; omega, fun d a1 a2 => ?_⟩
  have y := h3 x (Nat.le_refl _)
  have ne : s x ≠ i := fun z => hx ⟨by omega, z⟩
  by_cases z : d = x
  · rw [z]
    have := y (by omega)
    omega
  · have := mo x d (by omega) a2
    have := y (by omega)
    omega
theorem WA.at {s : Nat → Nat} {N i x : Nat} {hit : Nat → Bool} (h : WA s N i x) (mo : ∀ d d', d < d' → d' < N → s d < s d') : (∃ d, d < N ∧ s d = i ∧ hit d = true) ↔ (x < N ∧ s x = i ∧ hit x = true) := by
  obtain ⟨h1, h2, h3⟩ := h
  constructor
  · rintro ⟨d, a1, a2, a3⟩
    have ge : x ≤ d := by
      apply Classical.byContradiction
      intro z
      have := h2 d (by omega)
      omega
    have e : d = x := by
      apply Classical.byContradiction
      intro z
      have a := mo x d (by omega) a1
      have := h3 x (Nat.le_refl _) (by omega)
      omega
    rw [← e]
    exact ⟨a1, a2, a3⟩
  · rintro ⟨a1, a2, a3⟩
    exact ⟨x, a1, a2, a3⟩
theorem s_w164 (W : WP b n l la wS wI P B c) (hF : 5000 ≤ F) {i : Nat} (hi : i < n) (z0 : m.2.2 0 0 = some tp) (z1 : m.2.2 0 1 = some tx) (T : TapC m tp B (P i)) (X : TapC m tx b n) (h3 : m.2.1 56 3 = nmH c 0 l) (h4 : m.2.1 56 4 = nmL c 0 l) {x9 : Nat} (J : WJ wS la i x9) {k38 : Nat → Int64 → Int32 → Nat → Nat → Nat → Int32 → Int32 → Int32 → Int32 → gM → Option gM} {a5 a6 : Nat} (x7 x8 : Int32) {f : Int32} (hf : f = if wS i = true then 1 else 0) : ∃ m', b_X7_writeNewText_164 gSH F k38 0 g (nI la) 56 a5 a6 x7 x8 (nI x9) (nI i) f m = k38 0 g (nI la) 56 a5 a6 x7 x8 (nI (if wS i = true then i + la else x9)) (nI (i + 1)) m' ∧ TapC m' tp B (P (i + 1)) ∧ gKeep (fun k => k ≠ tp ∧ k ≠ tp + 1) m m' ∧ m'.2.2 = m.2.2 := by
  have at' := J.at W
  have x9l := J.1
  obtain ⟨w1, w2, w3, w4, w5, w6, w7, w8, w9, w10, w11, w12⟩ := id W
  have p1 := w2 i
  have pn : P (i + 1) ≤ P n := W.mo (by omega)
  have ot := (ob_tape T.1).1
  have ox := (ob_tape X.1).1
  cases q : wS i
  · rw [q, if_neg (by decide)] at hf p1
    rw [if_neg (by decide)]
    by_cases k : i < x9
    · rw [if_pos (at'.mp k)] at p1
      refine ⟨m, ?_, by rw [p1]; exact T, gKeep.refl m, rfl⟩
      unfold b_X7_writeNewText_164 b_X7_writeNewText_218
      rw [hf, if_pos (rfl : (0 : Int32) = 0), if_pos (nI_lt k (by omega)), g_nmb, nI_a1]
    · have wi : wI i = false := by
        cases z : wI i
        · rfl
        · exact absurd (at'.mpr z) k
      rw [wi, if_neg (by decide)] at p1
      obtain ⟨m1, a1, a2, a3, a4⟩ := s_addB (F := F) (x := b i) T (by omega) (w7 i hi) (w4 i hi q wi)
      refine ⟨m1, ?_, by rw [p1]; exact a2, a3, a4⟩
      unfold b_X7_writeNewText_164 b_X7_writeNewText_218
      rw [hf, if_pos (rfl : (0 : Int32) = 0), if_neg (nI_nlt (by omega) (by omega)), ob_0, g_ift, z0, g_bs, z1, g_bs, ox, g_ift, s_at X (by omega), g_bs, g_nmb, g_nmb, ot, g_ift, sAt_in hi, a1, g_bs, g_nmb, nI_a1]
  · rw [q, if_pos rfl] at hf p1
    rw [if_pos rfl]
    obtain ⟨m1, a1, a2, a3, a4⟩ := s_addName (F := F) (k := P i) (l := l) hF (by omega) w11 w10 (w3 i hi q) T
    refine ⟨m1, ?_, by rw [p1]; exact a2, a3, a4⟩
    unfold b_X7_writeNewText_164 b_X7_writeNewText_218
    rw [hf, if_neg one0, ob_0, g_ift, z0, g_bs, ob_56, g_ift, ot, g_ift, h3, h4, a1, g_bs, g_nmb, nI_add, g_nmb, nI_a1]
/-- what writing leaves as it is -/
def KW (tp pg : Nat) (m m' : gM) : Prop := (∀ c, c ≠ tp → c ≠ tp + 1 → c ≠ pg + 3 → c ≠ pg + 8 → m'.1 c = m.1 c) ∧ (∀ c, c ≠ tp → c ≠ tp + 1 → c ≠ pg + 4 → c ≠ pg + 5 → c ≠ pg + 9 → c ≠ pg + 10 → m'.2.1 c = m.2.1 c) ∧ m'.2.2 = m.2.2
theorem KW.refl (m : gM) : KW tp pg m m := ⟨fun _ _ _ _ _ => rfl, fun _ _ _ _ _ _ _ => rfl, rfl⟩
theorem KW.trans {m1 m2 : gM} (h : KW tp pg m m1) (k : KW tp pg m1 m2) : KW tp pg m m2 := ⟨fun c a1 a2 a3 a4 => (k.1 c a1 a2 a3 a4).trans (h.1 c a1 a2 a3 a4), fun c a1 a2 a3 a4 a5 a6 => (k.2.1 c a1 a2 a3 a4 a5 a6).trans (h.2.1 c a1 a2 a3 a4 a5 a6), k.2.2.trans h.2.2⟩
theorem s_writeL {nD nR : Nat} {sD sR : Nat → Nat} {HD LD HR LR X : Nat → Int64} (W : WP b n l la wS wI P B c) (hF : 5000 ≤ F) (hpg : pg = 5 ∨ pg = 25) (hmn : mn = 45 ∨ mn = 50) (ho : (tp = 1 ∧ tx = 3) ∨ (tp = 3 ∧ tx = 1)) (z0 : m.2.2 0 0 = some tp) (z1 : m.2.2 0 1 = some tx) (z4 : m.2.2 0 4 = some mn) (M : m.2.2 mn 1 = some (mn + 2)) (PP : PR m.2.2 pg) (TX : TapC m tx b n) (h3 : m.2.1 56 3 = nmH c 0 l) (h4 : m.2.1 56 4 = nmL c 0 l) (hD : nD ≤ 60) (hR : nR ≤ 100) (hX : ∀ r, r < nR → m.2.1 (mn + 2) r = X r) (bD : ∀ d, d < nD → sD d < n) (bR : ∀ r, r < nR → sR r < n) (mD : ∀ d d', d < d' → d' < nD → sD d < sD d') (mR : ∀ d d', d < d' → d' < nR → sR d < sR d') (dis : ∀ d r, d < nD → r < nR → sD d ≠ sR r)
    (hS : ∀ i, wS i = true ↔ ((∃ d, d < nD ∧ sD d = i ∧ bm g d = true) ∨ ∃ r, r < nR ∧ sR r = i ∧ decide (X r &&& g ≠ 0) = true)) :
    ∀ (k N i x7 x8 x9 : Nat) (m' : gM), i + k = n → k < N → KW tp pg m m' → TapC m' tp B (P i) → WR m' (pg + 1) nD sD P HD LD (bm g) (nmH c 0 l) (nmL c 0 l) x7 → WR m' (pg + 6) nR sR P HR LR (fun r => decide (X r &&& g ≠ 0)) (nmH c 0 l) (nmL c 0 l) x8 → WA sD nD i x7 → WA sR nR i x8 → WJ wS la i x9 →
      ∃ m2, l_X7_writeNewText_38 gSH F N 0 g (nI la) 56 (pg + 1) (pg + 6) (nI x7) (nI x8) (nI x9) (nI i) m' = some m2 ∧ KW tp pg m m2 ∧ TapC m2 tp B (P n) ∧ WR m2 (pg + 1) nD sD P HD LD (bm g) (nmH c 0 l) (nmL c 0 l) nD ∧ WR m2 (pg + 6) nR sR P HR LR (fun r => decide (X r &&& g ≠ 0)) (nmH c 0 l) (nmL c 0 l) nR := by
  obtain ⟨g1, g2, g3, b2, b3, b4, b5, b7, b8, b9, b10, -⟩ := gP hpg
  obtain ⟨r0, r1, r2, r3, r4, r5, r6, r7, r8, r9, r10, d0, d1, d2, d3, e0, e1, e2, e3⟩ := id PP
  obtain ⟨om, c1, c2, -⟩ := gMn hmn
  have n4 := W.2.2.2.2.2.2.2.2.1
  have mkD : ∀ m' : gM, m'.2.2 = m.2.2 → MK m' (pg + 1) 60 := fun m' e => ⟨by omega, by rw [e]; exact d1, by rw [e]; exact d2, by rw [e]; exact d3, g2, b3, b4, b5, by decide⟩
  have mkR : ∀ m' : gM, m'.2.2 = m.2.2 → MK m' (pg + 6) 100 := fun m' e => ⟨by omega, by rw [e]; exact e1, by rw [e]; exact e2, by rw [e]; exact e3, g3, b8, b9, b10, by decide⟩
  have ox := (ob_tape TX.1).1
  have ot : oB gSH tp 5 = true := (ob_tape (by omega)).1
  intro k
  induction k with
  | zero =>
    intro N i x7 x8 x9 m' hi hN K T WD WRr AD AR J
    obtain ⟨N, rfl⟩ : ∃ N', N = N' + 1 := ⟨N - 1, by omega⟩
    have hin : i = n := by omega
    have e7 : x7 = nD := by
      apply Classical.byContradiction
      intro z
      have := AD.2.2 x7 (Nat.le_refl _) (by have := AD.1; omega)
      have := bD x7 (by have := AD.1; omega)
      omega
    have e8 : x8 = nR := by
      apply Classical.byContradiction
      intro z
      have := AR.2.2 x8 (Nat.le_refl _) (by have := AR.1; omega)
      have := bR x8 (by have := AR.1; omega)
      omega
    subst e7 e8 hin
    refine ⟨m', ?_, K, T, WD, WRr⟩
    show b_X7_writeNewText_38 gSH F (l_X7_writeNewText_38 gSH F N) 0 g (nI la) 56 (pg + 1) (pg + 6) _ _ (nI x9) (nI i) m' = _
    unfold b_X7_writeNewText_38
    have tx1 : m'.1 tx 1 = nI i := by rw [K.1 tx (by omega) (by omega) (by omega) (by omega)]; exact TX.2.2.1
    rw [ob_0, g_ift, K.2.2, z1, g_bs, ox, g_ift, tx1, if_pos (nI_le (Nat.le_refl _) (by omega))]
  | succ k ih =>
    intro N i x7 x8 x9 m' hi hN K T WD WRr AD AR J
    obtain ⟨N, rfl⟩ : ∃ N', N = N' + 1 := ⟨N - 1, by omega⟩
    have hin : i < n := by omega
    have tx1 : m'.1 tx 1 = nI n := by rw [K.1 tx (by omega) (by omega) (by omega) (by omega)]; exact TX.2.2.1
    have sd := s_stands (F := F) (i := i) (mkD m' K.2.2) hD WD AD.1 (by omega) (fun d hd => by have := bD d hd; omega)
    have sr := s_stands (F := F) (i := i) (mkR m' K.2.2) hR WRr AR.1 (by omega) (fun d hd => by have := bR d hd; omega)
    have atD := WA.at (hit := bm g) AD mD
    have atR := WA.at (hit := fun r => decide (X r &&& g ≠ 0)) AR mR
    have wS' : wS i = true ↔ ((x7 < nD ∧ sD x7 = i ∧ bm g x7 = true) ∨ (x8 < nR ∧ sR x8 = i ∧ decide (X x8 &&& g ≠ 0) = true)) := by
      rw [hS i, atD, atR]
    clear atD atR
    have tk : ∀ (m1 : gM), KW tp pg m m1 → TapC m1 tx b n := fun m1 K1 => TX.k' (K1.1 tx (by omega) (by omega) (by omega) (by omega)) (K1.1 (tx + 1) (by omega) (by omega) (by omega) (by omega)) (by rw [K1.2.2])
    have k3 : ∀ (m1 : gM), KW tp pg m m1 → m1.2.1 56 = m.2.1 56 := fun m1 K1 => K1.2.1 56 (by omega) (by omega) (by omega) (by omega) (by omega) (by omega)
    have fin : ∀ (m1 : gM) (y7 y8 : Nat) (f : Int32), KW tp pg m m1 → TapC m1 tp B (P i) → WR m1 (pg + 1) nD sD P HD LD (bm g) (nmH c 0 l) (nmL c 0 l) y7 → WR m1 (pg + 6) nR sR P HR LR (fun r => decide (X r &&& g ≠ 0)) (nmH c 0 l) (nmL c 0 l) y8 → WA sD nD (i + 1) y7 → WA sR nR (i + 1) y8 → f = (if wS i = true then 1 else 0) → ∃ m2, b_X7_writeNewText_164 gSH F (l_X7_writeNewText_38 gSH F N) 0 g (nI la) 56 (pg + 1) (pg + 6) (nI y7) (nI y8) (nI x9) (nI i) f m1 = some m2 ∧ KW tp pg m m2 ∧ TapC m2 tp B (P n) ∧ WR m2 (pg + 1) nD sD P HD LD (bm g) (nmH c 0 l) (nmL c 0 l) nD ∧ WR m2 (pg + 6) nR sR P HR LR (fun r => decide (X r &&& g ≠ 0)) (nmH c 0 l) (nmL c 0 l) nR := by
      intro m1 y7 y8 f K1 T1 D1 R1 A1 A2 hf
      obtain ⟨m2, q1, q2, q3, q4⟩ := s_w164 (g := g) W hF hin (by rw [K1.2.2]; exact z0) (by rw [K1.2.2]; exact z1) T1 (tk m1 K1) (by rw [k3 m1 K1]; exact h3) (by rw [k3 m1 K1]; exact h4) J (k38 := l_X7_writeNewText_38 gSH F N) (a5 := pg + 1) (a6 := pg + 6) (nI y7) (nI y8) hf
      rw [q1]
      have KK : KW tp pg m1 m2 := ⟨fun c a1 a2 _ _ => (q3 c ⟨a1, a2⟩).1, fun c a1 a2 _ _ _ _ => (q3 c ⟨a1, a2⟩).2.1, q4⟩
      exact ih N (i + 1) y7 y8 _ m2 (by omega) (by omega) (K1.trans KK) q2 (D1.k (fun c hc => ⟨(q3 c (by omega)).1, (q3 c (by omega)).2.1⟩)) (R1.k (fun c hc => ⟨(q3 c (by omega)).1, (q3 c (by omega)).2.1⟩)) A1 A2 (J.step W (by omega))
    have st : l_X7_writeNewText_38 gSH F (N + 1) 0 g (nI la) 56 (pg + 1) (pg + 6) (nI x7) (nI x8) (nI x9) (nI i) m' = b_X7_writeNewText_38 gSH F (l_X7_writeNewText_38 gSH F N) 0 g (nI la) 56 (pg + 1) (pg + 6) (nI x7) (nI x8) (nI x9) (nI i) m' := rfl
    rw [st]
    unfold b_X7_writeNewText_38
    rw [ob_0, g_ift, K.2.2, z1, g_bs, ox, g_ift, tx1, if_neg (nI_ge hin (by omega)), g2, g_ift, sd, g_bs, g_nmb, g_nmb]
    dsimp only
    by_cases cd : x7 < nD ∧ sD x7 = i
    · rw [if_pos cd, if_neg one0]
      have l7 := cd.1
      have nr : ¬ (x8 < nR ∧ sR x8 = i) := fun z => dis x7 x8 cd.1 z.1 (by rw [cd.2, z.2])
      have wb : wS i = true ↔ bm g x7 = true := by
        rw [wS']
        constructor
        · rintro (z | z)
          · exact z.2.2
          · exact absurd ⟨z.1, z.2.1⟩ nr
        · intro z
          exact Or.inl ⟨cd.1, cd.2, z⟩
      have body : ∀ f : Int32, f = (if bm g x7 = true then 1 else 0) → ∃ m2, b_X7_writeNewText_81 gSH F (l_X7_writeNewText_38 gSH F N) 0 g (nI la) 56 (pg + 1) (pg + 6) (nI x7) (nI x8) (nI x9) (nI i) f m' = some m2 ∧ KW tp pg m m2 ∧ TapC m2 tp B (P n) ∧ WR m2 (pg + 1) nD sD P HD LD (bm g) (nmH c 0 l) (nmL c 0 l) nD ∧ WR m2 (pg + 6) nR sR P HR LR (fun r => decide (X r &&& g ≠ 0)) (nmH c 0 l) (nmL c 0 l) nR := by
        intro f hf
        obtain ⟨m1, q1, q2, q3, q4, q5⟩ := s_move (F := F) (mkD m' K.2.2) hD WD cd.1 (by rw [k3 m' K]; exact h3) (by rw [k3 m' K]; exact h4) f hf
        rw [cd.2] at q1
        unfold b_X7_writeNewText_81
        rw [ob_0, g_ift, K.2.2, z0, g_bs, ot, g_ift, g2, g_ift, T.2.2.1, q1, g_bs, g_nmb, nI_a1]
        have KK : KW tp pg m' m1 := ⟨fun c a1 a2 a3 _ => q3 c (by omega), fun c a1 a2 a3 a4 _ _ => q4 c (by omega) (by omega), q5⟩
        refine fin m1 (x7 + 1) x8 f (K.trans KK) (T.k' (q3 tp (by omega)) (q3 (tp + 1) (by omega)) (by rw [q5])) q2 (WRr.k (fun c hc => ⟨q3 c (by omega), q4 c (by omega) (by omega)⟩)) (AD.hit mD cd.1 cd.2) (AR.no mR nr) ?_
        rw [hf]
        by_cases z : bm g x7 = true
        · rw [if_pos z, if_pos (wb.mpr z)]
        · rw [if_neg z, if_neg (fun y => z (wb.mp y))]
      by_cases z : bm g x7 = true
      · rw [if_neg (fun y => by rw [(bm_ush (by omega)).mp y] at z; cases z)]
        exact body 1 (by rw [if_pos z])
      · have z' : bm g x7 = false := by
          cases y : bm g x7
          · rfl
          · exact absurd y z
        rw [if_pos ((bm_ush (by omega)).mpr z')]
        exact body 0 (by rw [if_neg z])
    · rw [if_neg cd, if_pos (rfl : (0 : Int32) = 0), g3, g_ift, sr, g_bs, g_nmb, g_nmb]
      dsimp only
      by_cases cr : x8 < nR ∧ sR x8 = i
      · rw [if_pos cr, if_neg one0]
        have l8 := cr.1
        have wb : wS i = true ↔ X x8 &&& g ≠ 0 := by
          rw [wS', decide_eq_true_eq]
          constructor
          · rintro (z | z)
            · exact absurd ⟨z.1, z.2.1⟩ cd
            · exact z.2.2
          · intro z
            exact Or.inr ⟨cr.1, cr.2, z⟩
        have body : ∀ f : Int32, f = (if decide (X x8 &&& g ≠ 0) = true then 1 else 0) → ∃ m2, b_X7_writeNewText_141 gSH F (l_X7_writeNewText_38 gSH F N) 0 g (nI la) 56 (pg + 1) (pg + 6) (nI x7) (nI x8) (nI x9) (nI i) f m' = some m2 ∧ KW tp pg m m2 ∧ TapC m2 tp B (P n) ∧ WR m2 (pg + 1) nD sD P HD LD (bm g) (nmH c 0 l) (nmL c 0 l) nD ∧ WR m2 (pg + 6) nR sR P HR LR (fun r => decide (X r &&& g ≠ 0)) (nmH c 0 l) (nmL c 0 l) nR := by
          intro f hf
          obtain ⟨m1, q1, q2, q3, q4, q5⟩ := s_move (F := F) (mkR m' K.2.2) hR WRr cr.1 (by rw [k3 m' K]; exact h3) (by rw [k3 m' K]; exact h4) f hf
          rw [cr.2] at q1
          unfold b_X7_writeNewText_141
          rw [ob_0, g_ift, K.2.2, z0, g_bs, ot, g_ift, g3, g_ift, T.2.2.1, q1, g_bs, g_nmb, nI_a1]
          have KK : KW tp pg m' m1 := ⟨fun c a1 a2 _ a4 => q3 c (by omega), fun c a1 a2 _ _ a5 a6 => q4 c (by omega) (by omega), q5⟩
          refine fin m1 x7 (x8 + 1) f (K.trans KK) (T.k' (q3 tp (by omega)) (q3 (tp + 1) (by omega)) (by rw [q5])) (WD.k (fun c hc => ⟨q3 c (by omega), q4 c (by omega) (by omega)⟩)) q2 (AD.no mD cd) (AR.hit mR cr.1 cr.2) ?_
          rw [hf]
          by_cases z : X x8 &&& g ≠ 0
          · rw [if_pos (decide_eq_true z), if_pos (wb.mpr z)]
          · rw [if_neg (fun y => z (of_decide_eq_true y)), if_neg (fun y => z (wb.mp y))]
        have xr : m'.2.1 (mn + 2) x8 = X x8 := by rw [K.2.1 (mn + 2) (by omega) (by omega) (by omega) (by omega) (by omega) (by omega)]; exact hX x8 cr.1
        rw [K.2.2, z4, g_bs, om, g_ift, M, g_bs, c2, g_inI (by omega) (by decide), g_ift, nI_clamp (by omega), xr]
        by_cases z : X x8 &&& g = 0
        · rw [if_pos z]
          exact body 0 (by rw [if_neg (show ¬ decide (X x8 &&& g ≠ 0) = true from fun y => (decide_eq_true_eq.mp y) z)])
        · rw [if_neg z]
          exact body 1 (by rw [if_pos (decide_eq_true z)])
      · rw [if_neg cr, if_pos (rfl : (0 : Int32) = 0)]
        exact fin m' x7 x8 0 K T WD WRr (AD.no mD cd) (AR.no mR cr) (by
          rw [if_neg (fun y => (wS'.mp y).elim (fun z => cd ⟨z.1, z.2.1⟩) (fun z => cr ⟨z.1, z.2.1⟩))])
end WRL
