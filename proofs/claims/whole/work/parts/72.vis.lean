/-! THE REFERENCE'S QUESTIONS: what is visible -/
section QST
variable {q : Nat → Nat → Nat} {nk : Nat → Nat → Bool} {F r nd : Nat} {σ : Nat → Bool}
theorem q_vis {Q : Nat} {lo hi : Int64} {E : Nat → Nat → Prop} {ndI tI : Nat} (hq : mQ q) (hF : 5000 ≤ F) (hr : r < q 0 2) (g : SgR lo hi σ) (hI : ∀ S s, s < q 0 0 → S s = false → ISp q nk σ S r s ndI tI (fun d => ∃ u, E s u ∧ mA q nk E r (mI S s) u d)) (n1 : ndI + 1 ≤ nd) (n0 : 2 ≤ nd) : ∀ (k s : Nat) (m : gM) (sc : Int64) (S : Nat → Bool) (v : Nat), s < k → s < q 0 0 → qOk q nk Q nd m → qAt m Q 0 0 s r lo hi sc → ScR sc S → (∀ x, S x = true → s < x) → (∀ x d, S x = true → ¬ mF q nk E r x d) → (Q = 0 → m.1 62 66 = nI v) →
    ∃ m', qRn (k * (tI + 2)) m m' ∧ KB Q m m' ∧ m'.1 62 64 = nI Q ∧ (∀ d, bm (m'.2.1 62 65) d = true ↔ mC q nk E r s d) ∧ (0 < Q → m'.1 62 66 = m.1 62 66 ∧ m'.1 62 67 = m.1 62 67) ∧ (Q = 0 → ∃ j, m'.1 62 66 = nI (v + j) ∧ ((∃ d, mC q nk E r s d) → (∃ d, mCn q nk E r j s d) ∧ ((∃ d, mH q nk r (anc q j s) d) → m'.1 62 67 = 1) ∧ ((¬ ∃ d, mH q nk r (anc q j s) d) → m'.1 62 67 = m.1 62 67))) ∧ (m'.1 62 67 = 0 ∨ m'.1 62 67 = 1) := by
  have l0 := hq.1.1.2.1
  intro k
  induction k with
  | zero => intro s m sc S v h; omega
  | succ k ih =>
    intro s m sc S v hk hs ok a gs hS1 hS2 hv
    obtain ⟨hQS, hQn, h67, h64⟩ := id ok
    obtain ⟨-, -, -, -, -, w6, p54, p55, p56, p57, p58, p59, p60, p61, p62, p63⟩ := id hQS
    have cl : (nI Q).toNatClampNeg = Q := nI_clamp (by omega)
    have i8 : inB (nI Q) 8000 = true := g_inI (by omega) (by decide)
    have Ss : S s = false := by
      cases e : S s
      · rfl
      · have := hS1 s e
        omega
    have su := gs s (by omega)
    rw [Ss] at su
    have mAF : ∀ d, mA q nk E r S s d ↔ mF q nk E r s d := fun d => mA_5 hS2
    have un : ∀ F, 5000 ≤ F → f_X8_visible gSH F 62 (nI Q) m = b_X8_visible_46 gSH F 62 (nI Q) (nI s) 0 (hSet q nk r s) m := by
      intro F hF
      unfold f_X8_visible
      rw [ob_62, g_ift, p56, g_bs, show aB gSH 96 .int (nI Q) = true from i8, g_ift, cl, a.2.2.1, g_nmb, p60, g_bs, show aB gSH 100 .long (nI Q) = true from i8, g_ift, a.2.2.2.2.2.2, s_has (by omega), g_bs, g_nmb, g_nmb, su, p55, g_bs, show aB gSH 95 .int (nI Q) = true from i8, g_ift, a.2.1, if_pos rfl, if_neg Bool.false_ne_true, if_pos (rfl : (0 : Int32) = 0), p57, g_bs, show aB gSH 97 .int (nI Q) = true from i8, g_ift, a.2.2.2.1, s_here hQS hq.1 hr hs hF, g_bs, g_nmb, g_nmb]
    by_cases h0 : hSet q nk r s = 0
    rotate_left
    · have hne : ∃ d, mH q nk r s d := by
        apply Classical.byContradiction
        intro hn
        exact h0 ((hSet_0 hq.1).mpr (fun d hd => hn ⟨d, hd⟩))
      obtain ⟨d0, hd0⟩ := hne
      have fF : ∀ d, mF q nk E r s d ↔ mH q nk r s d := fun d => (mAF d).symm.trans (mA_2 Ss hd0)
      have f0 : mF q nk E r s d0 := (fF d0).mpr hd0
      have mCF : ∀ d, mC q nk E r s d ↔ mH q nk r s d := fun d => by
        rw [← fF d]
        constructor
        · rintro ⟨j, h⟩
          cases j with
          | zero => exact h
          | succ j => exact absurd f0 (h.1 d0)
        · intro h
          exact ⟨0, h⟩
      let w : Int32 := if Q = 0 then 1 else m.1 62 67
      have w01 : w = 0 ∨ w = 1 := by
        show (if Q = 0 then (1 : Int32) else m.1 62 67) = 0 ∨ (if Q = 0 then (1 : Int32) else m.1 62 67) = 1
        by_cases c : Q = 0
        · rw [if_pos c]
          exact Or.inr rfl
        · rw [if_neg c]
          exact h67
      have e72 : ∀ (F : Nat) (y : Int32), y = 0 ∨ y = 1 → b_X8_visible_72 gSH F 62 (hSet q nk r s) y 62 m = some (gsI (gsL (gsI m 62 67 y) 62 65 (hSet q nk r s)) 62 64 (nI Q)) := by
        intro F y hy
        unfold b_X8_visible_72
        have z : zB y = true := by rcases hy with rfl | rfl <;> rfl
        rw [ob_62, g_ift, z, g_ift, g_nmb, g_ift, s_says (Q := Q) (by simpa [gI_1] using h64), g_bs]
      have e : ∀ F, 5000 ≤ F → f_X8_visible gSH F 62 (nI Q) m = some (gsI (gsL (gsI m 62 67 w) 62 65 (hSet q nk r s)) 62 64 (nI Q)) := by
        intro F hF
        rw [un F hF]
        unfold b_X8_visible_46 b_X8_visible_67
        rw [if_neg h0, e72 F 1 (Or.inr rfl), e72 F 0 (Or.inl rfl), ob_62, g_ift]
        by_cases c : Q = 0
        · have ew : w = 1 := if_pos c
          rw [if_pos (show nI Q = 0 by rw [c]; rfl), ew]
        · have ew : w = m.1 62 67 := if_neg c
          rw [if_neg (nI_ne0 (by omega) (by omega)), ew]
          rcases h67 with h | h
          · rw [h, if_pos rfl]
          · rw [h, if_neg one0]
      refine ⟨_, (q_step hQS (by omega) h64 (Or.inl ⟨a.1, e⟩)).mono (by rw [Nat.succ_mul]; omega), ((KB.i (by omega)).trans (KB.l (by omega))).trans (KB.i (by omega)), by simp [gI_1], fun d => ?_, fun hQ => ⟨by simp [gI_1, gL_1], ?_⟩, fun hQ => ⟨0, ?_, fun _ => ⟨⟨d0, f0⟩, fun _ => ?_, fun hn => absurd ⟨d0, hd0⟩ hn⟩⟩, by simpa [gI_1, gL_1] using w01⟩
      · rw [mCF d, ← hSet_m hq.1 d]
        simp [gI_2, gL_2]
      · have ew : w = m.1 62 67 := if_neg (by omega)
        simp [gI_1, gL_1, ew]
      · have := hv hQ
        simpa [gI_1, gL_1] using this
      · have ew : w = 1 := if_pos hQ
        simp [gI_1, gL_1, ew]
    have hno := (hSet_0 hq.1).mp h0
    have fI : ∀ d, mF q nk E r s d ↔ ∃ u, E s u ∧ mA q nk E r (mI S s) u d := fun d => (mAF d).symm.trans (mA_3 Ss hno)
    generalize hm1 : gsL (gsI m 95 Q 1) 62 65 0 = m1
    have k1 : KB Q m m1 := by
      rw [← hm1]
      exact (KB.i (by omega)).trans (KB.l (by omega))
    have a1 : qAt m1 Q 0 1 s r lo hi sc := by
      obtain ⟨x1, x2, x3, x4, x5, x6, x7⟩ := a.st 1
      rw [← hm1]
      refine ⟨x1, x2, x3, x4, ?_, ?_, ?_⟩
      · rw [gL_2, if_neg (by omega)]; exact x5
      · rw [gL_2, if_neg (by omega)]; exact x6
      · rw [gL_2, if_neg (by omega)]; exact x7
    have Q1 := hQS.k k1
    have f64 : m1.1 62 64 = nI (Q + 1) := by rw [← hm1]; simpa [gI_1, gL_1] using h64
    have f66 : m1.1 62 66 = m.1 62 66 := by rw [← hm1]; simp [gI_1, gL_1]
    have f67 : m1.1 62 67 = m.1 62 67 := by rw [← hm1]; simp [gI_1, gL_1]
    obtain ⟨m2, e1, e2, e3, e4, e5, e6, e7, e8⟩ := s_ask (r := r) (s := s) (kd := 1) (lo := lo) (hi := hi) (sc := sc) Q1 (show Q + 1 < 8000 by omega) f64
    have e : ∀ F, 5000 ≤ F → f_X8_visible gSH F 62 (nI Q) m = some m2 := by
      intro F hF
      rw [un F hF]
      unfold b_X8_visible_46
      rw [if_pos h0, ob_62, g_ift, p55, g_bs, show aB gSH 95 .int (nI Q) = true from i8, g_ift, cl, g_nmb, g_nmb, if_pos (rfl : (0 : Int32) = 0), hm1]
      obtain ⟨-, -, -, -, -, -, v54, v55, v56, v57, v58, v59, v60, -⟩ := id Q1
      rw [v57, g_bs, show aB gSH 97 .int (nI Q) = true from i8, g_ift, v58, g_bs, show aB gSH 98 .long (nI Q) = true from i8, g_ift, v59, g_bs, show aB gSH 99 .long (nI Q) = true from i8, g_ift, v60, g_bs, show aB gSH 100 .long (nI Q) = true from i8, g_ift, a1.2.2.2.1, a1.2.2.2.2.1, a1.2.2.2.2.2.1, a1.2.2.2.2.2.2, e1, g_bs]
    have r1 : qRn 1 m m2 := q_step hQS (by omega) h64 (Or.inl ⟨a.1, e⟩)
    have k12 : KB Q m m2 := k1.trans (e5.mono (by omega))
    obtain ⟨m3, c1, c2, c3, c4, c5, c6⟩ := hI S s hs Ss m2 (Q + 1) lo hi sc ⟨hQS.k k12, by omega, by rw [e8, f67]; exact h67, e2⟩ g gs e3 e4
    have k3 : KB Q m m3 := k12.trans (c2.mono (by omega))
    have a3 : qAt m3 Q 0 1 s r lo hi sc := (a1.k e5 (by omega)).k c2 (by omega)
    have Q3 := hQS.k k3
    have g66 : m3.1 62 66 = m.1 62 66 := by rw [c5, e7, f66]
    have g67 : m3.1 62 67 = m.1 62 67 := by rw [c6, e8, f67]
    have r13 := r1.trans c1
    have c4' : ∀ d, bm (m3.2.1 62 65) d = true ↔ mF q nk E r s d := fun d => (c4 d).trans (fI d).symm
    have un3 : ∀ F, 5000 ≤ F → f_X8_visible gSH F 62 (nI Q) m3 = if m3.2.1 62 65 = 0 ∧ q 1 s ≠ 0 then some (gsI (gsI (gsI (gsL m3 100 Q (sc ||| bl s)) 96 Q (nI (q 1 s - 1))) 95 Q 0) 62 66 (m3.1 62 66 + (if Q = 0 then 1 else 0))) else some (gsI (gsL m3 62 65 (m3.2.1 62 65)) 62 64 (nI Q)) := by
      intro F hF
      obtain ⟨-, t66, -, -, -, v6, v54, v55, v56, v57, v58, v59, v60, -⟩ := id Q3
      have par := t66 s hs
      have pl := (hq.1.2.1 s hs).1
      have e151 : b_X8_visible_151 gSH F 62 m3 = some (gsI (gsL m3 62 65 (m3.2.1 62 65)) 62 64 (nI Q)) := by
        unfold b_X8_visible_151
        rw [ob_62, g_ift, s_says c3, g_bs]
      unfold f_X8_visible
      rw [ob_62, g_ift, v56, g_bs, show aB gSH 96 .int (nI Q) = true from i8, g_ift, cl, a3.2.2.1, g_nmb, v60, g_bs, show aB gSH 100 .long (nI Q) = true from i8, g_ift, a3.2.2.2.2.2.2, s_has (by omega), g_bs, g_nmb, g_nmb, su, v55, g_bs, show aB gSH 95 .int (nI Q) = true from i8, g_ift, a3.2.1, if_neg one0, if_neg Bool.false_ne_true, if_pos (rfl : (0 : Int32) = 0), e151, v6.1, g_bs, show aB gSH 66 .int (nI s) = true from g_inI (N := 65) (by omega) (by decide), g_ift, nI_clamp (by omega), par]
      dsimp only
      by_cases z0 : m3.2.1 62 65 = 0
      rotate_left
      · rw [if_neg z0, if_neg (fun z => z0 z.1)]
      rw [if_pos z0]
      by_cases zp : q 1 s = 0
      · rw [zp, if_neg (show ¬ (0 : Int32) ≤ nI 0 - 1 by decide), if_neg (fun z => z.2 rfl)]
      · rw [if_pos (show (0 : Int32) ≤ nI (q 1 s) - 1 by rw [nI_p1 (by omega)]; exact nI_pos' (by omega)), if_pos ⟨z0, zp⟩, v60, g_bs, show aB gSH 100 .long (nI Q) = true from i8, g_ift, g_ift, g_nmb, a3.2.2.2.2.2.2, show (1 : Int64) <<< ((nI s).toInt64 &&& 63) = bl s from rfl]
        rw [show (gsL m3 100 Q (sc ||| bl s)).2.2 62 56 = some 96 from v56, g_bs, show (gsL m3 100 Q (sc ||| bl s)).2.2 62 8 = some 66 from v6.1, g_bs, show aB gSH 66 .int (nI s) = true from g_inI (N := 65) (by omega) (by decide), g_ift, show aB gSH 96 .int (nI Q) = true from i8, g_ift, g_nmb, show (gsL m3 100 Q (sc ||| bl s)).1 66 s = nI (q 1 s) - 1 from par, nI_p1 (by omega), show (gsI (gsL m3 100 Q (sc ||| bl s)) 96 Q (nI (q 1 s - 1))).2.2 62 55 = some 95 from v55, g_bs, show aB gSH 95 .int (nI Q) = true from i8, g_ift, g_nmb]
        unfold b_X8_visible_205
        rw [ob_62, g_ift, g_nmb, g_ift, g_nmb]
        have e66 : (gsI (gsI (gsL m3 100 Q (sc ||| bl s)) 96 Q (nI (q 1 s - 1))) 95 Q 0).1 62 66 = m3.1 62 66 := by simp [gI_1, gL_1]
        rw [e66]
        by_cases c : Q = 0
        · rw [if_pos (show nI Q = 0 by rw [c]; rfl), if_pos c]
        · rw [if_neg (nI_ne0 (by omega) (by omega)), if_neg c]
    by_cases zz : m3.2.1 62 65 = 0 ∧ q 1 s ≠ 0
    · -- one level up
      replace un3 := fun F hF => (un3 F hF).trans (if_pos zz)
      have r3 := q_step Q3 (show Q < 8000 by omega) c3 (Or.inl ⟨a3.1, un3⟩)
      have noF : ∀ d, ¬ mF q nk E r s d := fun d hd => by
        have := (c4' d).mpr hd
        rw [zz.1, bm_0] at this
        cases this
      have pl := (hq.1.2.1 s hs).1
      generalize hm4 : gsI (gsI (gsI (gsL m3 100 Q (sc ||| bl s)) 96 Q (nI (q 1 s - 1))) 95 Q 0) 62 66 (m3.1 62 66 + (if Q = 0 then 1 else 0)) = m4 at un3 r3
      have k4 : KB Q m3 m4 := by
        rw [← hm4]
        exact (((KB.l (by omega)).trans (KB.i (by omega))).trans (KB.i (by omega))).trans (KB.i (by omega))
      have a4 : qAt m4 Q 0 0 (q 1 s - 1) r lo hi (sc ||| bl s) := by
        obtain ⟨x1, x2, x3, x4, x5, x6, x7⟩ := a3
        rw [← hm4]
        refine ⟨by simpa [gI_1, gL_1] using x1, by simp [gI_1, gL_1], by simp [gI_1, gL_1], by simpa [gI_1, gL_1] using x4, ?_, ?_, ?_⟩
        · simpa [gI_2, gL_2] using x5
        · simpa [gI_2, gL_2] using x6
        · simp [gI_2, gL_2]
      have h64' : m4.1 62 64 = nI (Q + 1) := by rw [← hm4]; simpa [gI_1, gL_1] using c3
      have h67' : m4.1 62 67 = m.1 62 67 := by rw [← hm4]; simpa [gI_1, gL_1] using g67
      have h66' : m4.1 62 66 = m.1 62 66 + (if Q = 0 then 1 else 0) := by rw [← hm4, ← g66]; simp [gI_1, gL_1]
      obtain ⟨m5, z1, z2, z3, z4, z5, z6, z7⟩ := ih (q 1 s - 1) m4 (sc ||| bl s) (mI S s) (v + 1) (by omega) (by omega) (ok.k (k3.trans k4) h64' h67') a4 (gs.ins (by omega)) (fun x hx => by
        rcases mI_t.mp hx with h | h
        · omega
        · have := hS1 x h
          omega) (fun x d hx => by
        rcases mI_t.mp hx with h | h
        · rw [h]
          exact noF d
        · exact hS2 x d h) (fun hQ => by
        rw [h66', hv hQ, if_pos hQ, nI_1])
      have up : ∀ d, mC q nk E r s d ↔ mC q nk E r (q 1 s - 1) d := fun d => by
        constructor
        · rintro ⟨j, h⟩
          cases j with
          | zero => exact absurd h (noF d)
          | succ j => exact ⟨j, h.2.2⟩
        · rintro ⟨j, h⟩
          exact ⟨j + 1, noF, zz.2, h⟩
      refine ⟨m5, ((r13.trans r3).trans z1).mono (by rw [Nat.succ_mul]; omega), (k3.trans k4).trans z2, z3, fun d => (z4 d).trans (up d).symm, fun hQ => ?_, fun hQ => ?_, z7⟩
      · obtain ⟨t1, t2⟩ := z5 hQ
        refine ⟨?_, t2.trans h67'⟩
        rw [t1, h66', if_neg (by omega), Int32.add_zero]
      · obtain ⟨j, t1, t2⟩ := z6 hQ
        refine ⟨j + 1, by rw [t1]; congr 1; omega, fun ⟨d, hd⟩ => ?_⟩
        obtain ⟨⟨d', b1⟩, b2, b3⟩ := t2 ⟨d, (up d).mp hd⟩
        exact ⟨⟨d', noF, zz.2, b1⟩, b2, fun hn => (b3 hn).trans h67'⟩
    · replace un3 := fun F hF => (un3 F hF).trans (if_neg zz)
      have r3 := q_step Q3 (show Q < 8000 by omega) c3 (Or.inl ⟨a3.1, un3⟩)
      have mCF : ∀ d, mC q nk E r s d ↔ mF q nk E r s d := fun d => by
        constructor
        · rintro ⟨j, h⟩
          cases j with
          | zero => exact h
          | succ j =>
            have hz : m3.2.1 62 65 = 0 := by
              apply bm_ext
              intro x _
              rw [bm_0]
              cases ex : bm (m3.2.1 62 65) x with
              | false => rfl
              | true => exact absurd ((c4' x).mp ex) (h.1 x)
            exact absurd ⟨hz, h.2.1⟩ zz
        · intro h
          exact ⟨0, h⟩
      refine ⟨_, (r13.trans r3).mono (by rw [Nat.succ_mul]; omega), k3.trans ((KB.l (by omega)).trans (KB.i (by omega))), by simp [gI_1], fun d => ?_, fun hQ => ⟨?_, ?_⟩, fun hQ => ⟨0, ?_, fun ⟨d, hd⟩ => ⟨⟨d, (mCF d).mp hd⟩, fun ⟨d', hd'⟩ => absurd hd' (hno d'), fun _ => ?_⟩⟩, by rw [← g67] at h67; simpa [gI_1, gL_1] using h67⟩
      · rw [mCF d, ← c4' d]
        simp [gI_2, gL_2]
      · simpa [gI_1, gL_1] using g66
      · simpa [gI_1, gL_1] using g67
      · have := hv hQ
        rw [← g66] at this
        simpa [gI_1, gL_1] using this
      · simpa [gI_1, gL_1] using g67
end QST
