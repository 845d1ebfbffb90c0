/-! THE CLASS'S RESOLVER: what a reference means -/
def anc (q : Nat → Nat → Nat) : Nat → Nat → Nat
  | 0, s => s
  | k + 1, s => anc q k (q 1 s - 1)
/-- only places 3 and 4 of the resolver change -/
def K60 (m m' : gM) : Prop := (∀ k, k ≠ 60 → m'.1 k = m.1 k) ∧ (∀ j, j ≠ 3 → j ≠ 4 → m'.1 60 j = m.1 60 j) ∧ m'.2 = m.2
theorem K60.refl (m : gM) : K60 m m := ⟨fun _ _ => rfl, fun _ _ _ => rfl, rfl⟩
theorem K60.trans {a b c : gM} (h : K60 a b) (k : K60 b c) : K60 a c := ⟨fun i hi => (k.1 i hi).trans (h.1 i hi), fun j h1 h2 => (k.2.1 j h1 h2).trans (h.2.1 j h1 h2), k.2.2.trans h.2.2⟩
theorem K60.s {m m' : gM} {j : Nat} {v : Int32} (h : K60 m m') (hj : j = 3 ∨ j = 4) : K60 m (gsI m' 60 j v) := ⟨fun k hk => by
    rw [gsI_ne hk]
    exact h.1 k hk, fun i h1 h2 => by
    rw [gI_1, if_neg (by omega)]
    exact h.2.1 i h1 h2, h.2.2⟩
section RES
variable {pg mn F r : Nat} {m m' : gM} {q : Nat → Nat → Nat} {S : Nat → Nat} {H L : Nat → Int64} {nk : Nat → Nat → Bool}
theorem CPr.k60 (h : CPr pg m q S H L) (hpg : pg = 5 ∨ pg = 25) (k : K60 m m') : CPr pg m' q S H L := h.keep (fun c hc => ⟨k.1 c (by omega), by rw [k.2.2], by rw [k.2.2]⟩)
theorem BRT.k60 {b : Nat} (h : BRT q nk m b) (k : K60 m m') : BRT q nk m' b := by
  unfold BRT
  rw [k.2.2]
  exact h
theorem Rz.k60 (h : Rz m pg mn) (k : K60 m m') : Rz m' pg mn := by
  unfold Rz
  rw [k.2.2]
  exact h
/-- a climb out of scope s -/
theorem s_climb (hpg : pg = 5 ∨ pg = 25) (hq : mQ q) (hF : 5000 ≤ F) {b : Nat} (hb : b < 64) {nm' : Int64} (hn : ∀ d, bm nm' d = true ↔ d < q 0 1 ∧ nk r d = true) : ∀ (k N lv s : Nat) (m : gM), s < k → lv + k ≤ 64 → k < N → s < q 0 0 → PR m.2.2 pg → Rz m pg mn → CPr pg m q S H L → BRT q nk m b →
    ∃ R m', l_X4_means_71 gSH F N 60 (nI b) nm' (nI s) (nI lv) m = some (R, m') ∧ K60 m m' ∧ (∀ d, bm R d = true ↔ mC q nk (mEc q nk b.testBit) r s d) ∧ (R = 0 → m' = m) ∧ (R ≠ 0 → ∃ j d, mCn q nk (mEc q nk b.testBit) r j s d ∧ m'.1 60 3 = nI (lv + j) ∧ m'.1 60 4 = nI (anc q j s) ∧ anc q j s < q 0 0) := by
  obtain ⟨o1, o2, o3, b2, b3, b4, b5, b7, b8, b9, b10, b11, b12, b13, b14, b15, b16, b17, b18, b19, l3, l8⟩ := gP hpg
  have l0 := hq.1.1.2.1
  intro k
  induction k with
  | zero => intro N lv s m h; omega
  | succ k ih =>
    intro N lv s m hs hlv hN hsS P z h hB
    obtain ⟨N, rfl⟩ : ∃ N', N = N' + 1 := ⟨N - 1, by omega⟩
    have hsc : ∀ x, bm (bl s) x = true → x < q 0 0 := fun x hx => by
      rw [bm_bl (by omega), decide_eq_true_eq] at hx
      omega
    obtain ⟨R, g1, g2⟩ := s_local (F := F) hpg P z h hq hF hb hB hn hsc
    have g3 : ∀ d, bm R d = true ↔ mF q nk (mEc q nk b.testBit) r s d := fun d => by
      rw [g2]
      constructor
      · rintro ⟨x, hx, hf⟩
        rw [bm_bl (by omega), decide_eq_true_eq] at hx
        rw [← hx]
        exact hf
      · intro hf
        exact ⟨s, by rw [bm_bl (by omega)]; simp, hf⟩
    have r2 := P.2.2.1
    have par := (h.2.1 s hsS).1
    have pl := (hq.1.2.1 s hsS).1
    have e : l_X4_means_71 gSH F (N + 1) 60 (nI b) nm' (nI s) (nI lv) m = if R = 0 then l_X4_means_71 gSH F N 60 (nI b) nm' (nI (q 1 s) - 1) (nI (lv + 1)) m else some (R, gsI (gsI m 60 3 (nI lv)) 60 4 (nI s)) := by
      show b_X4_means_71 gSH F (l_X4_means_71 gSH F N) 60 (nI b) nm' (nI s) (nI lv) m = _
      unfold b_X4_means_71
      rw [if_neg (show ¬ (64 : Int32) ≤ nI lv from nI_ge (b := 64) (by omega) (by decide)), if_neg (nI_pos (by omega)), ob_60, g_ift, show (1 : Int64) <<< ((nI s).toInt64 &&& 63) = bl s from rfl, g1, g_bs, g_nmb, g_nmb, z.2.1, g_bs, o1, g_ift, r2, g_bs, b11, g_inI (by omega) (by decide), g_ift, nI_clamp (by omega), par, g_nmb, g_nmb, nI_a1, g_nmb, g_nmb]
    rw [e]
    by_cases hR : R = 0
    · rw [if_pos hR]
      have noF : ∀ d, ¬ mF q nk (mEc q nk b.testBit) r s d := fun d hf => by
        have := (g3 d).mpr hf
        rw [hR, bm_0] at this
        cases this
      by_cases p0 : q 1 s = 0
      · refine ⟨0, m, ?_, K60.refl m, fun d => ⟨fun h => ?_, fun ⟨j, h⟩ => ?_⟩, fun _ => rfl, fun h => absurd rfl h⟩
        · obtain ⟨N, rfl⟩ : ∃ N', N = N' + 1 := ⟨N - 1, by omega⟩
          show b_X4_means_71 gSH F (l_X4_means_71 gSH F N) 60 (nI b) nm' (nI (q 1 s) - 1) (nI (lv + 1)) m = _
          unfold b_X4_means_71
          rw [p0, if_pos (show nI 0 - 1 < 0 by decide), ite_self]
        · rw [bm_0] at h
          cases h
        · cases j with
          | zero => exact absurd h (noF d)
          | succ j => exact absurd p0 h.2.1
      · rw [nI_p1 (by omega)]
        obtain ⟨R', m', a1, a2, a3, a4, a5⟩ := ih N (lv + 1) (q 1 s - 1) m (by omega) (by omega) (by omega) (by omega) P z h hB
        refine ⟨R', m', a1, a2, fun d => ?_, a4, fun hne => ?_⟩
        · rw [a3]
          constructor
          · rintro ⟨j, h⟩
            exact ⟨j + 1, noF, p0, h⟩
          · rintro ⟨j, h⟩
            cases j with
            | zero => exact absurd h (noF d)
            | succ j => exact ⟨j, h.2.2⟩
        · obtain ⟨j, d, c1, c2, c3, c4⟩ := a5 hne
          exact ⟨j + 1, d, ⟨noF, p0, c1⟩, by rw [c2]; congr 1; omega, c3, c4⟩
    · rw [if_neg hR]
      obtain ⟨d0, -, hd0, -⟩ := bm_ne hR
      have f0 := (g3 d0).mp hd0
      refine ⟨R, _, rfl, ((K60.refl m).s (Or.inl rfl)).s (Or.inr rfl), fun d => ⟨fun h => ⟨0, (g3 d).mp h⟩, fun ⟨j, h⟩ => ?_⟩, fun h => absurd h hR, fun _ => ⟨0, d0, f0, by simp [gI_1], by simp [gI_1, anc], hsS⟩⟩
      cases j with
      | zero => exact (g3 d).mpr h
      | succ j => exact absurd f0 (h.1 d0)
/-- the class's means -/
theorem s_means (hpg : pg = 5 ∨ pg = 25) (hmn : mn = 45 ∨ mn = 50) (hq : mQ q) (hF : 5000 ≤ F) {b : Nat} (hb : b < 64) (P : PR m.2.2 pg) (z : Rz m pg mn) (hm0 : m.2.2 mn 0 = some (mn + 1)) (h : CPr pg m q S H L) (hB : BRT q nk m b) (hr : r < q 0 2) (hn : m.2.1 (mn + 1) r = bs (q 0 1) (nk r)) (ok : mOk q b.testBit r) {bef : Int64} (hbf : q 2 (q 6 r) = 6 → ∀ d, bm bef d = true ↔ mB q nk b.testBit (r - 1) d) :
    ∃ R m', f_X4_means gSH F 60 (nI r) bef (nI b) m = some (R, m') ∧ K60 m m' ∧ (∀ d, bm R d = true ↔ mB q nk b.testBit r d) ∧ ∃ j, j < 64 ∧ m'.1 60 3 = nI j ∧ m'.1 60 4 = nI (anc q j (q 6 r)) ∧ anc q j (q 6 r) < q 0 0 ∧ (R = 0 → j = 0) ∧ (R ≠ 0 → (q 2 (q 6 r) = 6 → j = 0) ∧ (q 2 (q 6 r) ≠ 6 → ∃ d, mCn q nk (mEc q nk b.testBit) r j (q 6 r) d)) := by
  obtain ⟨o1, o2, o3, b2, b3, b4, b5, b7, b8, b9, b10, b11, b12, b13, b14, b15, b16, b17, b18, b19, l3, l8⟩ := gP hpg
  obtain ⟨r0, r1, r2, r3, r4, r5, r6, r7, r8, r9, r10, d0, d1, d2, d3, e0, e1, e2, e3⟩ := id P
  have l0 := hq.1.1.2.1
  have l1 := hq.1.1.2.2.1
  have l2 := hq.1.1.2.2.2.1
  have sc := (h.2.2.2.1 r hr).1
  have sl := (hq.1.2.2.2.1 r hr).1
  have kd := (h.2.1 (q 6 r) sl).2.1
  have kl := (hq.1.2.1 (q 6 r) sl).2
  have om : oB gSH mn 1 = true := by rcases hmn with rfl | rfl <;> decide +kernel
  have bmn : ∀ x, aB gSH (mn + 1) .long x = inB x 100 := by
    rcases hmn with rfl | rfl
    · exact fun x => rfl
    · exact fun x => rfl
  have hn' : ∀ d, bm (bs (q 0 1) (nk r)) d = true ↔ d < q 0 1 ∧ nk r d = true := fun d => by
    rw [bm_bs (by omega)]
    simp
  have K1 : K60 m (gsI (gsI m 60 3 0) 60 4 (nI (q 6 r))) := ((K60.refl m).s (Or.inl rfl)).s (Or.inr rfl)
  have kd' : (gsI (gsI m 60 3 0) 60 4 (nI (q 6 r))).1 (pg + 12) (q 6 r) = nI (q 2 (q 6 r)) := by
    rw [K1.1 (pg + 12) (by omega)]
    exact kd
  have v3 : (gsI (gsI m 60 3 0) 60 4 (nI (q 6 r))).1 60 3 = nI 0 := by simp [gI_1]; rfl
  have v4 : (gsI (gsI m 60 3 0) 60 4 (nI (q 6 r))).1 60 4 = nI (q 6 r) := by simp [gI_1]
  unfold f_X4_means
  rw [ob_60, g_ift, z.2.2, g_bs, om, g_ift, hm0, g_bs, bmn, g_inI (by omega) (by decide), g_ift, nI_clamp (by omega), hn, g_nmb, z.2.1, g_bs, o1, g_ift, r1, g_bs, o3, g_ift, e0, g_bs, b7, g_inI (by omega) (by decide), g_ift, sc, g_nmb, g_nmb, g_nmb]
  generalize gsI (gsI m 60 3 0) 60 4 (nI (q 6 r)) = m1 at K1 kd' v3 v4
  have P1 : PR m1.2.2 pg := by rw [K1.2.2]; exact P
  have z1 := z.k60 K1
  have h1 := h.k60 hpg K1
  have B1 := hB.k60 K1
  rw [z1.2.1, g_bs, o1, g_ift, P1.2.2.2.1, g_bs, b12, g_inI (by omega) (by decide), g_ift, nI_clamp (by omega), kd']
  by_cases hL : q 2 (q 6 r) = 6
  · rw [if_pos (show nI (q 2 (q 6 r)) = 6 by rw [hL]; rfl), g_bs, o1, g_ift]
    obtain ⟨R, g1, g2⟩ := s_ownedBy (F := F) hpg P1 h1 hq.1 hF (x := bef) (fun d hd => mM_d ((hbf hL d).mp hd))
    rw [g1, g_bs, g_nmb, g_nmb]
    have hsc : ∀ s, bm R s = true → s < q 0 0 := fun s hs => by
      have s64 : s < 64 := by
        by_cases c : s < 64
        · exact c
        · rw [bm_64 (by omega)] at hs
          cases hs
      obtain ⟨d, h1, h2⟩ := (g2 s s64).mp hs
      have := (hq.1.2.2.1 d (mM_d ((hbf hL d).mp h1))).2
      omega
    obtain ⟨R', c1, c2⟩ := s_local (F := F) hpg P1 z1 h1 hq hF hb B1 hn' hsc
    rw [c1, g_bs, g_nmb, g_nmb]
    refine ⟨R', m1, rfl, K1, fun d => ?_, 0, by decide, v3, v4, sl, fun _ => rfl, fun _ => ⟨fun _ => rfl, fun h => absurd hL h⟩⟩
    rw [c2, mB_2 hq hr ok hL]
    constructor
    · rintro ⟨s, hs, hf⟩
      have := hsc s hs
      obtain ⟨d', h1, h2⟩ := (g2 s (by omega)).mp hs
      exact ⟨d', s, (hbf hL d').mp h1, h2, hf⟩
    · rintro ⟨d', u, h1, h2, hf⟩
      have ul := (hq.1.2.2.1 d' (mM_d h1)).2
      exact ⟨u, (g2 u (by omega)).mpr ⟨d', (hbf hL d').mpr h1, h2⟩, hf⟩
  · rw [if_neg (show ¬ nI (q 2 (q 6 r)) = 6 from fun e => hL ((k_lit (v := 6) (by omega) (by decide)).mp e))]
    obtain ⟨R, m', a1, a2, a3, a4, a5⟩ := s_climb (F := F) (mn := mn) (S := S) (H := H) (L := L) hpg hq hF hb hn' 64 F 0 (q 6 r) m1 (by omega) (by omega) (by omega) sl P1 z1 h1 B1
    refine ⟨R, m', a1, K1.trans a2, fun d => ?_, ?_⟩
    · rw [a3, mB_1 hq hr ok hL]
    · by_cases hR : R = 0
      · rw [a4 hR]
        exact ⟨0, by decide, v3, v4, sl, fun _ => rfl, fun h => absurd hR h⟩
      · obtain ⟨j, d, c1, c2, c3, c4⟩ := a5 hR
        have jl : j < 64 := by
          have key : ∀ j s, mCn q nk (mEc q nk b.testBit) r j s d → s < q 0 0 → j ≤ s := by
            intro j
            induction j with
            | zero => intro s _ _; omega
            | succ j ih =>
              rintro s ⟨-, p0, p⟩ hs
              have := (hq.1.2.1 s hs).1
              have := ih _ p (by omega)
              omega
          have := key j _ c1 sl
          omega
        rw [Nat.zero_add] at c2
        exact ⟨j, jl, c2, c3, c4, fun h => absurd h hR, fun _ => ⟨fun h => absurd h hL, fun _ => ⟨d, c1⟩⟩⟩
end RES
