/-! THE CLASS'S RESOLVER: all references -/
/-- what resolve may change -/
def KRz (mn : Nat) (m m' : gM) : Prop := (∀ c, c ≠ 60 → c ≠ mn + 3 → c ≠ mn + 4 → m'.1 c = m.1 c) ∧ (∀ j, j ≠ 3 → j ≠ 4 → m'.1 60 j = m.1 60 j) ∧ (∀ c, c ≠ 61 → c ≠ mn + 2 → m'.2.1 c = m.2.1 c) ∧ m'.2.2 = m.2.2
theorem KRz.refl {mn : Nat} (m : gM) : KRz mn m m := ⟨fun _ _ _ _ => rfl, fun _ _ _ => rfl, fun _ _ _ => rfl, rfl⟩
theorem KRz.trans {mn : Nat} {a b c : gM} (h : KRz mn a b) (k : KRz mn b c) : KRz mn a c := ⟨fun i h1 h2 h3 => (k.1 i h1 h2 h3).trans (h.1 i h1 h2 h3), fun j h1 h2 => (k.2.1 j h1 h2).trans (h.2.1 j h1 h2), fun i h1 h2 => (k.2.2.1 i h1 h2).trans (h.2.2.1 i h1 h2), k.2.2.2.trans h.2.2.2⟩
theorem KRz.of60 {mn : Nat} {m m' : gM} (h : K60 m m') : KRz mn m m' := ⟨fun c h1 _ _ => h.1 c h1, h.2.1, fun c _ _ => by rw [h.2.2], by rw [h.2.2]⟩
theorem KRz.l {mn c j : Nat} {m : gM} {v : Int64} (h : c = 61 ∨ c = mn + 2) : KRz mn m (gsL m c j v) := ⟨fun _ _ _ _ => rfl, fun _ _ _ => rfl, fun a h1 h2 => gsL_ne (by omega), rfl⟩
theorem KRz.i {mn c j : Nat} {m : gM} {v : Int32} (hc : c ≠ 60) (h : c = mn + 3 ∨ c = mn + 4) : KRz mn m (gsI m c j v) := ⟨fun a h1 h2 h3 => gsI_ne (by omega), fun i _ _ => by rw [gI_1, if_neg (by omega)], fun _ _ _ => rfl, rfl⟩
section RES
variable {pg mn F r : Nat} {m m' : gM} {q : Nat → Nat → Nat} {S : Nat → Nat} {H L : Nat → Int64} {nk : Nat → Nat → Bool}
theorem CPr.krz (h : CPr pg m q S H L) (hpg : pg = 5 ∨ pg = 25) (hmn : mn = 45 ∨ mn = 50) (k : KRz mn m m') : CPr pg m' q S H L := h.keep (fun c hc => ⟨k.1 c (by omega) (by omega) (by omega), k.2.2.1 c (by omega) (by omega), by rw [k.2.2.2]⟩)
theorem Rz.krz (h : Rz m pg mn) (k : KRz mn m m') : Rz m' pg mn := by
  unfold Rz
  rw [k.2.2.2]
  exact h
/-- the resolver at work: its references, the program, the names, what the meaning's rows are -/
def RzA (pg mn : Nat) (q : Nat → Nat → Nat) (S : Nat → Nat) (H L : Nat → Int64) (nk : Nat → Nat → Bool) (m : gM) : Prop := PR m.2.2 pg ∧ Rz m pg mn ∧ (m.2.2 mn 0 = some (mn + 1) ∧ m.2.2 mn 1 = some (mn + 2) ∧ m.2.2 mn 2 = some (mn + 3) ∧ m.2.2 mn 3 = some (mn + 4)) ∧ CPr pg m q S H L ∧ ∀ r, r < q 0 2 → m.2.1 (mn + 1) r = bs (q 0 1) (nk r)
theorem RzA.k (h : RzA pg mn q S H L nk m) (hpg : pg = 5 ∨ pg = 25) (hmn : mn = 45 ∨ mn = 50) (k : KRz mn m m') : RzA pg mn q S H L nk m' := by
  obtain ⟨h1, h2, h3, h4, h5⟩ := h
  exact ⟨by rw [k.2.2.2]; exact h1, h2.krz k, by rw [k.2.2.2]; exact h3, h4.krz hpg hmn k, fun r hr => by rw [k.2.2.1 (mn + 1) (by omega) (by omega)]; exact h5 r hr⟩
theorem tb_or (b i : Nat) : (b ||| 2 ^ i).testBit = mI b.testBit i := by
  funext j
  rw [Nat.testBit_or, Nat.testBit_two_pow]
  unfold mI
  by_cases c : i = j
  · subst c
    simp
  · have : ¬ j = i := fun e => c e.symm
    simp [c, this]
theorem or_lt {b i n : Nat} (hb : b < 2 ^ n) (hi : i < n) : b ||| 2 ^ i < 2 ^ n := Nat.or_lt_two_pow hb (Nat.pow_lt_pow_right (by decide) hi)
theorem or_gt {b i : Nat} (h : b.testBit i = false) : b < b ||| 2 ^ i := by
  have h1 : b ≤ b ||| 2 ^ i := Nat.left_le_or
  have h2 : b ≠ b ||| 2 ^ i := fun e => by
    have : (b ||| 2 ^ i).testBit i = true := by rw [tb_or, mI_t]; exact Or.inl rfl
    rw [← e, h] at this
    cases this
  omega
theorem nI_or1 {b i : Nat} (hb : b < 64) (hi : i < 6) : nI b ||| ((1 : Int32) <<< (nI i &&& 31)) = nI (b ||| 2 ^ i) := by
  have l := or_lt (n := 6) (i := i) hb hi
  apply cm_ext
  intro d hd
  rw [cm_or, cm_nI (by omega), cm_nI (by omega), tb_or]
  have e := cm_bl (n := i) (by omega) d
  unfold bl32 at e
  rw [e]
  unfold mI
  rw [Bool.or_comm]
/-- the references of one statement -/
theorem s_chain (hpg : pg = 5 ∨ pg = 25) (hmn : mn = 45 ∨ mn = 50) (hq : mQ q) (hF : 5000 ≤ F) {b i : Nat} (hb : b < 2 ^ q 0 3) (hi : i < q 0 3) (hbi : b.testBit i = false) {k2 : Nat → Int32 → Int32 → gM → Option gM} : ∀ (k N r : Nat) (fo : Int64) (m : gM), r + k = q 14 i + 1 → k < N → q 13 i ≤ r → RzA pg mn q S H L nk m → BRT q nk m (b ||| 2 ^ i) → (q 13 i < r → ∀ d, bm fo d = true ↔ mB q nk (mI b.testBit i) (r - 1) d) →
    ∃ m' R, l_X4_followStatements_34 gSH F k2 N 60 (nI b) (nI i) fo (nI r) m = b_X4_followStatements_86 gSH F k2 60 (nI b) (nI i) (gsL m' 61 (b * 6 + i) R) ∧ K60 m m' ∧ ∀ u, u < 64 → (bm R u = true ↔ ∃ d, mB q nk (mI b.testBit i) (q 14 i) d ∧ q 5 d = u + 1) := by
  obtain ⟨o1, o2, o3, b2, b3, b4, b5, b7, b8, b9, b10, b11, b12, b13, b14, b15, b16, b17, b18, b19, l3, l8⟩ := gP hpg
  have l2 := hq.1.1.2.2.2.1
  have li := hq.1.1.2.2.2.2.1
  have s6 := hq.1.2.2.2.2.2 i hi
  have gg := hq.2.2.2.1 i hi
  have b64 : b < 64 := Nat.lt_of_lt_of_le hb (Nat.pow_le_pow_right (n := 2) (by decide) (show q 0 3 ≤ 6 from li))
  have o64 : b ||| 2 ^ i < 64 := or_lt (n := 6) b64 (by omega)
  intro k
  induction k with
  | zero =>
    intro N r fo m hk hN hr A hB hfo
    obtain ⟨N, rfl⟩ : ∃ N', N = N' + 1 := ⟨N - 1, by omega⟩
    obtain ⟨P, z, mr, C, hn⟩ := A
    have hfo' := hfo (by omega)
    rw [show r - 1 = q 14 i by omega] at hfo'
    obtain ⟨R, g1, g2⟩ := s_ownedBy (F := F) hpg P C hq.1 hF (x := fo) (fun d hd => mM_d ((hfo' d).mp hd))
    refine ⟨m, R, ?_, K60.refl m, fun u hu => ?_⟩
    · show b_X4_followStatements_34 gSH F k2 (l_X4_followStatements_34 gSH F k2 N) 60 (nI b) (nI i) fo (nI r) m = _
      unfold b_X4_followStatements_34
      rw [ob_60, g_ift, z.2.1, g_bs, o1, g_ift, P.2.2.2.2.2.2.2.2.2.2.1, g_bs, b19, g_inI (by omega) (by decide), g_ift, nI_clamp (by omega), (C.2.2.2.2 i hi).2, if_pos (nI_lt (by omega) (by omega)), z.1, g_bs, g_bs, o1, g_ift, g1, g_bs, g_nmb, g_nmb, show nI b * (6 : Int32) + nI i = nI (b * 6 + i) by rw [show (6 : Int32) = nI 6 from rfl, pk_mul, nI_add], show aB gSH 61 .long (nI (b * 6 + i)) = true from g_inI (N := 384) (by omega) (by decide), g_ift, nI_clamp (by omega), g_nmb]
    · rw [g2 u hu]
      constructor
      · rintro ⟨d, h1, h2⟩
        exact ⟨d, (hfo' d).mp h1, h2⟩
      · rintro ⟨d, h1, h2⟩
        exact ⟨d, (hfo' d).mpr h1, h2⟩
  | succ k ih =>
    intro N r fo m hk hN hr A hB hfo
    obtain ⟨N, rfl⟩ : ∃ N', N = N' + 1 := ⟨N - 1, by omega⟩
    obtain ⟨P, z, mr, C, hn⟩ := id A
    have st : q 15 r = i + 1 := (gg.2.2.2.1 r (by omega)).mpr ⟨hr, by omega⟩
    have ok : mOk q (b ||| 2 ^ i).testBit r := fun j hj => by
      rw [tb_or, mI_t]
      exact Or.inl (by omega)
    obtain ⟨R, m1, a1, a2, a3, -⟩ := s_means (F := F) (bef := fo) hpg hmn hq hF o64 P z mr.1 C hB (by omega) (hn r (by omega)) ok (fun hL d => by
      rw [tb_or]
      refine hfo ?_ d
      by_cases c : q 13 i = r
      · rw [← c] at hL
        exact absurd hL gg.2.2.1
      · omega)
    have e : l_X4_followStatements_34 gSH F k2 (N + 1) 60 (nI b) (nI i) fo (nI r) m = l_X4_followStatements_34 gSH F k2 N 60 (nI b) (nI i) R (nI (r + 1)) m1 := by
      show b_X4_followStatements_34 gSH F k2 (l_X4_followStatements_34 gSH F k2 N) 60 (nI b) (nI i) fo (nI r) m = _
      unfold b_X4_followStatements_34
      rw [ob_60, g_ift, z.2.1, g_bs, o1, g_ift, P.2.2.2.2.2.2.2.2.2.2.1, g_bs, b19, g_inI (by omega) (by decide), g_ift, nI_clamp (by omega), (C.2.2.2.2 i hi).2, if_neg (nI_nlt (by omega) (by omega)), nI_or1 b64 (by omega), a1, g_bs, g_nmb, g_nmb, g_nmb, nI_a1]
    rw [e]
    obtain ⟨m2, R2, c1, c2, c3⟩ := ih N (r + 1) R m1 (by omega) (by omega) (by omega) (A.k hpg hmn (KRz.of60 a2)) (hB.k60 a2) (fun _ d => by
      rw [a3 d, tb_or]
      rfl)
    exact ⟨m2, R2, c1, a2.trans c2, c3⟩
theorem s_follow (hpg : pg = 5 ∨ pg = 25) (hmn : mn = 45 ∨ mn = 50) (hq : mQ q) (hF : 5000 ≤ F) {b : Nat} (hb : b < 2 ^ q 0 3) : ∀ (k N i : Nat) (m : gM), i + k = q 0 3 → k < N → RzA pg mn q S H L nk m → (∀ b', b < b' → b' < 2 ^ q 0 3 → BRT q nk m b') → (∀ j, j < i → b.testBit j = false → ∀ u, u < 64 → (bm (m.2.1 61 (b * 6 + j)) u = true ↔ ∃ d, mB q nk (mI b.testBit j) (q 14 j) d ∧ q 5 d = u + 1)) →
    ∃ m', l_X4_followStatements_2 gSH F N 60 (nI b) (nI i) m = some m' ∧ KRz mn m m' ∧ (∀ b', b ≤ b' → b' < 2 ^ q 0 3 → BRT q nk m' b') := by
  obtain ⟨o1, o2, o3, b2, b3, b4, b5, b7, b8, b9, b10, b11, b12, b13, b14, b15, b16, b17, b18, b19, l3, l8⟩ := gP hpg
  have li := hq.1.1.2.2.2.2.1
  have l2 := hq.1.1.2.2.2.1
  have b64 : b < 64 := Nat.lt_of_lt_of_le hb (Nat.pow_le_pow_right (n := 2) (by decide) (show q 0 3 ≤ 6 from li))
  intro k
  induction k with
  | zero =>
    intro N i m hk hN A hB hj
    obtain ⟨N, rfl⟩ : ∃ N', N = N' + 1 := ⟨N - 1, by omega⟩
    obtain ⟨P, z, mr, C, hn⟩ := id A
    refine ⟨m, ?_, KRz.refl m, fun b' h1 h2 => ?_⟩
    · show b_X4_followStatements_2 gSH F (l_X4_followStatements_2 gSH F N) 60 (nI b) (nI i) m = _
      unfold b_X4_followStatements_2
      rw [ob_60, g_ift, z.2.1, g_bs, o1, g_ift, C.1.2.2.2, if_pos (nI_le (by omega) (by omega))]
    · by_cases c : b = b'
      · subst c
        intro j hj' hbj u hu
        exact hj j (by omega) hbj u hu
      · exact hB b' (by omega) h2
  | succ k ih =>
    intro N i m hk hN A hB hj
    obtain ⟨N, rfl⟩ : ∃ N', N = N' + 1 := ⟨N - 1, by omega⟩
    obtain ⟨P, z, mr, C, hn⟩ := id A
    have s6 := hq.1.2.2.2.2.2 i (by omega)
    by_cases hbi : b.testBit i = false
    · obtain ⟨m1, R, c1, c2, c3⟩ := s_chain (F := F) (k2 := l_X4_followStatements_2 gSH F N) hpg hmn hq hF hb (show i < q 0 3 by omega) hbi (q 14 i + 1 - q 13 i) F (q 13 i) 0 m (by omega) (by omega) (Nat.le_refl _) A (hB _ (or_gt hbi) (or_lt hb (by omega))) (fun h => absurd h (Nat.lt_irrefl _))
      have e : l_X4_followStatements_2 gSH F (N + 1) 60 (nI b) (nI i) m = l_X4_followStatements_2 gSH F N 60 (nI b) (nI (i + 1)) (gsL m1 61 (b * 6 + i) R) := by
        show b_X4_followStatements_2 gSH F (l_X4_followStatements_2 gSH F N) 60 (nI b) (nI i) m = _
        unfold b_X4_followStatements_2
        rw [ob_60, g_ift, z.2.1, g_bs, o1, g_ift, C.1.2.2.2, if_neg (nI_ge (by omega) (by omega)), if_pos ((cm_sh (by omega)).mpr (by rw [cm_nI (by omega)]; exact hbi)), g_bs, o1, g_ift, P.2.2.2.2.2.2.2.2.2.1, g_bs, b18, g_inI (by omega) (by decide), g_ift, nI_clamp (by omega), (C.2.2.2.2 i (by omega)).1, g_nmb, c1]
        unfold b_X4_followStatements_86
        rw [g_nmb, nI_a1]
      rw [e]
      have K : KRz mn m (gsL m1 61 (b * 6 + i) R) := (KRz.of60 c2).trans (KRz.l (Or.inl rfl))
      obtain ⟨m2, g1, g2, g3⟩ := ih N (i + 1) (gsL m1 61 (b * 6 + i) R) (by omega) (by omega) (A.k hpg hmn K) (fun b' h1 h2 => by
        have := (hB b' h1 h2).k60 c2
        intro j hj' hbj u hu
        have t := this j hj' hbj u hu
        rw [gL_2, if_neg (by omega)]
        exact t) (fun j hj' hbj u hu => by
        by_cases c : j = i
        · subst c
          rw [gL_2, if_pos ⟨rfl, rfl⟩]
          exact c3 u hu
        · rw [gL_2, if_neg (by omega), c2.2.2]
          exact hj j (by omega) hbj u hu)
      exact ⟨m2, g1, K.trans g2, g3⟩
    · have e : l_X4_followStatements_2 gSH F (N + 1) 60 (nI b) (nI i) m = l_X4_followStatements_2 gSH F N 60 (nI b) (nI (i + 1)) m := by
        show b_X4_followStatements_2 gSH F (l_X4_followStatements_2 gSH F N) 60 (nI b) (nI i) m = _
        unfold b_X4_followStatements_2
        rw [ob_60, g_ift, z.2.1, g_bs, o1, g_ift, C.1.2.2.2, if_neg (nI_ge (by omega) (by omega)), if_neg (fun x => hbi (by
          have := (cm_sh (by omega)).mp x
          rw [cm_nI (by omega)] at this
          exact this))]
        unfold b_X4_followStatements_86
        rw [g_nmb, nI_a1]
      rw [e]
      exact ih N (i + 1) m (by omega) (by omega) A hB (fun j hj' hbj u hu => by
        by_cases c : j = i
        · rw [c] at hbj
          exact absurd hbj hbi
        · exact hj j (by omega) hbj u hu)
end RES
