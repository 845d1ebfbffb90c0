/-! THE CLASS'S PARSE -/
def tP (b : Nat → Nat) (n : Nat) : Nat → Nat
  | 0 => 0
  | i + 1 => tS b n (tP b n i) + tL b n (tP b n i)
/-- of token i: its kind, where it begins, its length, its name in two longs -/
def kK (b : Nat → Nat) (n i : Nat) : Nat := tK b n (tP b n i)
def kS (b : Nat → Nat) (n i : Nat) : Nat := tS b n (tP b n i)
def kL (b : Nat → Nat) (n i : Nat) : Nat := tL b n (tP b n i)
def kH (b : Nat → Nat) (n i : Nat) : Int64 := nmH b (kS b n i) (kL b n i)
def kW (b : Nat → Nat) (n i : Nat) : Int64 := nmL b (kS b n i) (kL b n i)
theorem tK_266 {b : Nat → Nat} {n p : Nat} (hb : ∀ i, i < n → b i < 256) : (tK b n p = 266 ↔ ¬ tS b n p < n) ∧ tK b n p < 300 := by
  unfold tK
  by_cases h : tS b n p < n
  · have h1 := hb _ h
    have h2 := wordK_rng b (tS b n p) (tL b n p)
    rw [if_pos h]
    refine ⟨⟨fun e => ?_, fun e => absurd h e⟩, ?_⟩
    · repeat' split at e
      all_goals omega
    · repeat' split
      all_goals omega
  · rw [if_neg h]
    exact ⟨⟨fun _ => h, fun _ => rfl⟩, by decide⟩
theorem tL_le {b : Nat → Nat} {n p : Nat} (h : tS b n p < n) : 1 ≤ tL b n p ∧ tS b n p + tL b n p ≤ n := by
  have key : ∀ c : Int32 → Bool, c (nI (b (tS b n p))) = true → 1 ≤ runP c b (n - tS b n p) (tS b n p) - tS b n p ∧ tS b n p + (runP c b (n - tS b n p) (tS b n p) - tS b n p) ≤ n := by
    intro c hc
    obtain ⟨k, hk⟩ : ∃ k, n - tS b n p = k + 1 := ⟨n - tS b n p - 1, by omega⟩
    have e : runP c b (n - tS b n p) (tS b n p) = runP c b k (tS b n p + 1) := by
      rw [hk]
      show (if c (nI (b (tS b n p))) = true then runP c b k (tS b n p + 1) else tS b n p) = _
      rw [if_pos hc]
    have := runP_ge c b k (tS b n p + 1)
    rw [e]
    omega
  unfold tL
  rw [if_pos h]
  split
  · rename_i hc
    refine key cIn ?_
    unfold cIn
    rw [hc]
    rfl
  · split
    · rename_i hc
      exact key cDg hc
    · omega
def paZ (pg k : Nat) : Prop := (k < pg ∨ pg + 19 < k) ∧ (k < 55 ∨ 59 < k)
theorem s_parseL {pg F t n : Nat} {b : Nat → Nat} (hpg : pg = 5 ∨ pg = 25) (hF : 5000 ≤ F) : ∀ (k N i : Nat) (m : gM) (q : Nat → Nat → Nat) (st ln : Nat), i + k = 4001 → k < N → TapC m t b n → CP pg (kS b n) (kH b n) (kW b n) m q → aW q → m.1 56 1 = nI st → m.1 56 2 = nI ln → st + ln = tP b n i → i ≤ tP b n i → tP b n i ≤ n →
    ∃ m', l_X3_parse_41 gSH F N 55 t (nI i) m = some (nI (aRun (kK b n) k i q).1, m') ∧ ((aRun (kK b n) k i q).1 = 0 → CP pg (kS b n) (kH b n) (kW b n) m' (aRun (kK b n) k i q).2.2 ∧ aW (aRun (kK b n) k i q).2.2) ∧ m'.1 56 1 = nI (kS b n (aRun (kK b n) k i q).2.1) ∧ gKeep (paZ pg) m m' ∧ m'.2.2 = m.2.2 := by
  intro k
  induction k with
  | zero =>
    intro N i m q st ln hi hN hT hC hW h1 h2 hp hi1 hi2
    have := hT.2.2.2.1
    omega
  | succ k ih =>
    intro N i m q st ln hi hN hT hC hW h1 h2 hp hi1 hi2
    obtain ⟨N, rfl⟩ : ∃ N', N = N' + 1 := ⟨N - 1, by omega⟩
    have hle := hT.2.2.2.1
    have hbb : ∀ i, i < n → b i < 256 := fun i hi => (hT.2.2.2.2 i hi).1
    obtain ⟨m1, e1, t1, k1, r1⟩ := s_advance (F := F) hT hF h1 h2 (by omega)
    rw [hp] at t1
    obtain ⟨t11, t12, t13, t14⟩ := t1
    obtain ⟨g1, g2⟩ := tK_266 (p := tP b n i) hbb
    have hR0 := hC.2.2.2.2.1
    have hR1 : m1.2.2 55 0 = some 56 := by rw [r1]; exact hR0
    have kz : gKeep (paZ pg) m m1 := fun c hc => k1 c (by unfold paZ at hc; omega)
    have C1 : CP pg (kS b n) (kH b n) (kW b n) m1 q := by
      obtain ⟨x1, x2, x3, x4, x5⟩ := hC
      refine ⟨x1.keep (fun c hc => k1 c (by omega)), x2.keep (k1 55 (by decide)).1 (k1 57 (by decide)).1 (k1 58 (by decide)).1 (k1 59 (by decide)).1 (fun _ _ _ => rfl), fun ht => ?_, by rw [r1]; exact x4, by rw [r1]; exact x5⟩
      rw [(k1 55 (by decide)).1]
      exact x3 ht
    have eb : l_X3_parse_41 gSH F (N + 1) 55 t (nI i) m = if nI (kK b n i) = 267 then b_X3_parse_84 gSH F (l_X3_parse_41 gSH F N) 55 t (nI i) 1 m1 else (f_X3_take gSH F 55 (nI (kK b n i)) m1).bind (fun q14 => nm q14.1 (fun r13 => nm q14.2 (fun m12 => b_X3_parse_84 gSH F (l_X3_parse_41 gSH F N) 55 t (nI i) r13 m12))) := by
      show b_X3_parse_41 gSH F (l_X3_parse_41 gSH F N) 55 t (nI i) m = _
      unfold b_X3_parse_41
      rw [if_neg (show ¬ (4000 : Int32) < nI i from nI_nlt (a := 4000) (by omega) (by decide)), ob_55, g_ift, hR0, g_bs, ob_56, g_ift, e1, g_bs, hR1, g_bs, ob_56, g_ift, g_bs, ob_56, g_ift, t11]
      rfl
    rw [eb]
    have kl : ∀ v : Nat, v < 300 → (nI (kK b n i) = nI v ↔ kK b n i = v) := fun v hv => k_lit g2 hv
    by_cases hbad : kK b n i = 267
    · rw [if_pos (show nI (kK b n i) = 267 from (kl 267 (by decide)).mpr hbad)]
      have ea : aRun (kK b n) (k + 1) i q = (1, i, q) := by
        show (if kK b n i = 267 then _ else _) = _
        rw [if_pos hbad]
      rw [ea]
      refine ⟨m1, ?_, (fun h => by cases h), t12, kz, r1⟩
      unfold b_X3_parse_84
      rw [if_neg (by decide)]
      rfl
    · rw [if_neg (show ¬ nI (kK b n i) = 267 from fun e => hbad ((kl 267 (by decide)).mp e))]
      obtain ⟨m2, e2, c2, k2⟩ := st_take (F := F) (i := i) (k := kK b n i) C1 hpg hW hF g2 (fun h => ⟨t12, (t14 h).1, (t14 h).2⟩)
      rw [e2, g_bs, g_nmb, g_nmb]
      have k56 := k2.1 56 ⟨by omega, by unfold rdC; omega⟩
      have kz2 : gKeep (paZ pg) m m2 := kz.trans (fun c hc => k2.1 c ⟨hc.1, by unfold paZ at hc; unfold rdC; omega⟩)
      have r2 : m2.2.2 = m.2.2 := k2.2.trans r1
      have f12 : m2.1 56 1 = nI (kS b n i) := by rw [k56.1]; exact t12
      have f13 : m2.1 56 2 = nI (kL b n i) := by rw [k56.1]; exact t13
      have f11 : m2.1 56 0 = nI (kK b n i) := by rw [k56.1]; exact t11
      by_cases hz : (aT i (kK b n i) q).1 = 0
      · have W2 := aW_T hW hz
        rw [hz]
        unfold b_X3_parse_84
        rw [if_pos (show nI 0 = 0 from rfl), ob_55, g_ift, show m2.2.2 55 0 = some 56 by rw [r2]; exact hR0, g_bs, ob_56, g_ift, f11]
        by_cases hend : kK b n i = 266
        · rw [if_pos (show nI (kK b n i) = 266 from (kl 266 (by decide)).mpr hend)]
          have ea : aRun (kK b n) (k + 1) i q = (0, i, (aT i (kK b n i) q).2) := by
            show (if kK b n i = 267 then _ else if (aT i (kK b n i) q).1 = 0 then (if kK b n i = 266 then _ else _) else _) = _
            rw [if_neg hbad, if_pos hz, if_pos hend]
          rw [ea]
          exact ⟨m2, rfl, fun _ => ⟨c2 hz, W2⟩, f12, kz2, r2⟩
        · rw [if_neg (show ¬ nI (kK b n i) = 266 from fun e => hend ((kl 266 (by decide)).mp e)), g_nmb, nI_a1]
          have ea : aRun (kK b n) (k + 1) i q = aRun (kK b n) k (i + 1) (aT i (kK b n i) q).2 := by
            show (if kK b n i = 267 then _ else if (aT i (kK b n i) q).1 = 0 then (if kK b n i = 266 then _ else _) else _) = _
            rw [if_neg hbad, if_pos hz, if_neg hend]
          rw [ea]
          have hs : tS b n (tP b n i) < n := by
            by_cases h : tS b n (tP b n i) < n
            · exact h
            · exact absurd (g1.mpr h) hend
          have hl := tL_le hs
          have hs2 := tS_le (b := b) hi2
          have hTm2 : TapC m2 t b n := by
            obtain ⟨x1, x2, x3, x4, x5⟩ := hT
            have y1 := kz2 t (by unfold paZ; omega)
            have y2 := kz2 (t + 1) (by unfold paZ; omega)
            exact ⟨x1, by rw [r2]; exact x2, by rw [y1.1]; exact x3, x4, fun j hj => ⟨(x5 j hj).1, by rw [y2.1]; exact (x5 j hj).2⟩⟩
          obtain ⟨m', q1, q2, q3, q4, q5⟩ := ih N (i + 1) m2 (aT i (kK b n i) q).2 (kS b n i) (kL b n i) (by omega) (by omega) hTm2 (c2 hz) W2 f12 f13 rfl (by
            show i + 1 ≤ tS b n (tP b n i) + tL b n (tP b n i)
            omega) hl.2
          exact ⟨m', q1, q2, q3, kz2.trans q4, q5.trans r2⟩
      · have ea : aRun (kK b n) (k + 1) i q = ((aT i (kK b n i) q).1, i, (aT i (kK b n i) q).2) := by
          show (if kK b n i = 267 then _ else if (aT i (kK b n i) q).1 = 0 then _ else _) = _
          rw [if_neg hbad, if_neg hz]
        rw [ea]
        refine ⟨m2, ?_, fun h => absurd h hz, f12, kz2, r2⟩
        have hcode : (aT i (kK b n i) q).1 < 2 ^ 31 := aT_lt i (kK b n i) q
        unfold b_X3_parse_84
        rw [if_neg (nI_ne0 (by omega) hcode)]
theorem s_parse {pg F t n : Nat} {m : gM} {b : Nat → Nat} (hpg : pg = 5 ∨ pg = 25) (hF : 5000 ≤ F) (hT : TapC m t b n) (P : PR m.2.2 pg) (R : m.2.2 55 0 = some 56 ∧ m.2.2 55 1 = some 57 ∧ m.2.2 55 2 = some 58 ∧ m.2.2 55 3 = some 59) :
    ∃ m', f_X3_parse gSH F 55 t pg m = some (nI (aRun (kK b n) 4001 0 aQ0).1, m') ∧ ((aRun (kK b n) 4001 0 aQ0).1 = 0 → CPr pg m' (aRun (kK b n) 4001 0 aQ0).2.2 (kS b n) (kH b n) (kW b n) ∧ aW (aRun (kK b n) 4001 0 aQ0).2.2) ∧ m'.1 56 1 = nI (kS b n (aRun (kK b n) 4001 0 aQ0).2.1) ∧ (∀ c, paZ pg c → m'.1 c = m.1 c ∧ m'.2.1 c = m.2.1 c) ∧ m'.2.2 = (gsR m 55 4 (some pg)).2.2 := by
  obtain ⟨o1, -⟩ := gP hpg
  obtain ⟨R0, R1, R2, R3⟩ := R
  obtain ⟨x1, x2, x3, x4, x5⟩ := hT
  have P0 : PR (gsR m 55 4 (some pg)).2.2 pg := by
    have e : ∀ c, c ≠ 55 → (gsR m 55 4 (some pg)).2.2 c = m.2.2 c := fun c hc => gsR_ne hc
    unfold PR
    rw [e pg (by omega), e (pg + 1) (by omega), e (pg + 6) (by omega)]
    exact P
  obtain ⟨m1, e1, c1, k1, r1⟩ := p_empty (F := F) (S := kS b n) (H := kH b n) (L := kW b n) hpg P0
  have q4 : (gsR m 55 4 (some pg)).2.2 55 4 = some pg := by simp [gsR]
  have qj : ∀ j, j ≠ 4 → (gsR m 55 4 (some pg)).2.2 55 j = m.2.2 55 j := fun j hj => by simp [gsR, hj]
  let m2 := gsI (gsI (gsI (gsI (gsI (gsI m1 56 1 0) 56 2 0) 55 5 0) 55 6 0) 55 7 0) 55 8 0
  have em : f_X3_parse gSH F 55 t pg m = l_X3_parse_41 gSH F F 55 t (nI 0) m2 := by
    unfold f_X3_parse f_X6_begin
    rw [ob_55, g_ift, g_nmb, q4, g_bs, o1, g_ift, e1, g_bs, show m1.2.2 55 0 = some 56 by rw [r1, qj 0 (by decide)]; exact R0, g_bs, ob_56, g_ift, g_ift, g_nmb, g_nmb, g_bs, g_nmb, g_nmb, g_nmb, g_nmb]
    rfl
  have kk : ∀ c, pgZ pg c → c ≠ 55 → c ≠ 56 → m2.1 c = m.1 c ∧ m2.2.1 c = m.2.1 c := by
    intro c h1 h2 h3
    have := k1 c h1
    refine ⟨?_, ?_⟩
    · show (gsI (gsI (gsI (gsI (gsI (gsI m1 56 1 0) 56 2 0) 55 5 0) 55 6 0) 55 7 0) 55 8 0).1 c = _
      rw [gsI_ne h2, gsI_ne h2, gsI_ne h2, gsI_ne h2, gsI_ne h3, gsI_ne h3]
      exact this.1
    · exact this.2.1
  have C2 : CP pg (kS b n) (kH b n) (kW b n) m2 aQ0 := by
    refine ⟨c1.keep (fun c hc => ⟨?_, rfl, rfl⟩), ⟨⟨?_, ?_, ?_, ?_⟩, fun j hj => ?_⟩, fun h => ?_, ?_, ?_⟩
    · show (gsI (gsI (gsI (gsI (gsI (gsI m1 56 1 0) 56 2 0) 55 5 0) 55 6 0) 55 7 0) 55 8 0).1 c = _
      rw [gsI_ne (by omega), gsI_ne (by omega), gsI_ne (by omega), gsI_ne (by omega), gsI_ne (by omega), gsI_ne (by omega)]
    · simp [m2, gI_1, aQ0]; rfl
    · simp [m2, gI_1, aQ0]; rfl
    · simp [m2, gI_1, aQ0]; rfl
    · simp [m2, gI_1, aQ0]; rfl
    · simp [aQ0] at hj
    · simp [topF, aQ0] at h
    · show PR m1.2.2 pg
      rw [r1]; exact P0
    · show RR m1.2.2 pg
      rw [r1]
      exact ⟨(qj 0 (by decide)).trans R0, (qj 1 (by decide)).trans R1, (qj 2 (by decide)).trans R2, (qj 3 (by decide)).trans R3, q4⟩
  have T2 : TapC m2 t b n := by
    have y1 := kk t (by unfold pgZ; omega) (by omega) (by omega)
    have y2 := kk (t + 1) (by unfold pgZ; omega) (by omega) (by omega)
    refine ⟨x1, ?_, by rw [y1.1]; exact x3, x4, fun j hj => ⟨(x5 j hj).1, by rw [y2.1]; exact (x5 j hj).2⟩⟩
    show m1.2.2 t 0 = _
    rw [r1]
    have : (gsR m 55 4 (some pg)).2.2 t = m.2.2 t := gsR_ne (by omega)
    rw [this]
    exact x2
  obtain ⟨m', g1, g2, g3, g4, g5⟩ := s_parseL (F := F) (b := b) (n := n) (t := t) hpg hF 4001 F 0 m2 aQ0 0 0 rfl (by omega) T2 C2 ⟨aS_0, aZ_0⟩ (by simp [m2, gI_1]; rfl) (by simp [m2, gI_1]; rfl) rfl (Nat.zero_le _) (Nat.zero_le _)
  refine ⟨m', em.trans g1, fun h => ⟨(g2 h).1.1, (g2 h).2⟩, g3, fun c hc => ?_, ?_⟩
  · have y1 := g4 c hc
    have y2 := kk c (by unfold paZ at hc; unfold pgZ; omega) (by unfold paZ at hc; omega) (by unfold paZ at hc; omega)
    exact ⟨y1.1.trans y2.1, y1.2.1.trans y2.2⟩
  · rw [g5]
    exact r1
