/-! feed, end and read of both sides -/
section JNT
variable {F tp tx pg df mn tr : Nat} {m m' : gM} {bt bx : Nat → Nat} {nt nx f : Nat}
def JQ (m : gM) : Prop := ∃ tp tx pg df mn tr bt nt bx nx f, JP m tp tx pg df mn tr bt nt bx nx f
/-- a call of both sides -/
def WO (oc : Option (Option Int32 × gM)) (fr : gM → Option (Int32 × gM)) : Prop := ∃ o m1, oc = some (o, m1) ∧ ∀ m', SB m1 m' → ∃ v m2, fr m' = some (v, m2) ∧ JQ m2 ∧ m2.2.1 109 = m'.2.1 109 ∧ ((o = none ∧ m2.1 62 0 = 1) ∨ (o = some v ∧ m2.1 62 0 = 0))
theorem RO.w {oc : Option (Option Int32 × gM)} {fr : gM → Option (Int32 × gM)} (h : JP m tp tx pg df mn tr bt nt bx nx f) (r : RO m oc fr) : WO oc fr := by
  obtain ⟨o, h1, h2⟩ := r
  refine ⟨o, m, h1, fun m' s => ?_⟩
  obtain ⟨v, c, a1, a2⟩ := h2 m' s
  refine ⟨v, gsI m' 62 0 c, a1, ⟨tp, tx, pg, df, mn, tr, bt, nt, bx, nx, f, (h.sb s).code c⟩, rfl, ?_⟩
  rw [gI_1, if_pos ⟨rfl, rfl⟩]
  exact a2
theorem JP.tape (h : JP m tp tx pg df mn tr bt nt bx nx f) {b' : Nat → Nat} {n' : Nat} (t1 : TapC m' tp b' n') (t2 : TpR m' b' n') (e1 : ∀ c, c ≠ tp → c ≠ tp + 1 → c ≠ 62 → c ≠ 63 → m'.1 c = m.1 c) (e2 : ∀ j, j ≠ 0 → j ≠ 2 → m'.1 62 j = m.1 62 j) (e3 : ∀ c, c ≠ 109 → c ≠ tp → c ≠ tp + 1 → m'.2.1 c = m.2.1 c) (e4 : m'.2.2 = m.2.2) : JP m' tp tx pg df mn tr b' n' bx nx f := by
  obtain ⟨h1, h2, h3, h4, h5, h6, h7, h8, h9, h10, h11⟩ := h
  obtain ⟨-, o1, o2, o3⟩ := id h2
  obtain ⟨x1, x2, x3, x4, x5⟩ := h10
  refine ⟨?_, ?_, t1, h4.k' (e1 tx (by omega) (by omega) (by omega) (by omega)) (e1 (tx + 1) (by omega) (by omega) (by omega) (by omega)) (by rw [e4]), h5.k (by omega) (by omega) (fun c hc => ⟨e1 c (by omega) (by omega) (by omega) (by omega), e3 c (by omega) (by omega) (by omega)⟩) (fun c _ => by rw [e4]), ?_, h7.eq e4, ?_, t2, ⟨x1, ?_, x3.k (fun c a b => e1 c (by omega) (by omega) (by omega) (by omega)) ⟨e2 10 (by decide) (by decide), e2 15 (by decide) (by decide), e2 20 (by decide) (by decide)⟩, ?_, ?_⟩, ?_⟩
  · unfold CRf; rw [e4]; exact h1
  · unfold CO; rw [e4]; exact h2
  · rw [e1 0 (by omega) (by omega) (by decide) (by decide)]; exact h6
  · obtain ⟨w1, w2, w3, w4⟩ := h8
    exact ⟨by rw [e4]; exact w1, by rw [e4]; exact w2, fun w hw => by rw [e1 87 (by omega) (by omega) (by decide) (by decide)]; exact w3 w hw, fun w hw i hi => by rw [e1 86 (by omega) (by omega) (by decide) (by decide)]; exact w4 w hw i hi⟩
  · unfold TxR; rw [e2 4 (by decide) (by decide), e1 64 (by omega) (by omega) (by decide) (by decide), e4]; exact x2
  · unfold NMs; rw [e1 92 (by omega) (by omega) (by decide) (by decide), e1 93 (by omega) (by omega) (by decide) (by decide)]; exact x4
  · unfold RMr; rw [e1 105 (by omega) (by omega) (by decide) (by decide), e1 106 (by omega) (by omega) (by decide) (by decide), e3 104 (by decide) (by omega) (by omega)]; exact x5
  · rw [e2 7 (by decide) (by decide)]; exact h11
end JNT
/-- byte k of a word -/
def wB (x : Int32) (k : Nat) : Nat := (x.toBitVec.toNat >>> k) % 256
theorem wB_lt (x : Int32) (k : Nat) : wB x k < 256 := Nat.mod_lt _ (by decide)
theorem bx_wB {x : Int32} : bx x = wB x 0 := rfl
theorem su_n : ∀ n, n < 32 → ((nI n).toUInt32 &&& Int32.toUInt32 31).toBitVec % 32 = BitVec.ofNat 32 n := by decide +kernel
theorem ss_n : ∀ n, n < 32 → (nI n &&& 31).toBitVec.smod 32 = BitVec.ofNat 32 n := by decide +kernel
theorem bx_ush (x : Int32) {k : Nat} (hk : k < 32) : bx ((x.toUInt32 >>> ((nI k).toUInt32 &&& Int32.toUInt32 31)).toInt32) = wB x k := by
  unfold bx wB
  show (x.toUInt32 >>> ((nI k).toUInt32 &&& Int32.toUInt32 31)).toBitVec.toNat % 256 = _
  rw [UInt32.toBitVec_shiftRight, su_n k hk]
  show (x.toBitVec >>> BitVec.ofNat 32 k).toNat % 256 = _
  rw [BitVec.ushiftRight_eq', BitVec.toNat_ushiftRight, BitVec.toNat_ofNat, Nat.mod_eq_of_lt (a := k) (by omega)]
theorem wB_ssh (x : Int32) {k : Nat} (hk : k ≤ 24) : (x >>> (nI k &&& 31)) &&& 255 = nI (wB x k) := by
  apply cm_ext
  intro d hd
  rw [cm_and, cm_nI (by have := wB_lt x k; omega)]
  unfold wB
  rw [show (256 : Nat) = 2 ^ 8 from rfl, Nat.testBit_mod_two_pow, Nat.testBit_shiftRight]
  have e255 : ∀ d, d < 32 → cm 255 d = decide (d < 8) := by decide +kernel
  rw [e255 d hd]
  by_cases c : d < 8
  · unfold cm
    rw [Int32.toBitVec_shiftRight, ss_n k (by omega), BitVec.sshiftRight_eq', BitVec.getLsbD_sshiftRight, BitVec.toNat_ofNat, Nat.mod_eq_of_lt (by omega)]
    simp only [c, decide_true, Bool.and_true, Bool.true_and]
    rw [if_pos (by omega), show decide (32 ≤ d) = false from decide_eq_false (by omega)]
    rfl
  · simp [c]
def up4 (b : Nat → Nat) (n : Nat) (x : Int32) : Nat → Nat := upB (upB (upB (upB b n (wB x 24)) (n + 1) (wB x 16)) (n + 2) (wB x 8)) (n + 3) (wB x 0)
section TAP
variable {F t n : Nat} {m : gM} {b : Nat → Nat}
theorem s_add4 (h : TapC m t b n) (hn : n + 4 ≤ 4000) (x : Int32) : ∃ m', f_X5_addFour gSH F t x m = some m' ∧ TapC m' t (up4 b n x) (n + 4) ∧ gKeep (fun k => k ≠ t ∧ k ≠ t + 1) m m' ∧ m'.2.2 = m.2.2 := by
  obtain ⟨m1, a1, a2, a3, a4⟩ := s_add (F := F) (x := (x.toUInt32 >>> ((nI 24).toUInt32 &&& Int32.toUInt32 31)).toInt32) h (by omega)
  obtain ⟨m2, b1, b2, b3, b4⟩ := s_add (F := F) (x := (x.toUInt32 >>> ((nI 16).toUInt32 &&& Int32.toUInt32 31)).toInt32) a2 (by omega)
  obtain ⟨m3, c1, c2, c3, c4⟩ := s_add (F := F) (x := (x.toUInt32 >>> ((nI 8).toUInt32 &&& Int32.toUInt32 31)).toInt32) b2 (by omega)
  obtain ⟨m4, d1, d2, d3, d4⟩ := s_add (F := F) (x := x) c2 (by omega)
  refine ⟨m4, ?_, ?_, ((a3.trans b3).trans c3).trans d3, by rw [d4, c4, b4, a4]⟩
  · unfold f_X5_addFour
    have a1' : f_X5_add gSH F t ((x.toUInt32 >>> ((24 : Int32).toUInt32 &&& Int32.toUInt32 31)).toInt32) m = some m1 := a1
    have b1' : f_X5_add gSH F t ((x.toUInt32 >>> ((16 : Int32).toUInt32 &&& Int32.toUInt32 31)).toInt32) m1 = some m2 := b1
    have c1' : f_X5_add gSH F t ((x.toUInt32 >>> ((8 : Int32).toUInt32 &&& Int32.toUInt32 31)).toInt32) m2 = some m3 := c1
    rw [(ob_tape h.1).1, g_ift, a1', g_bs, b1', g_bs, c1', g_bs, d1, g_bs]
  · rw [bx_ush x (by decide), bx_ush x (by decide), bx_ush x (by decide), bx_wB] at d2
    exact d2
theorem s_four1 {k7 : Nat → Int32 → Int32 → gM → Option gM} (hp : PTR m) (h : TpR m b n) (hn : n < 4000) (x : Int32) {k : Nat} (hk : k ≤ 24) : ∃ m', b_X8_four_3 gSH F k7 62 x (nI k) m = k7 62 x (nI k + Int32.ofInt (-8)) m' ∧ PTR m' ∧ TpR m' (upB b n (wB x k)) (n + 1) ∧ (∀ c, c ≠ 62 → c ≠ 63 → m'.1 c = m.1 c) ∧ (∀ j, j ≠ 2 → m'.1 62 j = m.1 62 j) ∧ m'.2 = m.2 := by
  obtain ⟨t1, t2, t3⟩ := h
  have p63 : m.2.2 62 1 = some 63 := hp.2.2.1.1
  refine ⟨gsI (gsI m 63 n (nI (wB x k))) 62 2 (nI (n + 1)), ?_, hp.eq rfl, ⟨?_, by omega, fun i hi => ?_⟩, fun c h1 h2 => ?_, fun j hj => ?_, rfl⟩
  · unfold b_X8_four_3
    rw [if_neg (nI_pos (by omega)), ob_62, g_ift, p63, g_bs, t1, show aB gSH 63 .int (nI n) = true from g_inI (N := 4000) hn (by decide), g_ift, nI_clamp (by omega), wB_ssh x hk, g_nmb, g_nmb, g_nmb]
    have : (gsI m 63 n (nI (wB x k))).1 62 2 + 1 = nI (n + 1) := by
      rw [gI_1, if_neg (by omega), t1, nI_1]
    rw [this]
  · rw [gI_1, if_pos ⟨rfl, rfl⟩]
  · unfold upB
    rw [gsI_ne (show (63 : Nat) ≠ 62 by decide), gI_1]
    by_cases c : i = n
    · simp only [c, and_self, if_true]
      exact ⟨wB_lt x k, trivial⟩
    · simp only [c, and_false, if_false]
      exact t3 i (by omega)
  · rw [gsI_ne h1, gsI_ne h2]
  · rw [gI_1, if_neg (by omega), gsI_ne (by decide)]
theorem s_four (hp : PTR m) (h : TpR m b n) (hF : 5000 ≤ F) (hn : n + 4 ≤ 4000) (x : Int32) : ∃ m', f_X8_four gSH F 62 x m = some m' ∧ PTR m' ∧ TpR m' (up4 b n x) (n + 4) ∧ (∀ c, c ≠ 62 → c ≠ 63 → m'.1 c = m.1 c) ∧ (∀ j, j ≠ 2 → m'.1 62 j = m.1 62 j) ∧ m'.2 = m.2 := by
  obtain ⟨N, hN⟩ : ∃ N', F = N' + 1 + 1 + 1 + 1 + 1 := ⟨F - 5, by omega⟩
  obtain ⟨m1, a1, a2, a3, a4, a5, a6⟩ := s_four1 (F := F) (k7 := l_X8_four_3 gSH F (N + 1 + 1 + 1 + 1)) hp h (by omega) x (k := 24) (by decide)
  obtain ⟨m2, b1, b2, b3, b4, b5, b6⟩ := s_four1 (F := F) (k7 := l_X8_four_3 gSH F (N + 1 + 1 + 1)) a2 a3 (by omega) x (k := 16) (by decide)
  obtain ⟨m3, c1, c2, c3, c4, c5, c6⟩ := s_four1 (F := F) (k7 := l_X8_four_3 gSH F (N + 1 + 1)) b2 b3 (by omega) x (k := 8) (by decide)
  obtain ⟨m4, d1, d2, d3, d4, d5, d6⟩ := s_four1 (F := F) (k7 := l_X8_four_3 gSH F (N + 1)) c2 c3 (by omega) x (k := 0) (by decide)
  refine ⟨m4, ?_, d2, d3, fun c h1 h2 => by rw [d4 c h1 h2, c4 c h1 h2, b4 c h1 h2, a4 c h1 h2], fun j hj => by rw [d5 j hj, c5 j hj, b5 j hj, a5 j hj], by rw [d6, c6, b6, a6]⟩
  unfold f_X8_four
  have e : l_X8_four_3 gSH F F = l_X8_four_3 gSH F (N + 1 + 1 + 1 + 1 + 1) := by rw [← hN]
  rw [e]
  show b_X8_four_3 gSH F (l_X8_four_3 gSH F (N + 1 + 1 + 1 + 1)) 62 x (nI 24) m = _
  rw [a1, show nI 24 + Int32.ofInt (-8) = nI 16 by decide]
  show b_X8_four_3 gSH F (l_X8_four_3 gSH F (N + 1 + 1 + 1)) 62 x (nI 16) m1 = _
  rw [b1, show nI 16 + Int32.ofInt (-8) = nI 8 by decide]
  show b_X8_four_3 gSH F (l_X8_four_3 gSH F (N + 1 + 1)) 62 x (nI 8) m2 = _
  rw [c1, show nI 8 + Int32.ofInt (-8) = nI 0 by decide]
  show b_X8_four_3 gSH F (l_X8_four_3 gSH F (N + 1)) 62 x (nI 0) m3 = _
  rw [d1]
  show b_X8_four_3 gSH F (l_X8_four_3 gSH F N) 62 x (nI 0 + Int32.ofInt (-8)) m4 = _
  unfold b_X8_four_3
  rw [if_pos (by decide)]
end TAP
section JNT
variable {F tp tx pg df mn tr : Nat} {m m' : gM} {bt bx : Nat → Nat} {nt nx f : Nat}
/-- feed -/
theorem j_feed (hF : 5000 ≤ F) (h : JP m tp tx pg df mn tr bt nt bx nx f) (x1 x2 x3 x4 x5 : Int32) : WO (f_X7_feed gSH F 0 x1 x2 x3 x4 x5 m) (f_X8_feed gSH F 62 x1 x2 x3 x4 x5) := by
  obtain ⟨h1, ⟨z, o1, o2, o3⟩, h3, h4, h5, h6, h7, h8, h9, h10, h11⟩ := id h
  have ot : oB gSH tp 5 = true := (ob_tape (by omega)).1
  have n4 := h3.2.2.2.1
  have e20 : nI nt + 20 = nI (nt + 20) := nI_add nt 20
  by_cases c : nt ≤ 3980
  · obtain ⟨m1, a1, a2, a3, a4⟩ := s_add4 (F := F) h3 (by omega) x1
    obtain ⟨m2, b1, b2, b3, b4⟩ := s_add4 (F := F) a2 (by omega) x2
    obtain ⟨m3, c1, c2, c3, c4⟩ := s_add4 (F := F) b2 (by omega) x3
    obtain ⟨m4, d1, d2, d3, d4⟩ := s_add4 (F := F) c2 (by omega) x4
    obtain ⟨m5, e1, e2, e3, e4⟩ := s_add4 (F := F) d2 (by omega) x5
    have K := (((a3.trans b3).trans c3).trans d3).trans e3
    have r5 : m5.2.2 = m.2.2 := by rw [e4, d4, c4, b4, a4]
    refine ⟨some (nI (nt + 20)), m5, ?_, fun m' s => ?_⟩
    · unfold f_X7_feed
      rw [ob_0, g_ift, z.1, g_bs, ot, g_ift, h3.2.2.1, if_pos (show nI nt ≤ 3980 from nI_le (b := 3980) c (by decide)), g_bs, ot, g_ift, a1, g_bs, a4, z.1, g_bs, ot, g_ift, b1, g_bs, b4, a4, z.1, g_bs, ot, g_ift, c1, g_bs, c4, b4, a4, z.1, g_bs, ot, g_ift, d1, g_bs, d4, c4, b4, a4, z.1, g_bs, ot, g_ift, e1, g_bs, r5, z.1, g_bs, ot, g_ift, e2.2.2.1]
    · have p0 : PTR (gsI m' 62 0 0) := h7.eq (by rw [gI_2, s.2.2, r5])
      have t62 : m'.1 62 = m.1 62 := by rw [s.1, (K 62 (by omega)).1]
      have t63 : m'.1 63 = m.1 63 := by rw [s.1, (K 63 (by omega)).1]
      have t0 : TpR (gsI m' 62 0 0) bt nt := by
        unfold TpR
        rw [gI_1, if_neg (by omega), gsI_ne (show (63 : Nat) ≠ 62 by decide), t62, t63]
        exact h9
      obtain ⟨w1, u1, u2, u3, u4, u5, u6⟩ := s_four p0 t0 hF (by omega) x1
      obtain ⟨w2, v1, v2, v3, v4, v5, v6⟩ := s_four u2 u3 hF (by omega) x2
      obtain ⟨w3, y1, y2, y3, y4, y5, y6⟩ := s_four v2 v3 hF (by omega) x3
      obtain ⟨w4, s1, s2, s3, s4, s5, s6⟩ := s_four y2 y3 hF (by omega) x4
      obtain ⟨w5, q1, q2, q3, q4, q5, q6⟩ := s_four s2 s3 hF (by omega) x5
      have k1 : ∀ c, c ≠ 62 → c ≠ 63 → w5.1 c = m5.1 c := fun c g1 g2 => by
        rw [q4 c g1 g2, s4 c g1 g2, y4 c g1 g2, v4 c g1 g2, u4 c g1 g2, gsI_ne g1, s.1]
      have k2 : ∀ j, j ≠ 2 → w5.1 62 j = (gsI m' 62 0 0).1 62 j := fun j hj => by
        rw [q5 j hj, s5 j hj, y5 j hj, v5 j hj, u5 j hj]
      have k3 : w5.2 = m'.2 := by
        rw [q6, s6, y6, v6, u6]
        rfl
      refine ⟨nI (nt + 20), w5, ?_, ⟨tp, tx, pg, df, mn, tr, _, _, bx, nx, f, h.tape (e2.k' (k1 tp (by omega) (by omega)) (k1 (tp + 1) (by omega) (by omega)) (by rw [k3, s.2.2])) q3 (fun c g1 g2 g3 g4 => by rw [k1 c g3 g4, (K c ⟨g1, g2⟩).1]) (fun j g1 g2 => by rw [k2 j g2, gI_1, if_neg (by omega), t62]) (fun c g1 g2 g3 => by rw [k3, s.2.1 c g1, (K c ⟨g2, g3⟩).2.1]) (by rw [k3, s.2.2, r5])⟩, by rw [k3], Or.inr ⟨rfl, ?_⟩⟩
      · unfold f_X8_feed b_X8_feed_19
        have : ¬ (4000 : Int32) < nI (nt + 20) := nI_nlt (a := 4000) (by omega) (by decide)
        rw [ob_62, g_ift, t62, h9.1, e20, if_neg this, g_ift, s_fails1, g_bs, g_nmb, g_nmb, if_pos (rfl : (0 : Int32) = 0), g_ift, u1, g_bs, v1, g_bs, y1, g_bs, s1, g_bs, q1, g_bs, q3.1]
      · rw [k2 0 (by decide), gI_1, if_pos ⟨rfl, rfl⟩]
  · have l1 : ¬ nI nt ≤ 3980 := nI_ge (a := 3980) (by omega) (by omega)
    refine RO.w h ⟨none, ?_, fun m' s => ⟨0, 1, ?_, Or.inl ⟨rfl, rfl⟩⟩⟩
    · unfold f_X7_feed
      rw [ob_0, g_ift, z.1, g_bs, ot, g_ift, h3.2.2.1, if_neg l1]
    · unfold f_X8_feed b_X8_feed_19
      have : (4000 : Int32) < nI (nt + 20) := nI_lt (a := 4000) (by omega) (by omega)
      rw [ob_62, g_ift, s.1, h9.1, e20, if_pos this, g_ift, s_fails0, g_bs, g_nmb, g_nmb, if_neg one0]
/-- end -/
theorem j_end (h : JP m tp tx pg df mn tr bt nt bx nx f) (x : Int32) : WO (f_X7_end gSH F 0 x m) (fun m' => (f_X8_end gSH F 62 x m').bind (fun m2 => some (0, m2))) := by
  obtain ⟨h1, ⟨z, o1, o2, o3⟩, h3, h4, h5, h6, h7, h8, h9, h10, h11⟩ := id h
  have ot : oB gSH tp 5 = true := (ob_tape (by omega)).1
  have n4 := h3.2.2.2.1
  by_cases c0 : x < 0
  · refine RO.w h ⟨none, ?_, fun m' s => ⟨0, 1, ?_, Or.inl ⟨rfl, rfl⟩⟩⟩
    · unfold f_X7_end
      rw [if_pos c0]
    · show (f_X8_end gSH F 62 x m').bind (fun m2 => some ((0 : Int32), m2)) = _
      unfold f_X8_end b_X8_end_17 b_X8_end_18
      rw [if_pos c0, ob_62, g_ift, s_fails0, g_bs, g_nmb, g_nmb, if_neg one0, g_bs]
  by_cases c1 : nI nt < x
  · refine RO.w h ⟨none, ?_, fun m' s => ⟨0, 1, ?_, Or.inl ⟨rfl, rfl⟩⟩⟩
    · unfold f_X7_end
      rw [if_neg c0, ob_0, g_ift, z.1, g_bs, ot, g_ift, h3.2.2.1, if_neg (fun e => by
        rw [Int32.lt_iff_toInt_lt] at c1
        rw [Int32.le_iff_toInt_le] at e
        omega)]
    · show (f_X8_end gSH F 62 x m').bind (fun m2 => some ((0 : Int32), m2)) = _
      unfold f_X8_end b_X8_end_17 b_X8_end_18
      rw [if_neg c0, ob_62, g_ift, s.1, h9.1, if_pos c1, g_ift, s_fails0, g_bs, g_nmb, g_nmb, if_neg one0, g_bs]
  obtain ⟨i, hi, rfl⟩ := i32_in (k := nt + 1) (by omega) c0 (fun e => by
    apply c1
    have : nI nt < nI (nt + 1) := nI_lt (by omega) (by omega)
    rw [Int32.lt_iff_toInt_lt] at this ⊢
    rw [Int32.le_iff_toInt_le] at e
    omega)
  refine ⟨some 0, gsI m tp 1 (nI i), ?_, fun m' s => ⟨0, gsI (gsI m' 62 0 0) 62 2 (nI i), ?_, ⟨tp, tx, pg, df, mn, tr, bt, i, bx, nx, f, h.tape ?_ ?_ ?_ ?_ ?_ ?_⟩, rfl, Or.inr ⟨rfl, ?_⟩⟩⟩
  · unfold f_X7_end
    rw [if_neg c0, ob_0, g_ift, z.1, g_bs, ot, g_ift, h3.2.2.1, if_pos (nI_le (by omega) (by omega)), g_bs, ot, g_ift, g_nmb]
  · show (f_X8_end gSH F 62 (nI i) m').bind (fun m2 => some ((0 : Int32), m2)) = _
    unfold f_X8_end b_X8_end_18
    have e : m'.1 62 2 = nI nt := by rw [s.1, gsI_ne (by omega)]; exact h9.1
    rw [if_neg c0, ob_62, g_ift, e, if_neg (nI_nlt (by omega) (by omega)), g_ift, s_fails1, g_bs, g_nmb, g_nmb, if_pos (rfl : (0 : Int32) = 0), g_ift, g_nmb, g_bs]
  · obtain ⟨y1, y2, y3, y4, y5⟩ := h3
    refine ⟨y1, ?_, ?_, by omega, fun j hj => ?_⟩
    · show m'.2.2 tp 0 = _
      rw [s.2.2]
      exact y2
    · rw [gsI_ne (by omega), gsI_ne (by omega), s.1, gI_1, if_pos ⟨rfl, rfl⟩]
    · rw [gsI_ne (by omega), gsI_ne (by omega), s.1, gsI_ne (by omega)]
      exact y5 j (by omega)
  · obtain ⟨y1, y2, y3⟩ := h9
    refine ⟨by rw [gI_1, if_pos ⟨rfl, rfl⟩], by omega, fun j hj => ?_⟩
    rw [gsI_ne (by omega), gsI_ne (by omega), s.1, gsI_ne (by omega)]
    exact y3 j (by omega)
  · intro c g1 g2 g3 g4
    rw [gsI_ne g3, gsI_ne g3, s.1, gsI_ne g1]
  · intro j g1 g2
    rw [gI_1, if_neg (by omega), gI_1, if_neg (by omega), s.1, gsI_ne (by omega)]
  · intro c g1 g2 g3
    show m'.2.1 c = _
    rw [s.2.1 c g1]
    rfl
  · show m'.2.2 = _
    rw [s.2.2]
    rfl
  · rw [gI_1, if_neg (by omega), gI_1, if_pos ⟨rfl, rfl⟩]
/-- read -/
theorem j_read (hF : fN ≤ F) (h : JP m tp tx pg df mn tr bt nt bx nx f) : ∃ r m1, f_X7_read gSH F 0 m = some (r, m1) ∧ ∃ m2, f_X8_read gSH F 62 m1 = some (r, m2) ∧ JQ m2 := by
  obtain ⟨h1, h2, h3, h4, h5, h6, h7, h8, h9, h10, h11⟩ := id h
  obtain ⟨-, o1, o2, o3⟩ := id h2
  obtain ⟨r, m1, a1, a2, a3, a4, a5⟩ := s_readC hF h1 h2 h3 h4 h5
  have p1 : PTR m1 := by
    have e : m1.2.2 62 = m.2.2 62 := (a2 62 (by decide)).2.2
    obtain ⟨q1, q2, q3, q4, q5, q6, q7, q8⟩ := h7
    refine ⟨?_, ?_, ?_, ?_, ?_, ?_, ?_, ?_⟩
    · unfold RPt at q1 ⊢; rw [e]; exact q1
    · unfold KPt at q2 ⊢; rw [e]; exact q2
    · rw [e]; exact q3
    · rw [e]; exact q4
    · rw [e]; exact q5
    · rw [e]; exact q6
    · rw [e]; exact q7
    · rw [e]; exact q8
  have w1 : WdR m1 := by
    obtain ⟨w1, w2, w3, w4⟩ := h8
    exact ⟨by rw [(a2 62 (by decide)).2.2]; exact w1, by rw [(a2 62 (by decide)).2.2]; exact w2, fun w hw => by rw [(a2 87 (by decide)).1]; exact w3 w hw, fun w hw i hi => by rw [(a2 86 (by decide)).1]; exact w4 w hw i hi⟩
  have t1 : TpR m1 bt nt := by
    unfold TpR
    rw [(a2 62 (by decide)).1, (a2 63 (by decide)).1]
    exact h9
  have x1 : RTx m1 bx nx := by
    obtain ⟨x1, x2, x3, x4, x5⟩ := h10
    refine ⟨x1, ?_, x3.k (fun c a b => (a2 c (by omega)).1) ⟨by rw [(a2 62 (by decide)).1], by rw [(a2 62 (by decide)).1], by rw [(a2 62 (by decide)).1]⟩, ?_, ?_⟩
    · unfold TxR; rw [(a2 62 (by decide)).1, (a2 64 (by decide)).1, (a2 62 (by decide)).2.2]; exact x2
    · unfold NMs; rw [(a2 92 (by decide)).1, (a2 93 (by decide)).1]; exact x4
    · unfold RMr; rw [(a2 105 (by decide)).1, (a2 106 (by decide)).1, (a2 104 (by decide)).2.1]; exact x5
  obtain ⟨r', m2, b1, b2, b3, b4, b5, b6, b7, b8⟩ := s_readR hF p1 w1 t1 x1
  have tk : ∀ {t : Nat} {b : Nat → Nat} {n : Nat}, TapC m1 t b n → TapC m2 t b n := fun ht => ht.k' (b2.1 _ (by have := ht.1; omega)).1 (b2.1 _ (by have := ht.1; omega)).1 (by rw [b2.2])
  have tz : ∀ {t : Nat} {b b' : Nat → Nat}, TapC m2 t b 0 → TapC m2 t b' 0 := fun ht => ⟨ht.1, ht.2.1, ht.2.2.1, by omega, fun i hi => by omega⟩
  have crf : CRf m2 := by unfold CRf; rw [b2.2]; exact a3
  have p2 : PTR m2 := p1.eq b2.2
  by_cases c : (pR bt nt).1 = 0
  · obtain ⟨y1, y2, y3, y4, y5, y6⟩ := a4 c
    obtain ⟨z1, z2, z3⟩ := b6 c
    refine ⟨r, m1, a1, m2, by rw [b1, z1, y1], tx, tp, df, pg, mn, tr, bt, 0, bt, nt, 0, crf, by unfold CO; rw [b2.2]; exact y2, tz (tk y3), tk y4, y5.k (by omega) (by omega) (fun c hc => b2.1 c (by omega)) (fun c _ => by rw [b2.2]), ?_, p2, b3, b5, z2, z3⟩
    rw [(b2.1 0 (by omega)).1]
    exact y6
  · obtain ⟨y1, y2, y3, y4, y5, y6⟩ := a5 c
    obtain ⟨z1, z2, z3⟩ := b7 c
    refine ⟨r, m1, a1, m2, by rw [b1, z1, y1], tp, tx, pg, df, mn, tr, bt, 0, bx, nx, (pR bt nt).1, crf, by unfold CO; rw [b2.2]; exact y2, tk y3, tk y4, y5.k (by omega) (by omega) (fun c hc => b2.1 c (by omega)) (fun c _ => by rw [b2.2]), ?_, p2, b3, b5, z2, z3⟩
    rw [(b2.1 0 (by omega)).1]
    exact y6
end JNT
