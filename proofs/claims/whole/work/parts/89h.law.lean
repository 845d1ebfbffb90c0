/-! THE LAW'S LOOP -/
section LAW
variable {F L : Nat} {xs : Nat → Int32} {m : gM}
theorem i109 : aB gSH 109 .long 0 = true := by decide +kernel
theorem s_thrown : f_X8_thrown gSH F 62 m = some (m.1 62 0, m) := by
  unfold f_X8_thrown
  rw [ob_62, g_ift]
/-- a call that may throw, of both sides -/
theorem lawW {oc : Option (Option Int32 × gM)} {fr : gM → Option (Int32 × gM)} (w : WO oc fr) {K : gM → Option Unit} (hK : ∀ m2, JQ m2 → K m2 = some ()) : (oc.bind (fun q => g_cs q.1 (some ((1 : Int32), q.2)) (fun r => some ((0 : Int32), gsL q.2 109 0 r.toInt64)))).bind (fun q11 => (fr q11.2).bind (fun q20 => if q20.2.1 62 0 = q11.1 then (if q11.1 = 0 then (if q20.2.2.1 109 0 = q20.1.toInt64 then K q20.2 else none) else K q20.2) else none)) = some () := by
  obtain ⟨o, m1, h1, h2⟩ := w
  rw [h1, g_bs]
  cases o with
  | none =>
    obtain ⟨v, m2, a1, a2, a3, a4⟩ := h2 m1 (SB.refl m1)
    have c : m2.1 62 0 = 1 := by
      rcases a4 with ⟨-, c⟩ | ⟨c, -⟩
      · exact c
      · cases c
    show (some ((1 : Int32), m1)).bind _ = _
    rw [g_bs]
    show (fr m1).bind _ = _
    rw [a1, g_bs]
    show (if m2.1 62 0 = 1 then (if (1 : Int32) = 0 then _ else K m2) else none) = _
    rw [c, if_pos rfl, if_neg one0]
    exact hK m2 a2
  | some r =>
    obtain ⟨v, m2, a1, a2, a3, a4⟩ := h2 (gsL m1 109 0 r.toInt64) SB.l
    have c : r = v ∧ m2.1 62 0 = 0 := by
      rcases a4 with ⟨c, -⟩ | ⟨c, d⟩
      · cases c
      · exact ⟨Option.some.inj c, d⟩
    show (some ((0 : Int32), gsL m1 109 0 r.toInt64)).bind _ = _
    rw [g_bs]
    show (fr (gsL m1 109 0 r.toInt64)).bind _ = _
    rw [a1, g_bs]
    show (if m2.1 62 0 = 0 then (if (0 : Int32) = 0 then (if m2.2.1 109 0 = v.toInt64 then K m2 else none) else K m2) else none) = _
    have e9 : m2.2.1 109 0 = v.toInt64 := by rw [a3, gL_2, if_pos ⟨rfl, rfl⟩, c.1]
    rw [c.2, if_pos rfl, if_pos rfl, e9, if_pos rfl]
    exact hK m2 a2
/-- friends: the answer is a truth value -/
theorem lawF {oc : Option (Option Int32 × gM)} {fr : gM → Option (Int32 × gM)} (w : WO oc fr) {K : gM → Option Unit} (hK : ∀ m2, JQ m2 → K m2 = some ()) : (oc.bind (fun q => g_cs q.1 (some ((1 : Int32), q.2)) (fun r => some ((0 : Int32), gsL q.2 109 0 (if r = 0 then 0 else 1))))).bind (fun q11 => (fr q11.2).bind (fun q20 => if q20.2.1 62 0 = q11.1 then (if q11.1 = 0 then (if q20.1 = 0 then (if q20.2.2.1 109 0 = 0 then K q20.2 else none) else (if q20.2.2.1 109 0 = 1 then K q20.2 else none)) else K q20.2) else none)) = some () := by
  obtain ⟨o, m1, h1, h2⟩ := w
  rw [h1, g_bs]
  cases o with
  | none =>
    obtain ⟨v, m2, a1, a2, a3, a4⟩ := h2 m1 (SB.refl m1)
    have c : m2.1 62 0 = 1 := by
      rcases a4 with ⟨-, c⟩ | ⟨c, -⟩
      · exact c
      · cases c
    show (some ((1 : Int32), m1)).bind _ = _
    rw [g_bs]
    show (fr m1).bind _ = _
    rw [a1, g_bs]
    show (if m2.1 62 0 = 1 then (if (1 : Int32) = 0 then _ else K m2) else none) = _
    rw [c, if_pos rfl, if_neg one0]
    exact hK m2 a2
  | some r =>
    obtain ⟨v, m2, a1, a2, a3, a4⟩ := h2 (gsL m1 109 0 (if r = 0 then 0 else 1)) SB.l
    have c : r = v ∧ m2.1 62 0 = 0 := by
      rcases a4 with ⟨c, -⟩ | ⟨c, d⟩
      · cases c
      · exact ⟨Option.some.inj c, d⟩
    show (some ((0 : Int32), gsL m1 109 0 (if r = 0 then 0 else 1))).bind _ = _
    rw [g_bs]
    show (fr (gsL m1 109 0 (if r = 0 then 0 else 1))).bind _ = _
    rw [a1, g_bs]
    show (if m2.1 62 0 = 0 then (if (0 : Int32) = 0 then (if v = 0 then (if m2.2.1 109 0 = 0 then K m2 else none) else (if m2.2.1 109 0 = 1 then K m2 else none)) else K m2) else none) = _
    have e9 : m2.2.1 109 0 = if v = 0 then 0 else 1 := by rw [a3, gL_2, if_pos ⟨rfl, rfl⟩, c.1]
    rw [c.2, if_pos rfl, if_pos rfl, e9]
    by_cases z : v = 0
    · rw [if_pos z, if_pos z, if_pos rfl]
      exact hK m2 a2
    · rw [if_neg z, if_neg z, if_pos rfl]
      exact hK m2 a2
/-- end: no answer -/
theorem lawE {oc : Option (Option Int32 × gM)} {fr : gM → Option gM} (w : WO oc (fun m' => (fr m').bind (fun m2 => some ((0 : Int32), m2)))) {K : gM → Option Unit} (hK : ∀ m2, JQ m2 → K m2 = some ()) : (oc.bind (fun q => g_cs q.1 (some ((1 : Int32), q.2)) (fun _ => some ((0 : Int32), q.2)))).bind (fun q11 => (fr q11.2).bind (fun m20 => if m20.1 62 0 = q11.1 then K m20 else none)) = some () := by
  obtain ⟨o, m1, h1, h2⟩ := w
  rw [h1, g_bs]
  obtain ⟨v, m2, a1, a2, a3, a4⟩ := h2 m1 (SB.refl m1)
  have e : fr m1 = some m2 := by
    cases x : fr m1 with
    | none =>
      have a1' : (fr m1).bind (fun m2 => some ((0 : Int32), m2)) = some (v, m2) := a1
      rw [x] at a1'
      cases a1'
    | some y =>
      have a1' : (fr m1).bind (fun m2 => some ((0 : Int32), m2)) = some (v, m2) := a1
      rw [x, g_bs] at a1'
      exact congrArg some (Prod.mk.inj (Option.some.inj a1')).2
  cases o with
  | none =>
    have c : m2.1 62 0 = 1 := by
      rcases a4 with ⟨-, c⟩ | ⟨c, -⟩
      · exact c
      · cases c
    show (some ((1 : Int32), m1)).bind _ = _
    rw [g_bs]
    show (fr m1).bind _ = _
    rw [e, g_bs]
    show (if m2.1 62 0 = 1 then K m2 else none) = _
    rw [c, if_pos rfl]
    exact hK m2 a2
  | some r =>
    have c : m2.1 62 0 = 0 := by
      rcases a4 with ⟨c, -⟩ | ⟨-, d⟩
      · cases c
      · exact d
    show (some ((0 : Int32), m1)).bind _ = _
    rw [g_bs]
    show (fr m1).bind _ = _
    rw [e, g_bs]
    show (if m2.1 62 0 = 0 then K m2 else none) = _
    rw [c, if_pos rfl]
    exact hK m2 a2
set_option maxRecDepth 100000 in
set_option maxHeartbeats 4000000 in
theorem law_step (hF : fN ≤ F) (hL : L ≤ 3072) {k23 : Nat → Nat → Nat → Nat → Int32 → gM → Option Unit} {i : Nat} (hi : i ≤ L) (h : JQ m) (hk : ∀ m2, i + 6 ≤ L → JQ m2 → k23 2000000 0 62 109 (nI (i + 6)) m2 = some ()) : b_law_23 gSH F L xs k23 2000000 0 62 109 (nI i) m = some () := by
  have f5 := fN_5
  have cl : (nI i).toNatClampNeg = i := nI_clamp (by omega)
  unfold b_law_23
  rw [cl, show decide (i ≤ 4000) = true from decide_eq_true (by omega), g_ift, show decide (2000000 = 2000000) = true from rfl, g_ift]
  by_cases e : Int32.ofNat L - 6 < nI i
  · rw [if_pos e]
  · rw [if_neg e]
    have i6 : i + 6 ≤ L := by
      apply Classical.byContradiction
      intro z
      apply e
      have eL : Int32.ofNat L = nI L := rfl
      rw [eL]
      by_cases q : 6 ≤ L
      · have : nI L - 6 = nI (L - 6) := pk_sub (b := 6) q
        rw [this]
        exact nI_lt (by omega) (by omega)
      · rw [Int32.lt_iff_toInt_lt]
        have a : (nI i).toInt = i := nI_toInt (by omega)
        have l5 : L = 0 ∨ L = 1 ∨ L = 2 ∨ L = 3 ∨ L = 4 ∨ L = 5 := by omega
        have b : (nI L - 6).toInt < 0 := by
          rcases l5 with rfl | rfl | rfl | rfl | rfl | rfl <;> decide
        omega
    have K : ∀ m2, JQ m2 → b_law_785 gSH F L xs k23 2000000 0 62 109 (nI i) m2 = some () := fun m2 j => by
      unfold b_law_785
      have e6 : nI i + Int32.ofInt 6 = nI (i + 6) := nI_add i 6
      rw [g_nmb, e6, nI_clamp (by omega), cl, show decide (i + 6 = i + 6) = true from decide_eq_true rfl, g_ift]
      exact hk m2 i6 j
    have b0 : inB (nI i) L = true := g_inI (by omega) (by omega)
    have b1 : inB (nI i + 1) L = true := by rw [nI_1]; exact g_inI (by omega) (by omega)
    have b2 : inB (nI i + 2) L = true := by rw [show nI i + 2 = nI (i + 2) from nI_add i 2]; exact g_inI (by omega) (by omega)
    have b3 : inB (nI i + 3) L = true := by rw [show nI i + 3 = nI (i + 3) from nI_add i 3]; exact g_inI (by omega) (by omega)
    have b4 : inB (nI i + 4) L = true := by rw [show nI i + 4 = nI (i + 4) from nI_add i 4]; exact g_inI (by omega) (by omega)
    have b5 : inB (nI i + 5) L = true := by rw [show nI i + 5 = nI (i + 5) from nI_add i 5]; exact g_inI (by omega) (by omega)
    have z0 : (0 : Int32).toNatClampNeg = 0 := rfl
    obtain ⟨tp, tx, pg, df, mn, tr, bt, nt, bx, nx, f, J⟩ := id h
    rw [b0, g_ift]
    by_cases c0 : xs i &&& 15 = 0
    · rw [if_pos c0]
      unfold f_L_feed b_law_205
      simp only [b1, b2, b3, b4, b5, g_ift, g_nmb, ob_0, ob_62, i109, s_thrown, z0, g_bs]
      exact lawW (j_feed (by omega) J _ _ _ _ _) K
    rw [if_neg c0]
    by_cases c1 : xs i &&& 15 = 1
    · rw [if_pos c1]
      unfold f_L_end
      simp only [b1, g_ift, g_nmb, ob_0, ob_62, s_thrown, g_bs]
      exact lawE (j_end J _) K
    rw [if_neg c1]
    by_cases c2 : xs i &&& 15 = 2
    · rw [if_pos c2]
      obtain ⟨r, m1, a1, m2, a2, a3⟩ := j_read (F := F) hF J
      rw [ob_0, g_ift, a1, g_bs, g_nmb, g_nmb, ob_62, g_ift, a2, g_bs, g_nmb, g_nmb, if_pos rfl]
      exact K m2 a3
    rw [if_neg c2]
    by_cases c3 : xs i &&& 15 = 3
    · rw [if_pos c3]
      obtain ⟨a1, a2⟩ := j_fault (F := F) J
      rw [ob_0, g_ift, a1, g_bs, g_nmb, g_nmb, ob_62, g_ift, a2, g_bs, g_nmb, g_nmb, if_pos rfl]
      exact K _ ⟨tp, tx, pg, df, mn, tr, bt, nt, bx, nx, f, J.code 0⟩
    rw [if_neg c3]
    by_cases c4 : xs i &&& 15 = 4
    · rw [if_pos c4]
      unfold f_L_count b_law_323
      simp only [b1, g_ift, g_nmb, ob_0, ob_62, i109, s_thrown, z0, g_bs]
      exact lawW ((j_count (by omega) J _).w J) K
    rw [if_neg c4]
    by_cases c5 : xs i &&& 15 = 5
    · rw [if_pos c5]
      unfold f_L_scope b_law_391
      simp only [b1, b2, g_ift, g_nmb, ob_0, ob_62, i109, s_thrown, z0, g_bs]
      exact lawW ((j_scope (by omega) J _ _).w J) K
    rw [if_neg c5]
    by_cases c6 : xs i &&& 15 = 6
    · rw [if_pos c6]
      unfold f_L_declaration b_law_459
      simp only [b1, b2, g_ift, g_nmb, ob_0, ob_62, i109, s_thrown, z0, g_bs]
      exact lawW ((j_declaration (by omega) J _ _).w J) K
    rw [if_neg c6]
    by_cases c7 : xs i &&& 15 = 7
    · rw [if_pos c7]
      unfold f_L_reference b_law_527
      simp only [b1, b2, g_ift, g_nmb, ob_0, ob_62, i109, s_thrown, z0, g_bs]
      exact lawW ((j_reference (by omega) J _ _).w J) K
    rw [if_neg c7]
    by_cases c8 : xs i &&& 15 = 8
    · rw [if_pos c8]
      unfold f_L_meant b_law_595
      simp only [b1, b2, g_ift, g_nmb, ob_0, ob_62, i109, s_thrown, z0, g_bs]
      exact lawW ((j_meant (by omega) J _ _).w J) K
    rw [if_neg c8]
    by_cases c9 : xs i &&& 15 = 9
    · rw [if_pos c9]
      unfold f_L_friends b_law_664 b_law_670
      simp only [b1, b2, g_ift, g_nmb, ob_0, ob_62, i109, s_thrown, z0, g_bs]
      exact lawF ((j_friends (by omega) J _ _).w J) K
    rw [if_neg c9]
    by_cases c10 : xs i &&& 15 = 10
    · rw [if_pos c10]
      unfold f_L_rename b_law_726
      simp only [b1, g_ift, g_nmb, ob_0, ob_62, i109, s_thrown, z0, g_bs]
      exact lawW (j_rename hF J _) K
    rw [if_neg c10]
    by_cases c11 : xs i &&& 15 = 11
    · rw [if_pos c11]
      unfold f_L_letter b_law_782
      simp only [b1, g_ift, g_nmb, ob_0, ob_62, i109, s_thrown, z0, g_bs]
      exact lawW ((j_letter J _).w J) K
    rw [if_neg c11]
    exact K m h
theorem law_loop (hF : fN ≤ F) (hL : L ≤ 3072) : ∀ (k N i : Nat) (m : gM), L ≤ i + k → k < N → i ≤ L → JQ m → l_law_23 gSH F L xs N 2000000 0 62 109 (nI i) m = some () := by
  intro k
  induction k with
  | zero =>
    intro N i m hk hN hi h
    obtain ⟨N, rfl⟩ : ∃ N', N = N' + 1 := ⟨N - 1, by omega⟩
    show b_law_23 gSH F L xs (l_law_23 gSH F L xs N) 2000000 0 62 109 (nI i) m = _
    exact law_step hF hL hi h (fun m2 hl _ => by omega)
  | succ k ih =>
    intro N i m hk hN hi h
    obtain ⟨N, rfl⟩ : ∃ N', N = N' + 1 := ⟨N - 1, by omega⟩
    show b_law_23 gSH F L xs (l_law_23 gSH F L xs N) 2000000 0 62 109 (nI i) m = _
    exact law_step hF hL hi h (fun m2 hl j => ih N (i + 6) m2 (by omega) (by omega) hl j)
end LAW
/-! THE BEGINNING -/
section BEG
variable {m : gM}
theorem z_ref (hr : Rok m 1 3 5 25 45 50 25 5 45) (a b c : Nat) (h : (a, b, c) ∈ rtab 1 3 5 25 45 50 25 5 45) : m.2.2 a b = some c := hr (a, b, c) h
theorem z_int (hi : ∀ e ∈ itab0, m.1 e.1 e.2.1 = e.2.2) (a b : Nat) (c : Int32) (h : (a, b, c) ∈ itab0) : m.1 a b = c := hi (a, b, c) h
theorem z_tab : pR (fun _ => 0) 0 = (0, 0, (aT 0 266 aQ0).2) := by
  have k : kK (fun _ => 0) 0 0 = 266 := rfl
  unfold pR
  show (if kK (fun _ => 0) 0 0 = 267 then _ else _) = _
  rw [k, if_neg (by decide), if_pos (show (aT 0 266 aQ0).1 = 0 from rfl), if_pos rfl]
theorem z_q : pQ (fun _ => 0) 0 = (aT 0 266 aQ0).2 := by
  unfold pQ
  rw [z_tab]
theorem z_ok : pOk (fun _ => 0) 0 := ⟨fun i hi => absurd hi (Nat.not_lt_zero _), by omega, by rw [z_tab]⟩
theorem z_00 : pQ (fun _ => 0) 0 0 0 = 1 ∧ pQ (fun _ => 0) 0 0 1 = 0 ∧ pQ (fun _ => 0) 0 0 2 = 0 ∧ pQ (fun _ => 0) 0 0 3 = 0 ∧ pQ (fun _ => 0) 0 1 0 = 0 ∧ pQ (fun _ => 0) 0 2 0 = 0 := by
  rw [z_q]
  exact ⟨rfl, rfl, rfl, rfl, rfl, rfl⟩
theorem z_CRf (zr : Rok m 1 3 5 25 45 50 25 5 45) : CRf m := by
  refine ⟨⟨⟨?_, ?_, ?_, ?_, ?_, ?_, ?_, ?_, ?_, ?_, ?_, ?_, ?_, ?_, ?_, ?_, ?_, ?_, ?_⟩, ⟨?_, ?_, ?_, ?_, ?_, ?_, ?_, ?_, ?_, ?_, ?_, ?_, ?_, ?_, ?_, ?_, ?_, ?_, ?_⟩⟩, ⟨?_, ?_⟩, ⟨⟨?_, ?_, ?_, ?_⟩, ⟨?_, ?_, ?_, ?_⟩⟩, ⟨?_, ?_, ?_, ?_⟩, ?_⟩ <;> exact z_ref zr _ _ _ (by decide +kernel)
theorem z_PTR (zr : Rok m 1 3 5 25 45 50 25 5 45) : PTR m := by
  refine ⟨⟨⟨?_, ?_, ?_, ?_, ?_, ?_, ?_, ?_, ?_, ?_⟩, ?_, ?_, ?_, ?_⟩, ⟨?_, ?_, ?_, ?_, ?_, ?_, ?_, ?_, ?_, ?_⟩, ⟨?_, ?_, ?_, ?_, ?_⟩, ⟨?_, ?_⟩, ⟨?_, ?_, ?_, ?_, ?_, ?_, ?_, ?_, ?_, ?_⟩, ⟨?_, ?_, ?_⟩, ?_, ?_⟩ <;> exact z_ref zr _ _ _ (by decide +kernel)
theorem z_w1 : ∀ w, w < 9 → (87, w, nI ([0, 6, 12, 15, 18, 21, 24, 27, 29].getD w 0)) ∈ itab0 := by decide +kernel
theorem z_w2 : ∀ w, w < 8 → ∀ i, i < wl w → (86, [0, 6, 12, 15, 18, 21, 24, 27, 29].getD w 0 + i, nI (WDS.getD (7 * w + i) 0)) ∈ itab0 := by decide +kernel
theorem z_WdR (zr : Rok m 1 3 5 25 45 50 25 5 45) (zi : ∀ e ∈ itab0, m.1 e.1 e.2.1 = e.2.2) : WdR m := ⟨z_ref zr _ _ _ (by decide +kernel), z_ref zr _ _ _ (by decide +kernel), fun w hw => z_int zi _ _ _ (z_w1 w hw), fun w hw i hi => z_int zi _ _ _ (z_w2 w hw i hi)⟩
theorem z_JPm (zr : Rok m 1 3 5 25 45 50 25 5 45) (zi : ∀ e ∈ itab0, m.1 e.1 e.2.1 = e.2.2) (zl : m.2.1 18 0 = 0) : JP m 1 3 5 25 45 50 (fun _ => 0) 0 (fun _ => 0) 0 0 := by
  obtain ⟨q1, q2, q3, q4, q5, q6⟩ := z_00
  refine ⟨z_CRf zr, ⟨⟨?_, ?_, ?_, ?_, ?_, ?_, ?_, ?_⟩, Or.inl ⟨rfl, rfl⟩, Or.inl ⟨rfl, rfl⟩, Or.inl ⟨rfl, rfl⟩⟩, ⟨Or.inl rfl, ?_, ?_, by omega, fun i hi => absurd hi (Nat.not_lt_zero _)⟩, ⟨Or.inr rfl, ?_, ?_, by omega, fun i hi => absurd hi (Nat.not_lt_zero _)⟩, ⟨z_ok, ⟨⟨?_, ?_, ?_, ?_⟩, fun i hi => ?_, fun i hi => ?_, fun i hi => ?_, fun i hi => ?_⟩, fun r hr => ?_, fun r hr => ?_⟩, ?_, z_PTR zr, z_WdR zr zi, ⟨?_, by omega, fun i hi => absurd hi (Nat.not_lt_zero _)⟩, ⟨z_ok, ⟨?_, ?_, by omega, fun i hi => absurd hi (Nat.not_lt_zero _)⟩, ⟨⟨?_, ?_, ?_⟩, fun i hi => ?_, fun i hi => ?_, fun i hi => ?_⟩, ⟨fun i hi => ?_, fun i hi => ?_⟩, fun i hi => ?_⟩, ?_⟩
  · exact z_ref zr _ _ _ (by decide +kernel)
  · exact z_ref zr _ _ _ (by decide +kernel)
  · exact z_ref zr _ _ _ (by decide +kernel)
  · exact z_ref zr _ _ _ (by decide +kernel)
  · exact z_ref zr _ _ _ (by decide +kernel)
  · exact z_ref zr _ _ _ (by decide +kernel)
  · exact z_ref zr _ _ _ (by decide +kernel)
  · exact z_ref zr _ _ _ (by decide +kernel)
  · exact z_ref zr _ _ _ (by decide +kernel)
  · exact z_int zi 1 1 0 (by decide +kernel)
  · exact z_ref zr _ _ _ (by decide +kernel)
  · exact z_int zi 3 1 0 (by decide +kernel)
  · rw [q1]; exact z_int zi 5 11 1 (by decide +kernel)
  · rw [q2]; exact z_int zi 6 4 0 (by decide +kernel)
  · rw [q3]; exact z_int zi 11 4 0 (by decide +kernel)
  · rw [q4]; exact z_int zi 5 12 0 (by decide +kernel)
  · rw [q1] at hi
    have e : i = 0 := by omega
    subst e
    rw [q5, q6, q2, q4]
    exact ⟨z_int zi 16 0 (-1) (by decide +kernel), z_int zi 17 0 0 (by decide +kernel), zl, z_int zi 19 0 0 (by decide +kernel)⟩
  · rw [q2] at hi; exact absurd hi (Nat.not_lt_zero _)
  · rw [q3] at hi; exact absurd hi (Nat.not_lt_zero _)
  · rw [q4] at hi; exact absurd hi (Nat.not_lt_zero _)
  · rw [q3] at hr; exact absurd hr (Nat.not_lt_zero _)
  · rw [q3] at hr; exact absurd hr (Nat.not_lt_zero _)
  · exact z_int zi 0 8 0 (by decide +kernel)
  · exact z_int zi 62 2 0 (by decide +kernel)
  · exact z_ref zr _ _ _ (by decide +kernel)
  · exact z_int zi 62 4 0 (by decide +kernel)
  · rw [q1]; exact z_int zi 62 10 1 (by decide +kernel)
  · rw [q2]; exact z_int zi 62 15 0 (by decide +kernel)
  · rw [q3]; exact z_int zi 62 20 0 (by decide +kernel)
  · rw [q1] at hi
    have e : i = 0 := by omega
    subst e
    rw [q5, q6]
    exact ⟨z_int zi 66 0 (-1) (by decide +kernel), z_int zi 67 0 0 (by decide +kernel)⟩
  · rw [q2] at hi; exact absurd hi (Nat.not_lt_zero _)
  · rw [q3] at hi; exact absurd hi (Nat.not_lt_zero _)
  · rw [q2] at hi; exact absurd hi (Nat.not_lt_zero _)
  · rw [q3] at hi; exact absurd hi (Nat.not_lt_zero _)
  · rw [q3] at hi; exact absurd hi (Nat.not_lt_zero _)
  · exact z_int zi 62 7 0 (by decide +kernel)
end BEG
theorem gM0_l : gM0.2.1 18 0 = 0 := by decide +kernel
theorem z_JP : JP gM0 1 3 5 25 45 50 (fun _ => 0) 0 (fun _ => 0) 0 0 := z_JPm gM0_r gM0_i gM0_l
