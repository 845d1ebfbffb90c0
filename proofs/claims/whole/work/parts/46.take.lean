/-! THE CLASS'S READER: names; a whole token -/
section TAKE
variable {pg F : Nat} {m m' : gM} {q q' : Nat → Nat → Nat} {S : Nat → Nat} {H L : Nat → Int64}
theorem mod_eq (q : Nat → Nat → Nat) (h i : Nat) : uq (aScope (aDecl q h i 0) 1 (h + 1)) 5 (q 0 1) (q 0 0 + 1) = aDecl (aScope q 1 (h + 1)) h i (q 0 0 + 1) := by
  funext a b
  simp only [aDecl, aScope, uq]
  simp
  repeat' split
  all_goals first | rfl | omega
theorem cp_cell (h : CP pg S H L m q) (hpg : pg = 5 ∨ pg = 25) {c j : Nat} {v : Int32} (hc : pg ≤ c ∧ c ≤ pg + 19) (p : CPr pg (gsI m c j v) q' S H L) (e : ∀ a b, a = 9 ∨ a = 10 ∨ a = 11 ∨ (a = 0 ∧ 4 ≤ b) → q' a b = q a b) : CP pg S H L (gsI m c j v) q' ∧ Kp pg m (gsI m c j v) :=
  h.pr hpg p (gKeep.i (by unfold pgZ; omega)) rfl e
theorem st_mod (h : CP pg S H L m q) (hpg : pg = 5 ∨ pg = 25) (hS : aS q) (hd : q 0 4 < 96) {i : Nat} (t : cTk S H L m i) : cStp pg S H L m (f_X3_takeModuleName gSH F 55 m) (aMod i q) := by
  obtain ⟨o1, o2, o3, b2, b3, b4, b5, b7, b8, b9, b10, b11, b12, b13, b14, b15, b16, b17, b18, b19, l3, l8⟩ := gP hpg
  have hR := h.2.2.2.2.2.2.2.2
  have hR0 := h.2.2.2.2.1
  have a3 := h.2.1.1.2.2.1
  have hq0 := hS.1.2.1
  have hq1 := hS.1.2.2.1
  have hh := hS.1.2.2.2.2.2.1
  unfold f_X3_takeModuleName aMod
  rw [ob_55, g_ift, hR, g_bs, hR0, g_bs, o1, g_ift, a3]
  by_cases c : 60 ≤ q 0 1
  · rw [if_pos c, p_declF hpg h.2.2.2.1 h.1 c hq1, g_bs, g_nmb, g_nmb, if_pos rfl]
    exact st_code h (by decide)
  rw [if_neg c]
  obtain ⟨m1, e1, c1, k1⟩ := cp_decl (F := F) h hpg hS (by omega) hh t
  have hR1 := c1.2.2.2.2.2.2.2.2
  have S1 : aS (aDecl q (q 0 6) i 0) := aS_decl hS (by omega) hh (by omega)
  have f0 : (aDecl q (q 0 6) i 0) 0 0 = q 0 0 := by simp [aDecl, uq]
  have f6 : (aDecl q (q 0 6) i 0) 0 6 = q 0 6 := by simp [aDecl, uq]
  have a31 : m1.1 55 7 = nI (q 0 6) := by rw [← f6]; exact c1.2.1.1.2.2.1
  rw [e1, g_bs, g_nmb, g_nmb, if_neg (show ¬ nI (q 0 1) = -1 from nI_m1 (by omega)), hR1, g_bs, o1, g_ift, a31]
  by_cases c2 : 64 ≤ q 0 0
  · rw [if_pos c2, p_scopeF hpg c1.1 (by rw [f0]; exact c2) (by rw [f0]; exact hq0), g_bs, g_nmb, g_nmb, if_pos rfl]
    exact ⟨m1, rfl, fun e => absurd e (show ¬ (5 : Nat) = 0 by decide), k1⟩
  rw [if_neg c2]
  obtain ⟨m2, e2, c2', k2⟩ := cp_scope (F := F) c1 hpg S1 (by rw [f0]; omega) 1 (q 0 6 + 1)
  rw [f0, nI_pred] at e2
  have hR2 := c2'.2.2.2.2.2.2.2.2
  have r6 := c2'.2.2.2.1.2.2.2.2.2.2.1
  obtain ⟨c3, k3⟩ := cp_cell (m := m2) (q := aScope (aDecl q (q 0 6) i 0) 1 (q 0 6 + 1)) c2' hpg (c := pg + 15) (j := q 0 1) (v := nI (q 0 0)) (by omega) (p_own c2'.1) (fun a b hab => by
    simp only [uq]
    rw [if_neg (by omega)])
  rw [mod_eq] at c3
  rw [show f_X2_makeScope gSH F pg 1 (nI (q 0 6)) m1 = some (nI (q 0 0), m2) from e2, g_bs, g_nmb, g_nmb, if_neg (show ¬ nI (q 0 0) = -1 from nI_m1 (by omega)), hR2, g_bs, o1, g_ift, r6, g_bs, b15, g_inI (by omega) (by decide), g_ift, nI_clamp (by omega), g_nmb]
  obtain ⟨m4, e4, c4, k4⟩ := cp_push (F := F) c3 hpg (by simpa [aDecl, aScope, uq] using hd) 1 (q 0 0) (by decide)
  obtain ⟨c5, k5⟩ := cp_here c4 hpg (q 0 0)
  dsimp only
  rw [show f_X3_push gSH F 55 1 (nI (q 0 0)) (gsI m2 (pg + 15) (q 0 1) (nI (q 0 0))) = some m4 from e4, g_bs, g_nmb, g_id]
  exact (st_turn c5 hpg 8).of ((((k1.trans k2).trans k3).trans k4).trans k5)
theorem st_impN (h : CP pg S H L m q) (hpg : pg = 5 ∨ pg = 25) (hS : aS q) (hd : q 0 4 < 96) {i : Nat} (t : cTk S H L m i) : cStp pg S H L m (f_X3_takeImportName gSH F 55 m) (aImpN i q) := by
  obtain ⟨o1, o2, o3, -⟩ := gP hpg
  have hR := h.2.2.2.2.2.2.2.2
  have a3 := h.2.1.1.2.2.1
  have a12 := h.1.1.2.2.2
  have r1 := h.2.2.2.1.2.1
  have hq3 := hS.1.2.2.2.2.1
  have hq2 := hS.1.2.2.2.1
  unfold f_X3_takeImportName aImpN
  rw [ob_55, g_ift, hR, g_bs, o1, g_ift, a12, a3]
  by_cases c : 6 ≤ q 0 3
  · rw [if_pos c, if_neg (show ¬ nI (q 0 3) < 6 from nI_nlt (b := 6) c (by omega))]
    exact st_code h (by decide)
  rw [if_neg c, if_pos (show nI (q 0 3) < 6 from nI_lt (b := 6) (by omega) (by decide))]
  obtain ⟨m1, e1, c1, k1⟩ := r_push (F := F) h.2.2.2.2 h.2.1 hd 10 (q 0 6)
  have ep : m1.1 (pg + 6) 4 = nI (q 0 2) := by
    rw [k1.1 (pg + 6) (by unfold rdC; omega)]
    exact h.1.1.2.2.1
  have r22 : m1.2.2 = m.2.2 := by rw [k1.2.1]
  have g9 : gKeep (fun k => pg ≤ k ∧ k ≤ pg + 19) m (gsI m1 55 9 (nI (q 0 2))) := fun x hx => ⟨by
      rw [gsI_ne (show x ≠ 55 by omega)]
      exact k1.1 x (by unfold rdC; omega), by
      show m1.2.1 x = _
      rw [k1.2.1], by
      show m1.2.2 x = _
      rw [k1.2.1]⟩
  have C2 : CP pg S H L (gsI m1 55 9 (nI (q 0 2))) (uq (aPush q 10 (q 0 6)) 0 8 (q 0 2)) := by
    refine ⟨(h.1.keep g9).eq (fun a b h1 h2 h3 h4 => ?_), ?_, fun _ => ?_, ?_, ?_⟩
    · simp only [aPush, uq]
      rw [if_neg (by omega), if_neg (by omega), if_neg (by omega), if_neg (by omega), if_neg (by omega)]
    · obtain ⟨⟨x1, x2, x3, x4⟩, x5⟩ := c1
      refine ⟨⟨?_, ?_, ?_, ?_⟩, fun j hj => ?_⟩
      · simpa [uq, gI_1] using x1
      · simpa [uq, gI_1] using x2
      · simpa [uq, gI_1] using x3
      · simpa [uq, gI_1] using x4
      · have := x5 j (by simpa [uq] using hj)
        simpa [uq, gI_1] using this
    · simp [uq, gI_1]
    · show PR m1.2.2 pg
      rw [r22]; exact h.2.2.2.1
    · show RR m1.2.2 pg
      rw [r22]; exact h.2.2.2.2
  have K2 : Kp pg m (gsI m1 55 9 (nI (q 0 2))) := ⟨fun x hx => ⟨by
      rw [gsI_ne (show x ≠ 55 from fun e => hx.2 (by unfold rdC; omega))]
      exact k1.1 x hx.2, by
      show m1.2.1 x = _
      rw [k1.2.1], by
      show m1.2.2 x = _
      rw [k1.2.1]⟩, r22⟩
  have hR' : m1.2.2 55 4 = some pg := by rw [r22]; exact hR
  have r1' : m1.2.2 pg 1 = some (pg + 6) := by rw [r22]; exact r1
  rw [show (10 : Int32) = nI 10 from rfl, e1, g_bs, hR', g_bs, o1, g_ift, r1', g_bs, o3, g_ift, ep, g_nmb, g_id]
  exact (st_first C2 hpg (by simpa [aPush, uq] using hq2) (t.k hpg K2)).of K2
theorem st_next (h : CP pg S H L m q) (hpg : pg = 5 ∨ pg = 25) (hS : aS q) {i : Nat} (h2 : 0 < q 0 2) (t : cTk S H L m i) : cStp pg S H L m (f_X3_takeNextOfLong gSH F 55 m) (aNext i q) := by
  obtain ⟨o1, o2, o3, b2, b3, b4, b5, b7, b8, b9, b10, b11, b12, b13, b14, b15, b16, b17, b18, b19, l3, l8⟩ := gP hpg
  have hR := h.2.2.2.2.2.2.2.2
  have a2 := h.1.1.2.2.1
  have r1 := h.2.2.2.1.2.1
  have hq0 := hS.1.2.1
  have hq2 := hS.1.2.2.2.1
  unfold f_X3_takeNextOfLong aNext
  rw [ob_55, g_ift, hR, g_bs, o1, g_ift, r1, g_bs, o3, g_ift, a2, g_nmb, show nI (q 0 2) - 1 = nI (q 0 2 - 1) from pk_sub (b := 1) (by omega), if_neg (nI_pos (by omega)), if_neg (show ¬ q 0 2 = 0 by omega), nI_1, show q 0 2 - 1 + 1 = q 0 2 by omega]
  by_cases c : 100 ≤ q 0 2
  · rw [if_pos c, if_neg (show ¬ nI (q 0 2) < 100 from nI_nlt (b := 100) c (by omega))]
    exact st_code h (by decide)
  rw [if_neg c, if_pos (show nI (q 0 2) < 100 from nI_lt (b := 100) (by omega) (by decide)), g_bs, o1, g_ift]
  by_cases c2 : 64 ≤ q 0 0
  · rw [if_pos c2, p_scopeF hpg h.1 c2 hq0, g_bs, g_nmb, g_nmb, if_pos rfl]
    exact st_code h (by decide)
  rw [if_neg c2]
  obtain ⟨m1, e1, c1, k1⟩ := cp_scope (F := F) h hpg hS (by omega) 6 0
  rw [show nI 0 - 1 = (-1 : Int32) by decide] at e1
  have hR1 := c1.2.2.2.2.2.2.2.2
  have hR10 := c1.2.2.2.2.1
  have r7 := c1.2.2.2.1.2.2.2.2.2.2.2.1
  obtain ⟨c3, k3⟩ := cp_cell (m := m1) (q := aScope q 6 0) c1 hpg (c := pg + 16) (j := q 0 2 - 1) (v := nI (q 0 0)) (by omega) (p_imp c1.1) (fun a b hab => by
    simp only [uq]
    rw [if_neg (by omega)])
  rw [show (6 : Int32) = nI 6 from rfl, e1, g_bs, g_nmb, g_nmb, if_neg (show ¬ nI (q 0 0) = -1 from nI_m1 (by omega)), hR1, g_bs, o1, g_ift, r7, g_bs, b16, g_inI (by omega) (by decide), g_ift, nI_clamp (by omega), g_nmb]
  have hR3 := c3.2.2.2.2.2.2.2.2
  have hR30 := c3.2.2.2.2.1
  obtain ⟨m4, e4, c4, k4⟩ := cp_ref (F := F) (sc := q 0 0) c3 hpg (by simp [aScope, uq]; omega) (t.k hpg (k1.trans k3))
  rw [hR3, g_bs, hR30, g_bs, o1, g_ift, e4, g_bs, g_nmb, g_nmb, g_id]
  exact (st_turn c4 hpg 11).of ((k1.trans k3).trans k4)
theorem st_bind (h : CP pg S H L m q) (hpg : pg = 5 ∨ pg = 25) (hW : aW q) {i : Nat} (hd : q 0 4 < 96) (hp : 0 < q 0 4) (t : cTk S H L m i) : cStp pg S H L m (f_X3_takeBindName gSH F 55 m) (aBind i q) := by
  obtain ⟨o1, o2, o3, -⟩ := gP hpg
  have hS := hW.1
  have hR := h.2.2.2.2.2.2.2.2
  have a1 := h.1.1.2.1
  have r0 := h.2.2.2.1.1
  have hq0 := hS.1.2.1
  have hq1 := hS.1.2.2.1
  have htI := tI_lt hS
  have htO := tO_lt hS
  have hf : topF q ≤ 14 := by
    have a := hS.2.2.2.2.1 (q 0 4 - 1)
    unfold topF
    split <;> omega
  have fl : ∀ v : Nat, v < 300 → (nI (topF q) = nI v ↔ topF q = v) := fun v hv => k_lit (by omega) hv
  unfold f_X3_takeBindName aBind b_X3_takeBindName_29
  rw [ob_55, g_ift, r_topF h.2.2.2.2 h.2.1 (by omega), g_bs, g_nmb, g_nmb, r_topI h.2.2.2.2 h.2.1 (by omega), g_bs, g_nmb, g_nmb]
  by_cases f3 : topF q = 3
  · rw [if_pos (show nI (topF q) = 3 from (fl 3 (by decide)).mpr f3), if_pos f3, hR, g_bs, o1, g_ift, r0, g_bs, o2, g_ift, a1]
    by_cases c : 60 ≤ q 0 1
    · rw [if_pos c, if_neg (show ¬ nI (q 0 1) < 60 from nI_nlt (b := 60) c (by omega))]
      exact st_code h (by decide)
    rw [if_neg c, if_pos (show nI (q 0 1) < 60 from nI_lt (b := 60) (by omega) (by decide)), g_bs, o1, g_ift]
    by_cases c2 : 64 ≤ q 0 0
    · rw [if_pos c2, p_scopeF hpg h.1 c2 hq0, g_bs, g_nmb, g_nmb, if_pos rfl]
      exact st_code h (by decide)
    rw [if_neg c2]
    obtain ⟨m1, e1, c1, k1⟩ := cp_scope (F := F) h hpg hS (by omega) 3 (topI q + 1)
    rw [nI_pred] at e1
    rw [show (3 : Int32) = nI 3 from rfl, e1, g_bs, g_nmb, g_nmb, if_neg (show ¬ nI (q 0 0) = -1 from nI_m1 (by omega)), g_nmb]
    obtain ⟨c3, k3⟩ := cp_here c1 hpg (topI q)
    obtain ⟨m4, e4, c4, k4⟩ := cp_top (F := F) c3 hpg (by simp [aScope, uq]; omega) (by simpa [aScope, uq] using hp) 3 (q 0 0) (by decide)
    have S1 : aS (aScope q 3 (topI q + 1)) := aS_scope hS (by omega) (by omega) (by omega)
    have S2 : aS (uq (aScope q 3 (topI q + 1)) 0 6 (topI q)) := aS_here S1 (by simp [aScope, uq]; omega)
    have S3 : aS (aTop (uq (aScope q 3 (topI q + 1)) 0 6 (topI q)) 3 (q 0 0)) := aS_top S2 (by omega) (by simp [aScope, uq])
    rw [e4, g_bs, g_id]
    exact (st_declIn c4 hpg S3 (by simp [aTop, aScope, uq]) 7 (t.k hpg ((k1.trans k3).trans k4))).of ((k1.trans k3).trans k4)
  rw [if_neg (show ¬ nI (topF q) = 3 from fun e => f3 ((fl 3 (by decide)).mp e)), if_neg f3]
  by_cases f4 : topF q = 4
  · rw [if_pos (show nI (topF q) = 4 from (fl 4 (by decide)).mpr f4), if_pos f4, g_ift, g_nmb, g_ift, g_id]
    obtain ⟨c3, k3⟩ := cp_here h hpg (topI q)
    exact (st_declIn c3 hpg (aS_here hS htI) (by simpa [uq] using htI) 7 (t.k hpg k3)).of k3
  · rw [if_neg (show ¬ nI (topF q) = 4 from fun e => f4 ((fl 4 (by decide)).mp e)), if_neg f4, r_topO h.2.2.2.2 h.2.1 (by omega), g_bs, g_nmb, g_nmb, g_ift, g_nmb, g_ift, g_id]
    obtain ⟨c3, k3⟩ := cp_here h hpg (topO q)
    exact (st_declIn c3 hpg (aS_here hS htO) (by simpa [uq] using htI) 7 (t.k hpg k3)).of k3
theorem st_name (h : CP pg S H L m q) (hpg : pg = 5 ∨ pg = 25) (hW : aW q) {i : Nat} (h7 : q 0 7 ≠ 0 ∧ q 0 7 ≠ 7 ∧ q 0 7 ≠ 8 ∧ q 0 7 ≠ 9 ∧ q 0 7 ≠ 10 ∧ q 0 7 ≠ 11 ∧ q 0 7 ≠ 12) (t : cTk S H L m i) : cStp pg S H L m (f_X3_takeName gSH F 55 m) (aName i q) := by
  have hS := hW.1
  have hZ := hW.2.1
  have hd := aZs_d hZ hS.1.2.2.2.2.2.2 hS.1.2.2.1
  have a4 := h.2.1.1.2.2.2
  have a3 := h.2.1.1.2.2.1
  have hh := hS.1.2.2.2.2.2.1
  have htI := tI_lt hS
  unfold aZs at hZ
  have fl : ∀ v : Nat, v < 300 → (nI (q 0 7) = nI v ↔ q 0 7 = v) := fun v hv => k_lit (by omega) hv
  unfold f_X3_takeName aName
  rw [ob_55, g_ift, a4, a3, g_id, g_id, g_id, g_id]
  by_cases s1 : q 0 7 = 1
  · rw [if_pos (show nI (q 0 7) = 1 from (fl 1 (by decide)).mpr s1), if_pos s1]
    exact st_mod h hpg hS (by omega) t
  rw [if_neg (show ¬ nI (q 0 7) = 1 from fun e => s1 ((fl 1 (by decide)).mp e)), if_neg s1]
  by_cases s2 : q 0 7 = 2
  · rw [if_pos (show nI (q 0 7) = 2 from (fl 2 (by decide)).mpr s2), if_pos s2]
    exact st_impN h hpg hS (by omega) t
  rw [if_neg (show ¬ nI (q 0 7) = 2 from fun e => s2 ((fl 2 (by decide)).mp e)), if_neg s2]
  by_cases s3 : q 0 7 = 3
  · rw [if_pos (show nI (q 0 7) = 3 from (fl 3 (by decide)).mpr s3), if_pos s3]
    obtain ⟨m1, e1, c1, k1⟩ := cp_push (F := F) h hpg (by omega) 11 (q 0 6) (by decide)
    have a31 : m1.1 55 7 = nI (q 0 6) := by
      have := c1.2.1.1.2.2.1
      simpa [aPush, uq] using this
    rw [show (11 : Int32) = nI 11 from rfl, e1, g_bs, a31, g_id]
    exact (st_declIn c1 hpg (aS_push hS (by omega) hh) (by simp [aPush, uq]; omega) 7 (t.k hpg k1)).of k1
  rw [if_neg (show ¬ nI (q 0 7) = 3 from fun e => s3 ((fl 3 (by decide)).mp e)), if_neg s3]
  by_cases s4 : q 0 7 = 4
  · rw [if_pos (show nI (q 0 7) = 4 from (fl 4 (by decide)).mpr s4), if_pos s4, r_topI h.2.2.2.2 h.2.1 (by omega), g_bs, g_nmb, g_nmb, g_nmb]
    obtain ⟨c3, k3⟩ := cp_here h hpg (topI q)
    rw [show (gsI m 55 7 (nI (topI q))).1 55 7 = nI (topI q) by rw [gI_1, if_pos ⟨rfl, rfl⟩], g_id]
    exact (st_declIn c3 hpg (aS_here hS htI) (by simpa [uq] using htI) 9 (t.k hpg k3)).of k3
  rw [if_neg (show ¬ nI (q 0 7) = 4 from fun e => s4 ((fl 4 (by decide)).mp e)), if_neg s4]
  by_cases s5 : q 0 7 = 5
  · rw [if_pos (show nI (q 0 7) = 5 from (fl 5 (by decide)).mpr s5), if_pos s5]
    exact st_bind h hpg hW (by omega) (by omega) t
  rw [if_neg (show ¬ nI (q 0 7) = 5 from fun e => s5 ((fl 5 (by decide)).mp e)), if_neg s5]
  exact st_next h hpg hS (by omega) t
theorem st_dec (h : CP pg S H L m q) (hpg : pg = 5 ∨ pg = 25) (hW : aW q) {k : Nat} (hk : k < 300) : cStp pg S H L m (f_X3_takeDec gSH F 55 (nI k) m) (aDec k q) := by
  have hS := hW.1
  have hZ := hW.2.1
  have hj := hW.2.2
  have hd := aZs_d hZ hS.1.2.2.2.2.2.2 hS.1.2.2.1
  have a1 := h.2.1.1.1
  have hf : topF q ≤ 14 := by
    have a := hS.2.2.2.2.1 (q 0 4 - 1)
    unfold topF
    split <;> omega
  have fl : ∀ v : Nat, v < 300 → (nI (topF q) = nI v ↔ topF q = v) := fun v hv => k_lit (by omega) hv
  unfold f_X3_takeDec aDec
  rw [ob_55, g_ift, g_ift, g_ift, g_ift, g_ift, g_id, g_id, g_id]
  by_cases c1 : k = 125
  · rw [if_pos (show nI k = 125 from (k_lit hk (by decide)).mpr c1), if_pos c1, r_topF h.2.2.2.2 h.2.1 (by omega), g_bs, g_nmb, g_nmb]
    by_cases c : topF q = 1
    · rw [if_pos (show nI (topF q) = 1 from (fl 1 (by decide)).mpr c), if_pos c, g_id]
      have hp := tF_pos (show topF q ≠ 14 by omega)
      exact st_close h hpg (by omega) hp (by omega) hj 0
    · rw [if_neg (show ¬ nI (topF q) = 1 from fun e => c ((fl 1 (by decide)).mp e)), if_neg c]
      exact st_code h (by decide)
  rw [if_neg (show ¬ nI k = 125 from fun e => c1 ((k_lit hk (by decide)).mp e)), if_neg c1]
  by_cases c2 : k = 256
  · rw [if_pos (show nI k = 256 from (k_lit hk (by decide)).mpr c2), if_pos c2]
    exact st_turn h hpg 1
  rw [if_neg (show ¬ nI k = 256 from fun e => c2 ((k_lit hk (by decide)).mp e)), if_neg c2]
  by_cases c3 : k = 257
  · rw [if_pos (show nI k = 257 from (k_lit hk (by decide)).mpr c3), if_pos c3]
    exact st_turn h hpg 2
  rw [if_neg (show ¬ nI k = 257 from fun e => c3 ((k_lit hk (by decide)).mp e)), if_neg c3]
  by_cases c4 : k = 258
  · rw [if_pos (show nI k = 258 from (k_lit hk (by decide)).mpr c4), if_pos c4]
    exact st_turn h hpg 3
  rw [if_neg (show ¬ nI k = 258 from fun e => c4 ((k_lit hk (by decide)).mp e)), if_neg c4]
  by_cases c5 : k = 266
  · rw [if_pos (show nI k = 266 from (k_lit hk (by decide)).mpr c5), if_pos c5, a1]
    by_cases c : q 0 4 = 0
    · rw [if_pos (show nI (q 0 4) = 0 by rw [c]; rfl), if_pos c]
      exact ⟨m, rfl, fun _ => h, Kp.refl m⟩
    · rw [if_neg (nI_ne0 (by omega) (by omega)), if_neg c]
      exact st_code h (by decide)
  · rw [if_neg (show ¬ nI k = 266 from fun e => c5 ((k_lit hk (by decide)).mp e)), if_neg c5]
    exact st_code h (by decide)
theorem st_take (h : CP pg S H L m q) (hpg : pg = 5 ∨ pg = 25) (hW : aW q) (hF : 5000 ≤ F) {i k : Nat} (hk : k < 300) (t : k = 264 → cTk S H L m i) : cStp pg S H L m (f_X3_take gSH F 55 (nI k) m) (aT i k q) := by
  have hS := hW.1
  have hZ := hW.2.1
  have hd := aZs_d hZ hS.1.2.2.2.2.2.2 hS.1.2.2.1
  have a4 := h.2.1.1.2.2.2
  have hq5 := hS.1.2.2.2.2.2.2
  unfold aZs at hZ
  have fl : ∀ v : Nat, v < 300 → (nI (q 0 7) = nI v ↔ q 0 7 = v) := fun v hv => k_lit (by omega) hv
  have e161 : (q 0 7 ≠ 0 ∧ q 0 7 ≠ 7 ∧ q 0 7 ≠ 8 ∧ q 0 7 ≠ 9 ∧ q 0 7 ≠ 10 ∧ q 0 7 ≠ 11 ∧ q 0 7 ≠ 12) → cStp pg S H L m (b_X3_take_161 gSH F 55 (nI k) m) (if k = 264 then aName i q else (2, q)) := by
    intro h7
    unfold b_X3_take_161
    by_cases c : k = 264
    · rw [if_pos (show nI k = 264 from (k_lit hk (by decide)).mpr c), if_pos c, ob_55, g_ift, g_id]
      exact st_name h hpg hW h7 (t c)
    · rw [if_neg (show ¬ nI k = 264 from fun e => c ((k_lit hk (by decide)).mp e)), if_neg c]
      exact st_code h (by decide)
  unfold f_X3_take aT
  rw [ob_55, g_ift, a4]
  by_cases s0 : q 0 7 = 0
  · rw [if_pos (show nI (q 0 7) = 0 from (fl 0 (by decide)).mpr s0), if_pos s0, g_id]
    exact st_dec h hpg hW hk
  rw [if_neg (show ¬ nI (q 0 7) = 0 from fun e => s0 ((fl 0 (by decide)).mp e)), if_neg s0]
  by_cases s1 : q 0 7 = 1
  · rw [if_pos (show nI (q 0 7) = 1 from (fl 1 (by decide)).mpr s1), if_neg (by omega), if_neg (by omega), if_neg (by omega), if_neg (by omega), if_neg (by omega), if_neg (by omega)]
    exact e161 (by omega)
  rw [if_neg (show ¬ nI (q 0 7) = 1 from fun e => s1 ((fl 1 (by decide)).mp e))]
  by_cases s2 : q 0 7 = 2
  · rw [if_pos (show nI (q 0 7) = 2 from (fl 2 (by decide)).mpr s2), if_neg (by omega), if_neg (by omega), if_neg (by omega), if_neg (by omega), if_neg (by omega), if_neg (by omega)]
    exact e161 (by omega)
  rw [if_neg (show ¬ nI (q 0 7) = 2 from fun e => s2 ((fl 2 (by decide)).mp e))]
  by_cases s3 : q 0 7 = 3
  · rw [if_pos (show nI (q 0 7) = 3 from (fl 3 (by decide)).mpr s3), if_neg (by omega), if_neg (by omega), if_neg (by omega), if_neg (by omega), if_neg (by omega), if_neg (by omega)]
    exact e161 (by omega)
  rw [if_neg (show ¬ nI (q 0 7) = 3 from fun e => s3 ((fl 3 (by decide)).mp e))]
  by_cases s4 : q 0 7 = 4
  · rw [if_pos (show nI (q 0 7) = 4 from (fl 4 (by decide)).mpr s4), if_neg (by omega), if_neg (by omega), if_neg (by omega), if_neg (by omega), if_neg (by omega), if_neg (by omega)]
    exact e161 (by omega)
  rw [if_neg (show ¬ nI (q 0 7) = 4 from fun e => s4 ((fl 4 (by decide)).mp e))]
  by_cases s5 : q 0 7 = 5
  · rw [if_pos (show nI (q 0 7) = 5 from (fl 5 (by decide)).mpr s5), if_neg (by omega), if_neg (by omega), if_neg (by omega), if_neg (by omega), if_neg (by omega), if_neg (by omega)]
    exact e161 (by omega)
  rw [if_neg (show ¬ nI (q 0 7) = 5 from fun e => s5 ((fl 5 (by decide)).mp e))]
  by_cases s6 : q 0 7 = 6
  · rw [if_pos (show nI (q 0 7) = 6 from (fl 6 (by decide)).mpr s6), if_neg (by omega), if_neg (by omega), if_neg (by omega), if_neg (by omega), if_neg (by omega), if_neg (by omega)]
    exact e161 (by omega)
  rw [if_neg (show ¬ nI (q 0 7) = 6 from fun e => s6 ((fl 6 (by decide)).mp e))]
  by_cases s7 : q 0 7 = 7
  · rw [if_pos (show nI (q 0 7) = 7 from (fl 7 (by decide)).mpr s7), if_pos s7]
    by_cases c : k = 61
    · rw [if_pos (show nI k = 61 from (k_lit hk (by decide)).mpr c), if_pos c, g_id]
      exact st_turn h hpg 10
    · rw [if_neg (show ¬ nI k = 61 from fun e => c ((k_lit hk (by decide)).mp e)), if_neg c]
      exact st_code h (by decide)
  rw [if_neg (show ¬ nI (q 0 7) = 7 from fun e => s7 ((fl 7 (by decide)).mp e)), if_neg s7]
  by_cases s8 : q 0 7 = 8
  · rw [if_pos (show nI (q 0 7) = 8 from (fl 8 (by decide)).mpr s8), if_pos s8]
    by_cases c : k = 123
    · rw [if_pos (show nI k = 123 from (k_lit hk (by decide)).mpr c), if_pos c, g_id]
      exact st_open h hpg hq5 0
    · rw [if_neg (show ¬ nI k = 123 from fun e => c ((k_lit hk (by decide)).mp e)), if_neg c]
      exact st_code h (by decide)
  rw [if_neg (show ¬ nI (q 0 7) = 8 from fun e => s8 ((fl 8 (by decide)).mp e)), if_neg s8]
  by_cases s9 : q 0 7 = 9
  · rw [if_pos (show nI (q 0 7) = 9 from (fl 9 (by decide)).mpr s9), if_pos s9]
    by_cases c : k = 123
    · rw [if_pos (show nI k = 123 from (k_lit hk (by decide)).mpr c), if_pos c, g_id]
      exact st_open h hpg hq5 10
    · rw [if_neg (show ¬ nI k = 123 from fun e => c ((k_lit hk (by decide)).mp e)), if_neg c]
      exact st_code h (by decide)
  rw [if_neg (show ¬ nI (q 0 7) = 9 from fun e => s9 ((fl 9 (by decide)).mp e)), if_neg s9]
  by_cases s10 : q 0 7 = 10
  · rw [if_pos (show nI (q 0 7) = 10 from (fl 10 (by decide)).mpr s10), if_pos s10, g_id]
    exact st_atom h hpg hS (by omega) hk t
  rw [if_neg (show ¬ nI (q 0 7) = 10 from fun e => s10 ((fl 10 (by decide)).mp e)), if_neg s10]
  by_cases s11 : q 0 7 = 11
  · rw [if_pos (show nI (q 0 7) = 11 from (fl 11 (by decide)).mpr s11), if_pos s11]
    by_cases c : k = 46
    · rw [if_pos (show nI k = 46 from (k_lit hk (by decide)).mpr c), if_pos c, g_id]
      exact st_turn h hpg 6
    · rw [if_neg (show ¬ nI k = 46 from fun e => c ((k_lit hk (by decide)).mp e)), if_neg c, g_id]
      exact st_beh h hpg hW hF hk t
  rw [if_neg (show ¬ nI (q 0 7) = 11 from fun e => s11 ((fl 11 (by decide)).mp e)), if_neg s11]
  by_cases s12 : q 0 7 = 12
  · rw [if_pos (show nI (q 0 7) = 12 from (fl 12 (by decide)).mpr s12), if_pos s12, g_id]
    exact st_beh h hpg hW hF hk t
  · omega
end TAKE
theorem aT_lt (i k : Nat) (q : Nat → Nat → Nat) : (aT i k q).1 < 2 ^ 31 := by
  have key : ∀ a : Nat × (Nat → Nat → Nat), a.1 ≤ 5 → a.1 < 2 ^ 31 := fun a h => by omega
  refine key _ ?_
  have o : ∀ q s, (aOpen q s).1 ≤ 5 := fun q s => by unfold aOpen; split <;> simp
  have w : ∀ q a b, (aSW q a b).1 ≤ 5 := fun q a b => by unfold aSW; split <;> simp
  have f : ∀ q, (aFirst i q).1 ≤ 5 := fun q => by unfold aFirst; split <;> simp
  have d : ∀ q a b, (aDeclIn i q a b).1 ≤ 5 := fun q a b => by unfold aDeclIn; split <;> simp
  have at' : ∀ q, (aAtom i k q).1 ≤ 5 := fun q => by unfold aAtom; (repeat' split); all_goals first | exact o _ _ | exact w _ _ _ | exact f _ | simp
  have be : ∀ q, (aBeh i k q).1 ≤ 5 := fun q => by unfold aBeh; (repeat' split); all_goals first | exact at' _ | simp
  have de : ∀ q, (aDec k q).1 ≤ 5 := fun q => by unfold aDec; (repeat' split); all_goals simp
  have bi' : ∀ q, (aBind i q).1 ≤ 5 := fun q => by unfold aBind; (repeat' split); all_goals first | exact d _ _ _ | simp
  have na : ∀ q, (aName i q).1 ≤ 5 := fun q => by unfold aName aMod aImpN aNext; (repeat' split); all_goals first | exact d _ _ _ | exact bi' _ | exact f _ | simp
  unfold aT
  repeat' split
  all_goals first | exact o _ _ | exact at' _ | exact be _ | exact de _ | exact na _ | simp
