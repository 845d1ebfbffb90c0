/-! THE CALLS THAT ONLY LOOK: count, scope -/
section JNT
variable {F tp tx pg df mn tr : Nat} {m m' : gM} {bt bx : Nat → Nat} {nt nx f : Nat}
theorem CRf.pr (h : CRf m) (hpg : pg = 5 ∨ pg = 25) : PR m.2.2 pg := by
  rcases hpg with rfl | rfl
  · exact h.1.1
  · exact h.1.2
theorem CRf.mr (h : CRf m) (hmn : mn = 45 ∨ mn = 50) : m.2.2 mn 0 = some (mn + 1) ∧ m.2.2 mn 1 = some (mn + 2) ∧ m.2.2 mn 2 = some (mn + 3) ∧ m.2.2 mn 3 = some (mn + 4) := by
  rcases hmn with rfl | rfl
  · exact h.2.2.1.1
  · exact h.2.2.1.2
/-- loops of the reference over its own rows -/
theorem r_imports (hp : PTR m) {q : Nat → Nat → Nat} {S Ln : Nat → Nat} (R : RPr S Ln m q) (hS : aS q) (hF : 5000 ≤ F) : l_X8_count_81 gSH F F 62 0 0 m = some (nI (bc (q 0 2) (fun r => decide (q 8 r ≠ 0))), m) := by
  have l2 := hS.1.2.2.2.1
  have l0 := hS.1.2.1
  refine cnt_run (p := fun r => decide (q 8 r ≠ 0)) (L := fun N a i => l_X8_count_81 gSH F N 62 a i m) (by omega) (fun N acc => ?_) (fun N acc i hi => ?_)
  · show b_X8_count_81 gSH F (l_X8_count_81 gSH F N) 62 acc (nI (q 0 2)) m = _
    unfold b_X8_count_81
    rw [ob_62, g_ift, R.1.2.2, if_pos (nI_le (Nat.le_refl _) (by omega))]
  · have q8 := (hS.2.2.2.1 i hi).2.1
    show b_X8_count_81 gSH F (l_X8_count_81 gSH F N) 62 acc (nI i) m = _
    unfold b_X8_count_81 b_X8_count_104
    rw [ob_62, g_ift, R.1.2.2, if_neg (nI_ge hi (by omega)), hp.1.1.2.2.2.2.2.2.2.2.2, g_bs, show aB gSH 75 .int (nI i) = true from g_inI (N := 101) (by omega) (by decide), g_ift, nI_clamp (by omega), (R.2.2.2 i hi).2.2.2]
    simp only [g_nmb, nI_a1]
    by_cases c : q 8 i = 0
    · rw [c, if_pos (show nI 0 - 1 < 0 by decide), if_neg (by simp)]
    · rw [if_neg (show ¬ nI (q 8 i) - 1 < 0 by rw [nI_p1 (by omega)]; exact nI_pos (by omega)), if_pos (by simp [c])]
theorem r_means (hp : PTR m) (hF : 5000 ≤ F) {nR : Nat} (h20 : m.1 62 20 = nI nR) (hR : nR ≤ 100) (hX : ∀ r, r < nR → ∀ d, bm (m.2.1 104 r) d = true → d < 61) (w : Int32) : l_X8_count_116 gSH F F 62 w 0 0 m = some (nI (bc nR (fun r => if w = 4 then decide (m.2.1 104 r = 0) else decide (1 < bc 64 (bm (m.2.1 104 r))))), m) := by
  refine cnt_run (p := fun r => if w = 4 then decide (m.2.1 104 r = 0) else decide (1 < bc 64 (bm (m.2.1 104 r)))) (L := fun N a i => l_X8_count_116 gSH F N 62 w a i m) (by omega) (fun N acc => ?_) (fun N acc i hi => ?_)
  · show b_X8_count_116 gSH F (l_X8_count_116 gSH F N) 62 w acc (nI nR) m = _
    unfold b_X8_count_116
    rw [ob_62, g_ift, h20, if_pos (nI_le (Nat.le_refl _) (by omega))]
  · have cc := bc_le (bm (m.2.1 104 i)) 64
    show b_X8_count_116 gSH F (l_X8_count_116 gSH F N) 62 w acc (nI i) m = _
    unfold b_X8_count_116 b_X8_count_167
    rw [ob_62, g_ift, h20, if_neg (nI_ge hi (by omega)), hp.2.2.2.2.2.1.1, g_bs, show aB gSH 104 .long (nI i) = true from g_inI (N := 101) (by omega) (by decide), g_ift, nI_clamp (by omega), g_bs, show aB gSH 104 .long (nI i) = true from g_inI (N := 101) (by omega) (by decide), g_ift, s_many _ hF (hX i hi), g_bs]
    simp only [g_nmb, nI_a1]
    by_cases c4 : w = 4
    · simp only [c4, if_true]
      by_cases c : m.2.1 104 i = 0
      · simp only [c, if_true, decide_true]
      · simp only [c, if_false, decide_false, Bool.false_eq_true]
    · simp only [c4, if_false]
      by_cases c : 1 < bc 64 (bm (m.2.1 104 i))
      · rw [if_neg (show ¬ nI (bc 64 (bm (m.2.1 104 i))) ≤ 1 from nI_ge (a := 1) c (by omega)), if_pos (by simp [c])]
      · rw [if_pos (show nI (bc 64 (bm (m.2.1 104 i))) ≤ 1 from nI_le (b := 1) (by omega) (by decide)), if_neg (by simp [c])]
theorem bc_z (x : Int64) : bc 64 (bm x) = 0 ↔ x = 0 := by
  constructor
  · exact bc_0
  · intro h
    rw [h, bc_cong (p' := fun _ => false) 64 (fun d _ => bm_0 d), bc_F]
/-- count -/
theorem j_count (hF : 5000 ≤ F) (h : JP m tp tx pg df mn tr bt nt bx nx f) (x : Int32) : RO m (f_X7_count gSH F 0 x m) (f_X8_count gSH F 62 x) := by
  obtain ⟨h1, ⟨z, o1, o2, o3⟩, h3, h4, ⟨k1, C, k3, k4⟩, h6, h7, h8, h9, ⟨x1, x2, R, x4, x5⟩, h11⟩ := id h
  have hpg : pg = 5 ∨ pg = 25 := by omega
  have hmn : mn = 45 ∨ mn = 50 := by omega
  obtain ⟨g1, g2, g3, -⟩ := gP hpg
  have om := (gMn hmn).1
  have hq := (pQ_ok x1).1
  have hS := hq.1
  have l0 := hS.1.2.1
  have l1 := hS.1.2.2.1
  have l2 := hS.1.2.2.2.1
  have P : PR m.2.2 pg := h1.pr hpg
  have M1 : m.2.2 mn 1 = some (mn + 2) := (h1.mr hmn).2.1
  have ot : oB gSH tp 5 = true := (ob_tape (by omega)).1
  have otx : oB gSH tx 5 = true := (ob_tape (by omega)).1
  have un : ∀ (m' : gM), SB m m' → ∀ k, k < 8 → f_X8_count gSH F 62 (nI k) m' = (if nI k = 0 then (g_if (oB gSH 62 8) (some ((gsI m' 62 0 0).1 62 10, gsI m' 62 0 0))) else (if nI k = 1 then (g_if (oB gSH 62 8) (some ((gsI m' 62 0 0).1 62 15, gsI m' 62 0 0))) else (if nI k = 2 then (g_if (oB gSH 62 8) (some ((gsI m' 62 0 0).1 62 20, gsI m' 62 0 0))) else (if nI k = 3 then (l_X8_count_81 gSH F F 62 0 0 (gsI m' 62 0 0)) else (if nI k = 4 then (l_X8_count_116 gSH F F 62 (nI k) 0 0 (gsI m' 62 0 0)) else (if nI k = 5 then (l_X8_count_116 gSH F F 62 (nI k) 0 0 (gsI m' 62 0 0)) else (if nI k = (6 : Int32) then (g_if (oB gSH 62 8) (some ((gsI m' 62 0 0).1 62 4, gsI m' 62 0 0))) else (g_if (oB gSH 62 8) (some ((gsI m' 62 0 0).1 62 2, gsI m' 62 0 0)))))))))) := by
    intro m' s k hk
    unfold f_X8_count b_X8_count_16 b_X8_count_114
    rw [if_neg (nI_pos (by omega)), if_neg (show ¬ (8 : Int32) ≤ nI k from nI_ge (b := 8) hk (by decide)), ob_62, g_ift, s_fails1, g_bs, g_nmb, g_nmb, if_pos (rfl : (0 : Int32) = 0)]
  by_cases out : x < 0 ∨ (8 : Int32) ≤ x
  · have ne : ∀ k, k < 8 → ¬ x = nI k := fun k hk e => by
      rw [e] at out
      rcases out with c | c
      · exact absurd c (nI_pos (by omega))
      · exact absurd c (nI_ge (b := 8) hk (by decide))
    refine ⟨none, ?_, fun m' s => ⟨0, 1, ?_, Or.inl ⟨rfl, rfl⟩⟩⟩
    · unfold f_X7_count
      rw [if_neg (show ¬ x = 0 from ne 0 (by decide)), if_neg (show ¬ x = 1 from ne 1 (by decide)), if_neg (show ¬ x = 2 from ne 2 (by decide)), if_neg (show ¬ x = 3 from ne 3 (by decide)), if_neg (show ¬ x = 4 from ne 4 (by decide)), if_neg (show ¬ x = 5 from ne 5 (by decide)), if_neg (show ¬ x = 6 from ne 6 (by decide)), if_neg (show ¬ x = 7 from ne 7 (by decide))]
    · unfold f_X8_count b_X8_count_15 b_X8_count_16
      rw [ob_62, g_ift, s_fails0, g_bs, g_nmb, g_nmb, if_neg one0]
      rcases out with c | c
      · rw [if_pos c]
      · by_cases c0 : x < 0
        · rw [if_pos c0]
        · rw [if_neg c0, if_pos c]
  obtain ⟨k, hk, rfl⟩ := i32_in (k := 8) (by decide) (fun c => out (Or.inl c)) (fun c => out (Or.inr c))
  have rd : ∀ m' : gM, SB m m' → ∀ j, j ≠ 0 → (gsI m' 62 0 0).1 62 j = m.1 62 j := fun m' s j hj => by rw [gI_1, if_neg (by omega), s.1]
  have hp' : ∀ m' : gM, SB m m' → PTR (gsI m' 62 0 0) := fun m' s => h7.eq (by rw [gI_2]; exact s.2.2)
  have R' : ∀ m' : gM, SB m m' → RPr (kS bx nx) (kL bx nx) (gsI m' 62 0 0) (pQ bx nx) := fun m' s => R.k (fun c a b => by rw [gsI_ne (by omega), s.1]) ⟨rd m' s 10 (by decide), rd m' s 15 (by decide), rd m' s 20 (by decide)⟩
  have X' : ∀ m' : gM, SB m m' → (gsI m' 62 0 0).2.1 104 = m.2.1 104 := fun m' s => s.2.1 104 (by decide)
  have hX : ∀ r, r < pQ bx nx 0 2 → ∀ d, bm (m.2.1 104 r) d = true → d < 61 := fun r hr d hd => by have := (h.mean hr).2 d hd; omega
  have cases8 : k = 0 ∨ k = 1 ∨ k = 2 ∨ k = 3 ∨ k = 4 ∨ k = 5 ∨ k = 6 ∨ k = 7 := by omega
  rcases cases8 with rfl | rfl | rfl | rfl | rfl | rfl | rfl | rfl
  · refine ⟨some (nI (pQ bx nx 0 0)), ?_, fun m' s => ⟨nI (pQ bx nx 0 0), 0, ?_, Or.inr ⟨rfl, rfl⟩⟩⟩
    · unfold f_X7_count
      rw [if_pos (show nI 0 = 0 from rfl), ob_0, g_ift, z.2.2.1, g_bs, g1, g_ift, C.1.1]
    · rw [un m' s 0 (by decide), if_pos (show nI 0 = 0 from rfl), ob_62, g_ift, rd m' s 10 (by decide), R.1.1]
  · refine ⟨some (nI (pQ bx nx 0 1)), ?_, fun m' s => ⟨nI (pQ bx nx 0 1), 0, ?_, Or.inr ⟨rfl, rfl⟩⟩⟩
    · unfold f_X7_count
      rw [if_neg (by decide), if_pos (show nI 1 = 1 from rfl), ob_0, g_ift, z.2.2.1, g_bs, g1, g_ift, P.1, g_bs, g2, g_ift, C.1.2.1]
    · rw [un m' s 1 (by decide), if_neg (by decide), if_pos (show nI 1 = 1 from rfl), ob_62, g_ift, rd m' s 15 (by decide), R.1.2.1]
  · refine ⟨some (nI (pQ bx nx 0 2)), ?_, fun m' s => ⟨nI (pQ bx nx 0 2), 0, ?_, Or.inr ⟨rfl, rfl⟩⟩⟩
    · unfold f_X7_count
      rw [if_neg (by decide), if_neg (by decide), if_pos (show nI 2 = 2 from rfl), ob_0, g_ift, z.2.2.1, g_bs, g1, g_ift, P.2.1, g_bs, g3, g_ift, C.1.2.2.1]
    · rw [un m' s 2 (by decide), if_neg (by decide), if_neg (by decide), if_pos (show nI 2 = 2 from rfl), ob_62, g_ift, rd m' s 20 (by decide), R.1.2.2]
  · refine ⟨some (nI (bc (pQ bx nx 0 2) (fun r => decide (pQ bx nx 8 r ≠ 0)))), ?_, fun m' s => ⟨nI (bc (pQ bx nx 0 2) (fun r => decide (pQ bx nx 8 r ≠ 0))), 0, ?_, Or.inr ⟨rfl, rfl⟩⟩⟩
    · unfold f_X7_count
      rw [if_neg (by decide), if_neg (by decide), if_neg (by decide), if_pos (show nI 3 = 3 from rfl), ob_0, g_ift, z.2.2.1, g_bs, g1, g_ift, s_importsInAll hpg P C hS hF, g_bs, g_nmb, g_nmb]
    · rw [un m' s 3 (by decide), if_neg (by decide), if_neg (by decide), if_neg (by decide), if_pos (show nI 3 = 3 from rfl), r_imports (hp' m' s) (R' m' s) hS hF]
  · refine ⟨some (nI (bc (pQ bx nx 0 2) (fun r => decide (m.2.1 104 r = 0)))), ?_, fun m' s => ⟨nI (bc (pQ bx nx 0 2) (fun r => decide (m.2.1 104 r = 0))), 0, ?_, Or.inr ⟨rfl, rfl⟩⟩⟩
    · unfold f_X7_count
      rw [if_neg (by decide), if_neg (by decide), if_neg (by decide), if_neg (by decide), if_pos (show nI 4 = 4 from rfl), ob_0, g_ift, z.2.2.2.2.1, g_bs, z.2.2.1, g_bs, g1, g_ift, P.2.1, g_bs, g3, g_ift, om, g_ift, C.1.2.2.1]
      have t := s_howMany (F := F) hmn M1 hF l2 0 0 (by decide) (by decide)
      have t' : f_X1_howManyMean gSH F mn 0 0 (nI (pQ bx nx 0 2)) m = _ := t
      rw [t', g_bs, g_nmb, g_nmb]
      rw [bc_cong (p' := fun r => decide (m.2.1 104 r = 0)) _ (fun r hr => by
        rw [(h.mean hr).1]
        have z := bc_z (m.2.1 104 r)
        by_cases c : m.2.1 104 r = 0
        · rw [decide_eq_true c, decide_eq_true ⟨Nat.zero_le _, by rw [z.mpr c]; exact Nat.le_refl _⟩]
        · rw [decide_eq_false c, decide_eq_false (fun w => c (z.mp (by omega)))])]
    · rw [un m' s 4 (by decide), if_neg (by decide), if_neg (by decide), if_neg (by decide), if_neg (by decide), if_pos (show nI 4 = 4 from rfl), r_means (hp' m' s) hF (R' m' s).1.2.2 l2 (fun r hr => by rw [X' m' s]; exact hX r hr), X' m' s]
      simp only [show nI 4 = 4 from rfl, if_true]
  · refine ⟨some (nI (bc (pQ bx nx 0 2) (fun r => decide (1 < bc 64 (bm (m.2.1 104 r)))))), ?_, fun m' s => ⟨nI (bc (pQ bx nx 0 2) (fun r => decide (1 < bc 64 (bm (m.2.1 104 r))))), 0, ?_, Or.inr ⟨rfl, rfl⟩⟩⟩
    · unfold f_X7_count
      rw [if_neg (by decide), if_neg (by decide), if_neg (by decide), if_neg (by decide), if_neg (by decide), if_pos (show nI 5 = 5 from rfl), ob_0, g_ift, z.2.2.2.2.1, g_bs, z.2.2.1, g_bs, g1, g_ift, P.2.1, g_bs, g3, g_ift, om, g_ift, C.1.2.2.1]
      have t := s_howMany (F := F) hmn M1 hF l2 2 60 (by decide) (by decide)
      have t' : f_X1_howManyMean gSH F mn 2 60 (nI (pQ bx nx 0 2)) m = _ := t
      rw [t', g_bs, g_nmb, g_nmb]
      rw [bc_cong (p' := fun r => decide (1 < bc 64 (bm (m.2.1 104 r)))) _ (fun r hr => by
        rw [(h.mean hr).1]
        have e := bc_top (p := bm (m.2.1 104 r)) (a := 60) (fun d hd => by have := (h.mean hr).2 d hd; omega) 4
        rw [show 60 + 4 = 64 from rfl] at e
        have c60 := bc_le (bm (m.2.1 104 r)) 60
        by_cases c : 1 < bc 64 (bm (m.2.1 104 r))
        · have c2 : 2 ≤ bc 64 (bm (m.2.1 104 r)) ∧ bc 64 (bm (m.2.1 104 r)) ≤ 60 := by omega
          rw [decide_eq_true c, decide_eq_true c2]
        · have c2 : ¬ (2 ≤ bc 64 (bm (m.2.1 104 r)) ∧ bc 64 (bm (m.2.1 104 r)) ≤ 60) := by omega
          rw [decide_eq_false c, decide_eq_false c2])]
    · rw [un m' s 5 (by decide), if_neg (by decide), if_neg (by decide), if_neg (by decide), if_neg (by decide), if_neg (by decide), if_pos (show nI 5 = 5 from rfl), r_means (hp' m' s) hF (R' m' s).1.2.2 l2 (fun r hr => by rw [X' m' s]; exact hX r hr), X' m' s]
      simp only [show ¬ nI 5 = 4 by decide, if_false]
  · refine ⟨some (nI nx), ?_, fun m' s => ⟨nI nx, 0, ?_, Or.inr ⟨rfl, rfl⟩⟩⟩
    · unfold f_X7_count
      rw [if_neg (by decide), if_neg (by decide), if_neg (by decide), if_neg (by decide), if_neg (by decide), if_neg (by decide), if_pos (show nI 6 = 6 from rfl), ob_0, g_ift, z.2.1, g_bs, otx, g_ift, h4.2.2.1]
    · rw [un m' s 6 (by decide), if_neg (by decide), if_neg (by decide), if_neg (by decide), if_neg (by decide), if_neg (by decide), if_neg (by decide), if_pos (show nI 6 = 6 from rfl), ob_62, g_ift, rd m' s 4 (by decide), x2.2.1]
  · refine ⟨some (nI nt), ?_, fun m' s => ⟨nI nt, 0, ?_, Or.inr ⟨rfl, rfl⟩⟩⟩
    · unfold f_X7_count
      rw [if_neg (by decide), if_neg (by decide), if_neg (by decide), if_neg (by decide), if_neg (by decide), if_neg (by decide), if_neg (by decide), if_pos (show nI 7 = 7 from rfl), ob_0, g_ift, z.1, g_bs, ot, g_ift, h3.2.2.1]
    · rw [un m' s 7 (by decide), if_neg (by decide), if_neg (by decide), if_neg (by decide), if_neg (by decide), if_neg (by decide), if_neg (by decide), if_neg (by decide), ob_62, g_ift, rd m' s 2 (by decide), h9.1]
end JNT
