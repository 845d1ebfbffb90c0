/-! THE STEP KEEPS IT -/
def kgQ (q : Nat → Nat → Nat) : Prop := kgA q ∧ kgB q ∧ kgH q
section GOODT
variable {q q' : Nat → Nat → Nat} {i k s : Nat}
theorem kgH_no (h1 : q 0 7 ≠ 11) (h2 : q 0 7 ≠ 6) (h3 : topF q ≠ 10) : kgH q := ⟨fun h => by omega, fun h => absurd h h3⟩
theorem kg_topI (h : kgA q) (hd : 0 < q 0 4) : q 2 (topI q) ≠ 6 ∧ q 2 (topO q) ≠ 6 := by
  have := h.2.2.2 (q 0 4 - 1) (by omega)
  unfold topI topO
  rw [if_pos hd, if_pos hd]
  exact ⟨this.2, this.1⟩
theorem kgB_turn (h : kgB q) (s : Nat) : kgB (aTurn q s) := h.cong (by simp [aTurn, uq]) (fun r => by simp [aTurn, uq])
theorem kgA_turn (h : kgA q) (s : Nat) : kgA (aTurn q s) := kgA_u h (by omega)
theorem kgB_push (h : kgB q) (f a : Nat) : kgB (aPush q f a) := h.cong (by simp [aPush, uq]) (fun r => by simp [aPush, uq])
theorem kgB_top (h : kgB q) (f a : Nat) : kgB (aTop q f a) := h.cong (by simp [aTop, uq]) (fun r => by simp [aTop, uq])
theorem kgB_u (h : kgB q) {c v : Nat} (hc : c = 5 ∨ c = 6 ∨ c = 7 ∨ c = 8) : kgB (uq q 0 c v) := h.cong (by simp [uq]; omega) (fun r => by simp [uq])
theorem kgB_pop (h : kgB q) (s : Nat) : kgB (aPop q s) := h.cong (by simp [aPop, aTurn, uq]) (fun r => by simp [aPop, aTurn, uq])
theorem kg_turn (h : kgQ q) (ht : topF q ≠ 10) (h1 : s ≠ 11) (h2 : s ≠ 6) : kgQ (aTurn q s) := ⟨kgA_turn h.1 s, kgB_turn h.2.1 s, kgH_no (by simp [aTurn, uq]; exact h1) (by simp [aTurn, uq]; exact h2) (by rw [tF_turn]; exact ht)⟩
theorem kg_open (hA : kgA q) (hB : kgB q) (ht : topF q ≠ 10) (h1 : s ≠ 11) (h2 : s ≠ 6) (h0 : (aOpen q s).1 = 0) : kgQ (aOpen q s).2 := by
  unfold aOpen at *
  split at h0
  · cases h0
  · rename_i hc
    rw [if_neg hc]
    exact ⟨kgA_turn (kgA_u hA (by omega)) s, kgB_turn (kgB_u hB (by omega)) s, kgH_no (by simp [aTurn, uq]; exact h1) (by simp [aTurn, uq]; exact h2) (by rw [tF_turn, tF_u5]; exact ht)⟩
theorem kg_pop (hA : kgA q) (hB : kgB q) (hd : 0 < q 0 4) (hj : ∀ j, j + 1 < q 0 4 → q 9 j ≠ 10) (h1 : s ≠ 11) (h2 : s ≠ 6) : kgQ (aPop q s) := ⟨kgA_pop hA s (kg_topI hA hd).2, kgB_pop hB s, kgH_no (by simp [aPop, aTurn, uq]; exact h1) (by simp [aPop, aTurn, uq]; exact h2) (tF_pop s hj)⟩
theorem kg_close (hA : kgA q) (hB : kgB q) (hd : 0 < q 0 4) (hj : ∀ j, j + 1 < q 0 4 → q 9 j ≠ 10) (h1 : s ≠ 11) (h2 : s ≠ 6) : kgQ (aClose q s) := by
  unfold aClose
  exact kg_pop (kgA_u hA (by omega)) (kgB_u hB (by omega)) (by simpa [uq] using hd) (fun j hj' => by
    have := hj j (by simpa [uq] using hj')
    simpa [uq] using this) h1 h2
theorem kg_declIn (hA : kgA q) (hB : kgB q) {sc n : Nat} (hs : q 2 sc ≠ 6) (ht : topF q ≠ 10) (hn : n = 7 ∨ n = 9) (h0 : (aDeclIn i q sc n).1 = 0) : kgQ (aDeclIn i q sc n).2 := by
  unfold aDeclIn at *
  split at h0
  · cases h0
  · rename_i hc
    rw [if_neg hc]
    exact ⟨kgA_turn (kgA_decl hA hs (fun h => absurd rfl h)) n, kgB_turn (kgB_decl hB) n, kgH_no (by simp [aTurn, uq]; omega) (by simp [aTurn, uq]; omega) (by rw [tF_turn, tF_decl]; exact ht)⟩
theorem kg_first (hS : aS q) (hA : kgA q) (hB : kgB q) (ht : topF q = 10 → q 0 8 = q 0 2) (h0 : (aFirst i q).1 = 0) : kgQ (aFirst i q).2 := by
  unfold aFirst at *
  split at h0
  · cases h0
  · rename_i hc
    rw [if_neg hc]
    refine ⟨kgA_turn (kgA_ref hA) 11, kgB_turn (kgB_ref hS hB hA.2.2.1) 11, ⟨fun _ => ⟨by simp [aTurn, aRef, uq], by simp [aTurn, aRef, uq], by simp [aTurn, aRef, uq]⟩, fun hf => ?_⟩⟩
    rw [tF_turn, tF_ref] at hf
    have e := ht hf
    have := hA.2.2.1
    refine ⟨by simp [aTurn, aRef, uq]; omega, by simp [aTurn, aRef, uq, e]; exact this, fun r h1 h2 => ?_, fun r h1 h2 => ?_⟩
    · simp [aTurn, aRef, uq, e] at h1 h2 ⊢
      intro hh
      omega
    · simp [aTurn, aRef, uq, e] at h1 h2
      omega
theorem kg_sw (hS : aS q) (hA : kgA q) (hB : kgB q) {kd n : Nat} (hk : kd ≠ 6 ∧ kd ≠ 10) (hn : n = 4 ∨ n = 5) (h0 : (aSW q kd n).1 = 0) : kgQ (aSW q kd n).2 := by
  unfold aSW at *
  split at h0
  · cases h0
  · rename_i hc
    rw [if_neg hc]
    have l := hS.1.2.2.2.2.2.1
    have A1 : kgA (aScope q kd (q 0 6 + 1)) := kgA_scope hS hA (fun h => absurd h hk.1) (fun _ => hA.2.2.1) (by omega)
    have e : (aScope q kd (q 0 6 + 1)) 2 (q 0 0) = kd := by simp [aScope, uq]
    exact ⟨kgA_turn (kgA_push A1 kd (q 0 0) (by rw [e]; exact hk.1)) n, kgB_turn (kgB_push (kgB_scope hS hB _ _) _ _) n, kgH_no (by simp [aTurn, uq]; omega) (by simp [aTurn, uq]; omega) (by rw [tF_turn, tF_push]; exact hk.2)⟩
theorem kg_atom (h : aW q) (g : kgQ q) (ht : topF q ≠ 10) (h0 : (aAtom i k q).1 = 0) : kgQ (aAtom i k q).2 := by
  obtain ⟨A, B, H⟩ := g
  unfold aAtom at *
  repeat' split at h0
  all_goals rename_i hc
  · rw [if_pos hc]
    exact kg_open (kgA_push A 12 (q 0 6) A.2.2.1) (kgB_push B 12 (q 0 6)) (by rw [tF_push]; decide) (by decide) (by decide) h0
  all_goals simp only [*, if_true, if_false] at h0 ⊢
  · exact kg_sw h.1 A B (by decide) (by decide) h0
  · show kgQ (aTurn (aPush q 3 (q 0 6)) 5)
    exact ⟨kgA_turn (kgA_push A 3 (q 0 6) A.2.2.1) 5, kgB_turn (kgB_push B 3 (q 0 6)) 5, kgH_no (by simp [aTurn, uq]) (by simp [aTurn, uq]) (by rw [tF_turn, tF_push]; decide)⟩
  · exact kg_sw h.1 A B (by decide) (by decide) h0
  · exact kg_sw h.1 A B (by decide) (by decide) h0
  · exact kg_first h.1 A B (fun h => absurd h ht) h0
  · exact kg_turn ⟨A, B, H⟩ ht (by decide) (by decide)
  · cases h0
theorem kg_beh (h : aW q) (g : kgQ q) (h7 : q 0 7 = 11 ∨ q 0 7 = 12) (h0 : (aBeh i k q).1 = 0) : kgQ (aBeh i k q).2 := by
  obtain ⟨A, B, H⟩ := g
  have hj := h.2.2
  by_cases t10 : topF q = 10
  · have hd := tF_pos (q := q) (by omega)
    have s11 : q 0 7 = 11 := by
      have := h.2.1.2.2.2.2.2.1 t10
      omega
    obtain ⟨-, h15, h8⟩ := H.1 (Or.inl s11)
    obtain ⟨a1, a2, a3, a4⟩ := H.2 t10
    by_cases hk : k = 59
    · have e : aBeh i k q = (0, aPop (aImp q) 0) := by simp [aBeh, t10, hk]
      rw [e]
      have z4 : (aImp q) 0 4 = q 0 4 := by simp [aImp]
      have A1 : kgA (aImp q) := A.cong (by simp [aImp]) (fun r => by simp [aImp]) (by simpa [aImp] using A.2.2.1) (fun j hj => by
        have := A.2.2.2 j (by rw [z4] at hj; exact hj)
        simpa [aImp] using this)
      exact kg_pop A1 (kgB_imp h.1 B A.2.2.1 a1 h8 a2 a3 a4) (by rw [z4]; exact hd) (fun j hj' => by
        have := hj j (by rw [z4] at hj'; exact hj')
        simpa [aImp] using this) (by decide) (by decide)
    · have e : aBeh i k q = (2, q) := by simp [aBeh, t10, hk]
      rw [e] at h0
      cases h0
  have cl : ∀ s, s ≠ 11 → s ≠ 6 → topF q ≠ 14 → kgQ (aClose q s) := fun s a b c => kg_close A B (tF_pos c) hj a b
  unfold aBeh at *
  rw [if_neg t10] at h0 ⊢
  by_cases k1 : k = 41
  · rw [if_pos k1] at h0 ⊢
    by_cases c : topF q = 12
    · rw [if_pos c] at h0 ⊢
      exact cl 12 (by decide) (by decide) (by omega)
    · rw [if_neg c] at h0
      cases h0
  rw [if_neg k1] at h0 ⊢
  by_cases k2 : k = 43
  · rw [if_pos k2] at h0 ⊢
    exact kg_turn ⟨A, B, H⟩ t10 (by decide) (by decide)
  rw [if_neg k2] at h0 ⊢
  by_cases k3 : k = 44
  · rw [if_pos k3] at h0 ⊢
    by_cases c : hasB (topF q) = true
    · rw [if_pos c] at h0 ⊢
      exact kg_turn ⟨A, B, H⟩ t10 (by decide) (by decide)
    · rw [if_neg c] at h0
      cases h0
  rw [if_neg k3] at h0 ⊢
  by_cases k4 : k = 59
  · rw [if_pos k4] at h0 ⊢
    by_cases c : topF q = 11
    · rw [if_pos c] at h0 ⊢
      exact kg_pop A B (tF_pos (by omega)) hj (by decide) (by decide)
    · rw [if_neg c] at h0
      cases h0
  rw [if_neg k4] at h0 ⊢
  by_cases k5 : k = 125
  · rw [if_pos k5] at h0 ⊢
    by_cases c : topF q = 2
    · rw [if_pos c] at h0 ⊢
      exact cl 12 (by decide) (by decide) (by omega)
    · rw [if_neg c] at h0 ⊢
      by_cases c2 : topF q = 13
      · rw [if_pos c2] at h0 ⊢
        exact cl 12 (by decide) (by decide) (by omega)
      · rw [if_neg c2] at h0
        cases h0
  rw [if_neg k5] at h0 ⊢
  by_cases k6 : k = 263
  · rw [if_pos k6] at h0 ⊢
    by_cases c : hasB (topF q) = true
    · rw [if_pos c] at h0 ⊢
      have hb := hasB_ne c
      have hd := tF_pos (q := q) (by omega)
      have ti := (kg_topI A hd).1
      unfold aIn
      have A1 : kgA (uq q 0 6 (topI q)) := kgA_here A ti
      have A2 : kgA (aTop (uq q 0 6 (topI q)) 13 (topI q)) := kgA_top A1 13 (topI q) (by simpa [uq] using ti)
      exact ⟨kgA_turn A2 9, kgB_turn (kgB_top (kgB_u B (by omega)) 13 (topI q)) 9, kgH_no (by simp [aTurn, uq]) (by simp [aTurn, uq]) (by
        rw [tF_turn, tF_top 13 _ (by simpa [uq] using hd)]
        decide)⟩
    · rw [if_neg c] at h0
      cases h0
  rw [if_neg k6] at h0 ⊢
  exact kg_atom h ⟨A, B, H⟩ t10 h0
theorem kg_bind (h : aW q) (A : kgA q) (B : kgB q) (hd : 0 < q 0 4) (ht : topF q ≠ 10) (h0 : (aBind i q).1 = 0) : kgQ (aBind i q).2 := by
  have ti := kg_topI A hd
  unfold aBind at *
  by_cases c : topF q = 3
  · rw [if_pos c] at h0 ⊢
    by_cases c1 : 60 ≤ q 0 1
    · rw [if_pos c1] at h0
      cases h0
    rw [if_neg c1] at h0 ⊢
    by_cases c2 : 64 ≤ q 0 0
    · rw [if_pos c2] at h0
      cases h0
    rw [if_neg c2] at h0 ⊢
    have lt := tI_lt h.1
    have A1 : kgA (aScope q 3 (topI q + 1)) := kgA_scope h.1 A (fun h => by omega) (fun _ => ti.1) (by omega)
    have e : ∀ s, s < q 0 0 → (aScope q 3 (topI q + 1)) 2 s = q 2 s := fun s hs => by simp [aScope, uq]; omega
    have e2 : (aScope q 3 (topI q + 1)) 2 (q 0 0) = 3 := by simp [aScope, uq]
    have A2 : kgA (uq (aScope q 3 (topI q + 1)) 0 6 (topI q)) := kgA_here A1 (by rw [e _ lt]; exact ti.1)
    have e3 : (uq (aScope q 3 (topI q + 1)) 0 6 (topI q)) 2 (q 0 0) = 3 := by simpa [uq] using e2
    have A3 := kgA_top A2 3 (q 0 0) (by rw [e3]; decide)
    have B3 := kgB_top (kgB_u (c := 6) (v := topI q) (kgB_scope h.1 B 3 (topI q + 1)) (by omega)) 3 (q 0 0)
    exact kg_declIn A3 B3 (by simp [aTop, uq, aScope]) (by rw [tF_top 3 _ (by simpa [uq, aScope] using hd)]; decide) (by decide) h0
  rw [if_neg c] at h0 ⊢
  by_cases c4 : topF q = 4
  · rw [if_pos c4] at h0 ⊢
    exact kg_declIn (kgA_here A ti.1) (kgB_u B (by omega)) (by simpa [uq] using ti.1) (by rw [tF_u6]; exact ht) (by decide) h0
  · rw [if_neg c4] at h0 ⊢
    exact kg_declIn (kgA_here A ti.2) (kgB_u B (by omega)) (by simpa [uq] using ti.1) (by rw [tF_u6]; exact ht) (by decide) h0
theorem kg_name (h : aW q) (g : kgQ q) (h7 : q 0 7 = 1 ∨ q 0 7 = 2 ∨ q 0 7 = 3 ∨ q 0 7 = 4 ∨ q 0 7 = 5 ∨ q 0 7 = 6) (h0 : (aName i q).1 = 0) : kgQ (aName i q).2 := by
  obtain ⟨A, B, H⟩ := g
  have z := h.2.1
  unfold aZs at z
  have lh := h.1.1.2.2.2.2.2.1
  unfold aName at *
  by_cases c1 : q 0 7 = 1
  · rw [if_pos c1] at h0 ⊢
    have ht : topF q ≠ 10 := by omega
    unfold aMod at *
    by_cases d1 : 60 ≤ q 0 1
    · rw [if_pos d1] at h0
      cases h0
    rw [if_neg d1] at h0 ⊢
    by_cases d2 : 64 ≤ q 0 0
    · rw [if_pos d2] at h0
      cases h0
    rw [if_neg d2] at h0 ⊢
    have A1 : kgA (aScope q 1 (q 0 6 + 1)) := kgA_scope h.1 A (fun h => by omega) (fun _ => A.2.2.1) (by omega)
    have e : (aScope q 1 (q 0 6 + 1)) 2 (q 0 6) = q 2 (q 0 6) := by simp [aScope, uq]; omega
    have e2 : (aScope q 1 (q 0 6 + 1)) 2 (q 0 0) = 1 := by simp [aScope, uq]
    have A2 : kgA (aDecl (aScope q 1 (q 0 6 + 1)) (q 0 6) i (q 0 0 + 1)) := kgA_decl A1 (by rw [e]; exact A.2.2.1) (fun _ => by
      rw [show q 0 0 + 1 - 1 = q 0 0 by omega, e2]
      decide)
    have e3 : (aDecl (aScope q 1 (q 0 6 + 1)) (q 0 6) i (q 0 0 + 1)) 2 (q 0 0) = 1 := by simp [aDecl, aScope, uq]
    have A3 := kgA_push A2 1 (q 0 0) (by rw [e3]; decide)
    have e4 : (aPush (aDecl (aScope q 1 (q 0 6 + 1)) (q 0 6) i (q 0 0 + 1)) 1 (q 0 0)) 2 (q 0 0) = 1 := by simp [aPush, aDecl, aScope, uq]
    have A4 := kgA_here A3 (s := q 0 0) (by rw [e4]; decide)
    exact ⟨kgA_turn A4 8, kgB_turn (kgB_u (kgB_push (kgB_decl (kgB_scope h.1 B _ _)) _ _) (by omega)) 8, kgH_no (by simp [aTurn, uq]) (by simp [aTurn, uq]) (by rw [tF_turn, tF_u6, tF_push]; decide)⟩
  rw [if_neg c1] at h0 ⊢
  by_cases c2 : q 0 7 = 2
  · rw [if_pos c2] at h0 ⊢
    unfold aImpN at *
    by_cases d1 : 6 ≤ q 0 3
    · rw [if_pos d1] at h0
      cases h0
    rw [if_neg d1] at h0 ⊢
    have dd := aZs_d h.2.1 h.1.1.2.2.2.2.2.2 h.1.1.2.2.1
    refine kg_first ?_ (kgA_u (kgA_push A 10 (q 0 6) A.2.2.1) (by omega)) (kgB_u (kgB_push B 10 (q 0 6)) (by omega)) (fun _ => by simp [uq, aPush]) h0
    exact aS_long (aS_push h.1 (by decide) lh)
  rw [if_neg c2] at h0 ⊢
  by_cases c3 : q 0 7 = 3
  · rw [if_pos c3] at h0 ⊢
    exact kg_declIn (kgA_push A 11 (q 0 6) A.2.2.1) (kgB_push B 11 (q 0 6)) (by simpa [aPush, uq] using A.2.2.1) (by rw [tF_push]; decide) (by decide) h0
  rw [if_neg c3] at h0 ⊢
  by_cases c4 : q 0 7 = 4
  · rw [if_pos c4] at h0 ⊢
    have ti := (kg_topI A (by omega)).1
    exact kg_declIn (kgA_here A ti) (kgB_u B (by omega)) (by simpa [uq] using ti) (by rw [tF_u6]; omega) (by decide) h0
  rw [if_neg c4] at h0 ⊢
  by_cases c5 : q 0 7 = 5
  · rw [if_pos c5] at h0 ⊢
    exact kg_bind h A B (by omega) (by omega) h0
  rw [if_neg c5] at h0 ⊢
  have s6 : q 0 7 = 6 := by omega
  obtain ⟨hn, h15, h8⟩ := H.1 (Or.inr s6)
  unfold aNext at *
  rw [if_neg (show ¬ q 0 2 = 0 by omega)] at h0 ⊢
  by_cases d1 : 100 ≤ q 0 2
  · rw [if_pos d1] at h0
    cases h0
  rw [if_neg d1] at h0 ⊢
  by_cases d2 : 64 ≤ q 0 0
  · rw [if_pos d2] at h0
    cases h0
  rw [if_neg d2] at h0 ⊢
  have A1 : kgA (aScope q 6 0) := kgA_scope h.1 A (fun _ => rfl) (fun h => absurd rfl h) (by omega)
  have A2 : kgA (uq (aScope q 6 0) 8 (q 0 2 - 1) (q 0 0 + 1)) := A1.cong (by simp [uq]) (fun r => by simp [uq]) (by simpa [uq] using A1.2.2.1) (fun j hj => by
    have := A1.2.2.2 j (by simpa [uq] using hj)
    simpa [uq] using this)
  refine ⟨kgA_turn (kgA_ref A2) 11, kgB_turn (kgB_next h.1 B hn h15 h8) 11, ⟨fun _ => ⟨by simp [aTurn, aRef, aScope, uq], by simp [aTurn, aRef, aScope, uq], by simp [aTurn, aRef, aScope, uq]⟩, fun hf => ?_⟩⟩
  rw [tF_turn, tF_ref, tF_r8, tF_scope] at hf
  obtain ⟨a1, a2, a3, a4⟩ := H.2 hf
  have b := h.1.2.2.2.1 (q 0 8) a1
  refine ⟨by simp [aTurn, aRef, aScope, uq]; omega, ?_, fun r h1 h2 => ?_, fun r h1 h2 => ?_⟩
  · have n1 : ¬ q 0 8 = q 0 2 := by omega
    have n2 : ¬ q 6 (q 0 8) = q 0 0 := by omega
    simpa [aTurn, aRef, aScope, uq, n1, n2] using a2
  · simp [aTurn, aRef, aScope, uq] at h1 h2 ⊢
    intro hr
    exact a3 r h1 (by omega)
  · simp [aTurn, aRef, aScope, uq] at h1 h2
    by_cases c : r = q 0 2
    · simp [aTurn, aRef, aScope, uq, c]
    · have g := a4 r h1 (by omega)
      have b2 := h.1.2.2.2.1 r (by omega)
      have n2 : ¬ q 6 r = q 0 0 := by omega
      simpa [aTurn, aRef, aScope, uq, c, n2] using g
theorem kg_T (h : aW q) (g : kgQ q) (h0 : (aT i k q).1 = 0) : kgQ (aT i k q).2 := by
  have z := h.2.1
  unfold aZs at z
  obtain ⟨A, B, H⟩ := id g
  unfold aT at *
  by_cases c0 : q 0 7 = 0
  · rw [if_pos c0] at h0 ⊢
    have ht : topF q ≠ 10 := by omega
    unfold aDec at *
    by_cases k1 : k = 125
    · rw [if_pos k1] at h0 ⊢
      by_cases c : topF q = 1
      · rw [if_pos c] at h0 ⊢
        exact kg_close A B (tF_pos (by omega)) h.2.2 (by decide) (by decide)
      · rw [if_neg c] at h0
        cases h0
    rw [if_neg k1] at h0 ⊢
    by_cases k2 : k = 256
    · rw [if_pos k2] at h0 ⊢
      exact kg_turn g ht (by decide) (by decide)
    rw [if_neg k2] at h0 ⊢
    by_cases k3 : k = 257
    · rw [if_pos k3] at h0 ⊢
      exact kg_turn g ht (by decide) (by decide)
    rw [if_neg k3] at h0 ⊢
    by_cases k4 : k = 258
    · rw [if_pos k4] at h0 ⊢
      exact kg_turn g ht (by decide) (by decide)
    rw [if_neg k4] at h0 ⊢
    by_cases k5 : k = 266
    · rw [if_pos k5] at h0 ⊢
      by_cases c : q 0 4 = 0
      · rw [if_pos c] at h0 ⊢
        exact g
      · rw [if_neg c] at h0
        cases h0
    · rw [if_neg k5] at h0
      cases h0
  rw [if_neg c0] at h0 ⊢
  by_cases c7 : q 0 7 = 7
  · rw [if_pos c7] at h0 ⊢
    by_cases k1 : k = 61
    · rw [if_pos k1] at h0 ⊢
      exact kg_turn g (by omega) (by decide) (by decide)
    · rw [if_neg k1] at h0
      cases h0
  rw [if_neg c7] at h0 ⊢
  by_cases c8 : q 0 7 = 8
  · rw [if_pos c8] at h0 ⊢
    by_cases k1 : k = 123
    · rw [if_pos k1] at h0 ⊢
      exact kg_open A B (by omega) (by decide) (by decide) h0
    · rw [if_neg k1] at h0
      cases h0
  rw [if_neg c8] at h0 ⊢
  by_cases c9 : q 0 7 = 9
  · rw [if_pos c9] at h0 ⊢
    by_cases k1 : k = 123
    · rw [if_pos k1] at h0 ⊢
      exact kg_open A B (by omega) (by decide) (by decide) h0
    · rw [if_neg k1] at h0
      cases h0
  rw [if_neg c9] at h0 ⊢
  by_cases c10 : q 0 7 = 10
  · rw [if_pos c10] at h0 ⊢
    exact kg_atom h g (by omega) h0
  rw [if_neg c10] at h0 ⊢
  by_cases c11 : q 0 7 = 11
  · rw [if_pos c11] at h0 ⊢
    by_cases k1 : k = 46
    · rw [if_pos k1] at h0 ⊢
      refine ⟨kgA_turn A 6, kgB_turn B 6, ⟨fun _ => ?_, fun hf => ?_⟩⟩
      · have := H.1 (Or.inl c11)
        simpa [aTurn, uq] using this
      · rw [tF_turn] at hf
        have := H.2 hf
        simpa [aTurn, uq] using this
    · rw [if_neg k1] at h0 ⊢
      exact kg_beh h g (Or.inl c11) h0
  rw [if_neg c11] at h0 ⊢
  by_cases c12 : q 0 7 = 12
  · rw [if_pos c12] at h0 ⊢
    exact kg_beh h g (Or.inr c12) h0
  rw [if_neg c12] at h0 ⊢
  by_cases k1 : k = 264
  · rw [if_pos k1] at h0 ⊢
    exact kg_name h g (by omega) h0
  · rw [if_neg k1] at h0
    cases h0
theorem kg_0 : kgQ aQ0 := by
  refine ⟨⟨fun s hs => ?_, fun d hd => ?_, by simp [aQ0], fun j hj => ?_⟩, ⟨fun r hr => ?_, fun i hi => ?_, fun a c ha => ?_⟩, ⟨fun h => ?_, fun h => ?_⟩⟩
  · simp [aQ0]
  · simp [aQ0] at hd
  · simp [aQ0] at hj
  · simp [aQ0] at hr
  · simp [aQ0] at hi
  · simp [aQ0] at ha
  · simp [aQ0] at h
  · simp [aQ0, topF] at h
theorem kg_run {K : Nat → Nat} : ∀ (n i : Nat) (q : Nat → Nat → Nat), aW q → kgQ q → (aRun K n i q).1 = 0 → aW (aRun K n i q).2.2 ∧ kgQ (aRun K n i q).2.2 := by
  intro n
  induction n with
  | zero => intro i q _ _ h; cases h
  | succ n ih =>
    intro i q hw hg h
    have e : aRun K (n + 1) i q = (if K i = 267 then (1, i, q) else if (aT i (K i) q).1 = 0 then (if K i = 266 then (0, i, (aT i (K i) q).2) else aRun K n (i + 1) (aT i (K i) q).2) else ((aT i (K i) q).1, i, (aT i (K i) q).2)) := rfl
    rw [e] at h ⊢
    by_cases c1 : K i = 267
    · rw [if_pos c1] at h
      cases h
    rw [if_neg c1] at h ⊢
    by_cases c2 : (aT i (K i) q).1 = 0
    · rw [if_pos c2] at h ⊢
      have w := aW_T hw c2
      have g := kg_T hw hg c2
      by_cases c3 : K i = 266
      · rw [if_pos c3]
        exact ⟨w, g⟩
      · rw [if_neg c3] at h ⊢
        exact ih (i + 1) _ w g h
    · rw [if_neg c2] at h
      exact absurd h c2
end GOODT
