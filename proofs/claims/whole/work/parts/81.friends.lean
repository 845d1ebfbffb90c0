/-! friendsOf: a round over the references, and the rounds -/
def frS (X : Nat → Int64) : Nat → Int64 → Int64
  | 0, g => g
  | r + 1, g => frS X r g ||| (if X r &&& frS X r g ≠ 0 then X r else 0)
def frI (X : Nat → Int64) (nR : Nat) (g : Int64) : Nat → Int64
  | 0 => g
  | k + 1 => frS X nR (frI X nR g k)
theorem frS_sub {X : Nat → Int64} {g : Int64} {d : Nat} (h : bm g d = true) : ∀ r, bm (frS X r g) d = true := by
  intro r
  induction r with
  | zero => exact h
  | succ r ih =>
    unfold frS
    rw [bm_or, ih]
    rfl
theorem frS_in {X : Nat → Int64} {g : Int64} {N : Nat} (hg : ∀ d, bm g d = true → d < N) : ∀ r, (∀ r', r' < r → ∀ d, bm (X r') d = true → d < N) → ∀ d, bm (frS X r g) d = true → d < N := by
  intro r
  induction r with
  | zero => intro _ d h; exact hg d h
  | succ r ih =>
    intro hX d h
    unfold frS at h
    rw [bm_or, Bool.or_eq_true] at h
    rcases h with h | h
    · exact ih (fun r' hr' => hX r' (by omega)) d h
    · split at h
      · exact hX r (by omega) d h
      · rw [bm_0] at h
        cases h
theorem frI_in {X : Nat → Int64} {g : Int64} {N nR : Nat} (hg : ∀ d, bm g d = true → d < N) (hX : ∀ r', r' < nR → ∀ d, bm (X r') d = true → d < N) : ∀ k d, bm (frI X nR g k) d = true → d < N := by
  intro k
  induction k with
  | zero => exact hg
  | succ k ih => exact frS_in ih nR hX
/-- there is a round that finds nothing more -/
theorem frI_stop {X : Nat → Int64} {g : Int64} {nR : Nat} (hg : ∀ d, bm g d = true → d < 60) (h0 : ∃ d, bm g d = true) (hX : ∀ r', r' < nR → ∀ d, bm (X r') d = true → d < 60) : ∃ n, n < 60 ∧ frI X nR g (n + 1) = frI X nR g n ∧ ∀ j, j < n → frI X nR g (j + 1) ≠ frI X nR g j := by
  have inc : ∀ k, (∀ j, j < k → frI X nR g (j + 1) ≠ frI X nR g j) → k + 1 ≤ bc 64 (bm (frI X nR g k)) := by
    intro k
    induction k with
    | zero =>
      intro _
      obtain ⟨d, hd⟩ := h0
      have := bc_del hd 64 (by have := hg d hd; omega)
      show 1 ≤ bc 64 (bm g)
      omega
    | succ k ih =>
      intro hk
      have a := ih (fun j hj => hk j (by omega))
      have ne := hk k (by omega)
      have : ∃ d, d < 64 ∧ bm (frI X nR g k) d = false ∧ bm (frI X nR g (k + 1)) d = true := by
        apply Classical.byContradiction
        intro hn
        apply ne
        apply bm_ext
        intro d hd
        cases e1 : bm (frI X nR g k) d
        · cases e2 : bm (frI X nR g (k + 1)) d
          · rfl
          · exact absurd ⟨d, hd, e1, e2⟩ hn
        · exact frS_sub e1 nR
      obtain ⟨d, hd, e1, e2⟩ := this
      have := bc_less (p := bm (frI X nR g k)) (p' := bm (frI X nR g (k + 1))) (fun x hx => frS_sub hx nR) e1 e2 64 hd
      omega
  have ex : ∃ n, n < 60 ∧ frI X nR g (n + 1) = frI X nR g n := by
    apply Classical.byContradiction
    intro hn
    have a := inc 60 (fun j hj e => hn ⟨j, hj, e⟩)
    have e := bc_top (frI_in hg hX 60) 4
    have c := bc_le (bm (frI X nR g 60)) 60
    rw [show 60 + 4 = 64 from rfl] at e
    omega
  obtain ⟨n, h1, h2⟩ := ex
  have key : ∀ b n, n ≤ b → n < 60 → frI X nR g (n + 1) = frI X nR g n → ∃ n, n < 60 ∧ frI X nR g (n + 1) = frI X nR g n ∧ ∀ j, j < n → frI X nR g (j + 1) ≠ frI X nR g j := by
    intro b
    induction b with
    | zero =>
      intro n hb h1 h2
      exact ⟨n, h1, h2, fun j hj => by omega⟩
    | succ b ih =>
      intro n hb h1 h2
      by_cases c : ∃ j, j < n ∧ frI X nR g (j + 1) = frI X nR g j
      · obtain ⟨j, x, y⟩ := c
        exact ih j (by omega) (by omega) y
      · exact ⟨n, h1, h2, fun j hj e => c ⟨j, hj, e⟩⟩
  exact key n n (Nat.le_refl _) h1 h2
section FRI
variable {mn F nR : Nat} {m : gM}
theorem s_friL (hmn : mn = 45 ∨ mn = 50) (m1 : m.2.2 mn 1 = some (mn + 2)) (hR : nR ≤ 100) {k10 : Nat → Int32 → Int64 → Int64 → Int32 → gM → Option (Int64 × gM)} (g bef : Int64) (x7 : Int32) : ∀ (k N r : Nat), r + k = nR → k < N → l_X1_friendsOf_30 gSH F k10 N mn (nI nR) (frS (m.2.1 (mn + 2)) r g) bef x7 (nI r) m = k10 mn (nI nR) (frS (m.2.1 (mn + 2)) nR g) bef (x7 + Int32.ofInt 1) m := by
  obtain ⟨om, c1, c2, c3, c4⟩ := gMn hmn
  intro k
  induction k with
  | zero =>
    intro N r hr hN
    obtain ⟨N, rfl⟩ : ∃ N', N = N' + 1 := ⟨N - 1, by omega⟩
    show b_X1_friendsOf_30 gSH F k10 (l_X1_friendsOf_30 gSH F k10 N) mn (nI nR) (frS (m.2.1 (mn + 2)) r g) bef x7 (nI r) m = _
    unfold b_X1_friendsOf_30 b_X1_friendsOf_77
    rw [if_pos (nI_le (by omega) (by omega)), g_nmb, show r = nR by omega]
  | succ k ih =>
    intro N r hr hN
    obtain ⟨N, rfl⟩ : ∃ N', N = N' + 1 := ⟨N - 1, by omega⟩
    have e : l_X1_friendsOf_30 gSH F k10 (N + 1) mn (nI nR) (frS (m.2.1 (mn + 2)) r g) bef x7 (nI r) m = l_X1_friendsOf_30 gSH F k10 N mn (nI nR) (frS (m.2.1 (mn + 2)) (r + 1) g) bef x7 (nI (r + 1)) m := by
      show b_X1_friendsOf_30 gSH F k10 (l_X1_friendsOf_30 gSH F k10 N) mn (nI nR) (frS (m.2.1 (mn + 2)) r g) bef x7 (nI r) m = _
      unfold b_X1_friendsOf_30 b_X1_friendsOf_69
      rw [if_neg (nI_ge (by omega) (by omega)), if_neg (show ¬ (100 : Int32) ≤ nI r from nI_ge (b := 100) (by omega) (by decide)), om, g_ift, m1, g_bs, c2, g_inI (by omega) (by decide), g_ift, nI_clamp (by omega), g_bs, c2, g_inI (by omega) (by decide), g_ift]
      simp only [g_nmb, nI_a1]
      show _ = l_X1_friendsOf_30 gSH F k10 N mn (nI nR) (frS (m.2.1 (mn + 2)) r g ||| (if m.2.1 (mn + 2) r &&& frS (m.2.1 (mn + 2)) r g ≠ 0 then m.2.1 (mn + 2) r else 0)) bef x7 (nI (r + 1)) m
      by_cases c : m.2.1 (mn + 2) r &&& frS (m.2.1 (mn + 2)) r g = 0
      · rw [if_pos c, if_neg (fun z => z c)]
      · rw [if_neg c, if_pos c]
    rw [e]
    exact ih N (r + 1) (by omega) (by omega)
/-- the object's friendsOf -/
theorem s_friC (hmn : mn = 45 ∨ mn = 50) (m1 : m.2.2 mn 1 = some (mn + 2)) (hF : 5000 ≤ F) (hR : nR ≤ 100) {d : Nat} (hd : d < 60) (hX : ∀ r', r' < nR → ∀ d, bm (m.2.1 (mn + 2) r') d = true → d < 60) : ∃ n, n < 60 ∧ f_X1_friendsOf gSH F mn (nI d) (nI nR) m = some (frI (m.2.1 (mn + 2)) nR (bl d) n, m) ∧ frI (m.2.1 (mn + 2)) nR (bl d) (n + 1) = frI (m.2.1 (mn + 2)) nR (bl d) n ∧ ∀ j, j < n → frI (m.2.1 (mn + 2)) nR (bl d) (j + 1) ≠ frI (m.2.1 (mn + 2)) nR (bl d) j := by
  have b0 : ∀ x, bm (bl d) x = true → x < 60 := fun x hx => by
    rw [bm_bl (by omega), decide_eq_true_eq] at hx
    omega
  have b1 : bm (bl d) d = true := by rw [bm_bl (by omega)]; simp
  obtain ⟨n, n1, n2, n3⟩ := frI_stop (nR := nR) b0 ⟨d, b1⟩ hX
  refine ⟨n, n1, ?_, n2, n3⟩
  have go : ∀ (k N j : Nat), j + k = n + 1 → k < N → l_X1_friendsOf_10 gSH F N mn (nI nR) (frI (m.2.1 (mn + 2)) nR (bl d) j) (if j = 0 then 0 else frI (m.2.1 (mn + 2)) nR (bl d) (j - 1)) (nI j) m = some (frI (m.2.1 (mn + 2)) nR (bl d) n, m) := by
    intro k
    induction k with
    | zero =>
      intro N j hj hN
      obtain ⟨N, rfl⟩ : ∃ N', N = N' + 1 := ⟨N - 1, by omega⟩
      show b_X1_friendsOf_10 gSH F (l_X1_friendsOf_10 gSH F N) mn (nI nR) (frI (m.2.1 (mn + 2)) nR (bl d) j) (if j = 0 then 0 else frI (m.2.1 (mn + 2)) nR (bl d) (j - 1)) (nI j) m = _
      unfold b_X1_friendsOf_10
      rw [if_neg (show ¬ (60 : Int32) < nI j from nI_nlt (a := 60) (by omega) (by decide)), if_neg (show ¬ j = 0 by omega), show j - 1 = n by omega, show j = n + 1 by omega, if_pos n2, n2]
    | succ k ih =>
      intro N j hj hN
      obtain ⟨N, rfl⟩ : ∃ N', N = N' + 1 := ⟨N - 1, by omega⟩
      show b_X1_friendsOf_10 gSH F (l_X1_friendsOf_10 gSH F N) mn (nI nR) (frI (m.2.1 (mn + 2)) nR (bl d) j) (if j = 0 then 0 else frI (m.2.1 (mn + 2)) nR (bl d) (j - 1)) (nI j) m = _
      unfold b_X1_friendsOf_10
      have ne : ¬ frI (m.2.1 (mn + 2)) nR (bl d) j = (if j = 0 then 0 else frI (m.2.1 (mn + 2)) nR (bl d) (j - 1)) := by
        by_cases c : j = 0
        · rw [if_pos c, c]
          intro e
          have : bm (bl d) d = bm 0 d := congrArg (fun x => bm x d) e
          rw [b1, bm_0] at this
          cases this
        · rw [if_neg c]
          have := n3 (j - 1) (by omega)
          rw [show j - 1 + 1 = j by omega] at this
          exact this
      rw [if_neg (show ¬ (60 : Int32) < nI j from nI_nlt (a := 60) (by omega) (by decide)), if_neg ne]
      have t := s_friL (F := F) (k10 := l_X1_friendsOf_10 gSH F N) hmn m1 hR (frI (m.2.1 (mn + 2)) nR (bl d) j) (frI (m.2.1 (mn + 2)) nR (bl d) j) (nI j) nR F 0 (by omega) (by omega)
      have t' : l_X1_friendsOf_30 gSH F (l_X1_friendsOf_10 gSH F N) F mn (nI nR) (frI (m.2.1 (mn + 2)) nR (bl d) j) (frI (m.2.1 (mn + 2)) nR (bl d) j) (nI j) 0 m = _ := t
      rw [t', nI_a1]
      have := ih N (j + 1) (by omega) (by omega)
      rw [if_neg (by omega), show j + 1 - 1 = j by omega] at this
      exact this
  unfold f_X1_friendsOf
  rw [g_nmb]
  have := go (n + 1) F 0 (by omega) (by omega)
  rw [if_pos rfl] at this
  exact this
theorem s_friRL (p68 : m.2.2 62 68 = some 104) (h20 : m.1 62 20 = nI nR) (hR : nR ≤ 100) {k7 : Nat → Int64 → Int32 → gM → Option (Int64 × gM)} (g old : Int64) : ∀ (k N r : Nat), r + k = nR → k < N → l_X8_friendsOf_18 gSH F k7 N 62 (frS (m.2.1 104) r g) old (nI r) m = k7 62 (frS (m.2.1 104) nR g) (if frS (m.2.1 104) nR g = old then 0 else 1) m := by
  intro k
  induction k with
  | zero =>
    intro N r hr hN
    obtain ⟨N, rfl⟩ : ∃ N', N = N' + 1 := ⟨N - 1, by omega⟩
    show b_X8_friendsOf_18 gSH F k7 (l_X8_friendsOf_18 gSH F k7 N) 62 (frS (m.2.1 104) r g) old (nI r) m = _
    unfold b_X8_friendsOf_18 b_X8_friendsOf_73
    rw [ob_62, g_ift, h20, if_pos (nI_le (by omega) (by omega)), show r = nR by omega]
    by_cases c : frS (m.2.1 104) nR g = old
    · rw [if_pos c, if_pos c]
    · rw [if_neg c, if_neg c]
  | succ k ih =>
    intro N r hr hN
    obtain ⟨N, rfl⟩ : ∃ N', N = N' + 1 := ⟨N - 1, by omega⟩
    have e : l_X8_friendsOf_18 gSH F k7 (N + 1) 62 (frS (m.2.1 104) r g) old (nI r) m = l_X8_friendsOf_18 gSH F k7 N 62 (frS (m.2.1 104) (r + 1) g) old (nI (r + 1)) m := by
      show b_X8_friendsOf_18 gSH F k7 (l_X8_friendsOf_18 gSH F k7 N) 62 (frS (m.2.1 104) r g) old (nI r) m = _
      unfold b_X8_friendsOf_18 b_X8_friendsOf_53
      rw [ob_62, g_ift, h20, if_neg (nI_ge (by omega) (by omega)), p68, g_bs, show aB gSH 104 .long (nI r) = true from g_inI (N := 101) (by omega) (by decide), g_ift, nI_clamp (by omega), g_bs, show aB gSH 104 .long (nI r) = true from g_inI (N := 101) (by omega) (by decide), g_ift]
      simp only [g_nmb, nI_a1]
      show _ = l_X8_friendsOf_18 gSH F k7 N 62 (frS (m.2.1 104) r g ||| (if m.2.1 104 r &&& frS (m.2.1 104) r g ≠ 0 then m.2.1 104 r else 0)) old (nI (r + 1)) m
      by_cases c : m.2.1 104 r &&& frS (m.2.1 104) r g = 0
      · rw [if_pos c, if_neg (fun z => z c)]
      · rw [if_neg c, if_pos c]
    rw [e]
    exact ih N (r + 1) (by omega) (by omega)
/-- the reference's friendsOf -/
theorem s_friR (p68 : m.2.2 62 68 = some 104) (h20 : m.1 62 20 = nI nR) (hF : 5000 ≤ F) (hR : nR ≤ 100) {d n : Nat} (hn : n < 60) (n2 : frI (m.2.1 104) nR (bl d) (n + 1) = frI (m.2.1 104) nR (bl d) n) (n3 : ∀ j, j < n → frI (m.2.1 104) nR (bl d) (j + 1) ≠ frI (m.2.1 104) nR (bl d) j) : f_X8_friendsOf gSH F 62 (nI d) m = some (frI (m.2.1 104) nR (bl d) n, m) := by
  have go : ∀ (k N j : Nat), j + k = n → k + 1 < N → l_X8_friendsOf_7 gSH F N 62 (frI (m.2.1 104) nR (bl d) j) 1 m = some (frI (m.2.1 104) nR (bl d) n, m) := by
    intro k
    induction k with
    | zero =>
      intro N j hj hN
      obtain ⟨N, rfl⟩ : ∃ N', N = N' + 1 := ⟨N - 1, by omega⟩
      show b_X8_friendsOf_7 gSH F (l_X8_friendsOf_7 gSH F N) 62 (frI (m.2.1 104) nR (bl d) j) 1 m = _
      unfold b_X8_friendsOf_7
      have t := s_friRL (F := F) (k7 := l_X8_friendsOf_7 gSH F N) p68 h20 hR (frI (m.2.1 104) nR (bl d) j) (frI (m.2.1 104) nR (bl d) j) nR F 0 (by omega) (by omega)
      have t' : l_X8_friendsOf_18 gSH F (l_X8_friendsOf_7 gSH F N) F 62 (frI (m.2.1 104) nR (bl d) j) (frI (m.2.1 104) nR (bl d) j) 0 m = _ := t
      have hj' : j = n := by omega
      subst hj'
      rw [if_neg one0, t', if_pos (show frS (m.2.1 104) nR (frI (m.2.1 104) nR (bl d) j) = frI (m.2.1 104) nR (bl d) j from n2)]
      obtain ⟨N, rfl⟩ : ∃ N', N = N' + 1 := ⟨N - 1, by omega⟩
      show b_X8_friendsOf_7 gSH F (l_X8_friendsOf_7 gSH F N) 62 _ 0 m = _
      unfold b_X8_friendsOf_7
      rw [if_pos rfl]
      exact congrArg (fun x => some (x, m)) n2
    | succ k ih =>
      intro N j hj hN
      obtain ⟨N, rfl⟩ : ∃ N', N = N' + 1 := ⟨N - 1, by omega⟩
      show b_X8_friendsOf_7 gSH F (l_X8_friendsOf_7 gSH F N) 62 (frI (m.2.1 104) nR (bl d) j) 1 m = _
      unfold b_X8_friendsOf_7
      have t := s_friRL (F := F) (k7 := l_X8_friendsOf_7 gSH F N) p68 h20 hR (frI (m.2.1 104) nR (bl d) j) (frI (m.2.1 104) nR (bl d) j) nR F 0 (by omega) (by omega)
      have t' : l_X8_friendsOf_18 gSH F (l_X8_friendsOf_7 gSH F N) F 62 (frI (m.2.1 104) nR (bl d) j) (frI (m.2.1 104) nR (bl d) j) 0 m = _ := t
      rw [if_neg one0, t', if_neg (show ¬ frS (m.2.1 104) nR (frI (m.2.1 104) nR (bl d) j) = frI (m.2.1 104) nR (bl d) j from n3 j (by omega))]
      exact ih N (j + 1) (by omega) (by omega)
  unfold f_X8_friendsOf
  rw [g_nmb]
  exact go n F 0 (by omega) (by omega)
end FRI
