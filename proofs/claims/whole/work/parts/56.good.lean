/-! WHAT ELSE HOLDS OF THE TABLE: long names, statements -/
def kgA (q : Nat → Nat → Nat) : Prop := (∀ s, s < q 0 0 → (q 2 s = 6 → q 1 s = 0) ∧ (q 1 s ≠ 0 → q 2 (q 1 s - 1) ≠ 6)) ∧ (∀ d, d < q 0 1 → q 2 (q 3 d) ≠ 6 ∧ (q 5 d ≠ 0 → q 2 (q 5 d - 1) ≠ 6)) ∧ q 2 (q 0 6) ≠ 6 ∧ (∀ j, j < q 0 4 → q 2 (q 10 j) ≠ 6 ∧ q 2 (q 11 j) ≠ 6)
def kgE (q : Nat → Nat → Nat) (r : Nat) : Prop := (q 2 (q 6 r) = 6 → 0 < r ∧ q 8 (r - 1) = q 6 r + 1 ∧ q 15 r = q 15 (r - 1)) ∧ (q 8 r ≠ 0 → (q 2 (q 8 r - 1) = 6 → r + 1 < q 0 2 ∧ q 6 (r + 1) = q 8 r - 1) ∧ (q 2 (q 8 r - 1) ≠ 6 → ∃ i, i < q 0 3 ∧ q 14 i = r ∧ q 12 i = q 8 r - 1))
def kgG (q : Nat → Nat → Nat) (i : Nat) : Prop := q 8 (q 14 i) = q 12 i + 1 ∧ q 2 (q 12 i) ≠ 6 ∧ q 2 (q 6 (q 13 i)) ≠ 6 ∧ (∀ r, r < q 0 2 → (q 15 r = i + 1 ↔ q 13 i ≤ r ∧ r ≤ q 14 i)) ∧ ∀ r, q 13 i < r → r ≤ q 14 i → q 2 (q 6 r) = 6
def kgB (q : Nat → Nat → Nat) : Prop := (∀ r, r < q 0 2 → kgE q r) ∧ (∀ i, i < q 0 3 → kgG q i) ∧ (∀ a c, a < q 0 2 → c < q 0 2 → q 6 a = q 6 c → q 2 (q 6 a) = 6 → a = c)
def kgH (q : Nat → Nat → Nat) : Prop := ((q 0 7 = 11 ∨ q 0 7 = 6) → 0 < q 0 2 ∧ q 15 (q 0 2 - 1) = 0 ∧ q 8 (q 0 2 - 1) = 0) ∧ (topF q = 10 → q 0 8 < q 0 2 ∧ q 2 (q 6 (q 0 8)) ≠ 6 ∧ (∀ r, q 0 8 ≤ r → r < q 0 2 → q 15 r = 0) ∧ ∀ r, q 0 8 < r → r < q 0 2 → q 2 (q 6 r) = 6)
section GOOD
variable {q q' : Nat → Nat → Nat}
theorem kgB.cong (h : kgB q) (e0 : q' 0 2 = q 0 2 ∧ q' 0 3 = q 0 3) (e : ∀ r, q' 2 r = q 2 r ∧ q' 6 r = q 6 r ∧ q' 8 r = q 8 r ∧ q' 15 r = q 15 r ∧ q' 12 r = q 12 r ∧ q' 13 r = q 13 r ∧ q' 14 r = q 14 r) : kgB q' := by
  obtain ⟨h1, h2, h3⟩ := h
  refine ⟨fun r hr => ?_, fun i hi => ?_, fun a c ha hc => ?_⟩
  · have := h1 r (by omega)
    unfold kgE at *
    simpa only [e0.1, e0.2, (e _).1, (e _).2.1, (e _).2.2.1, (e _).2.2.2.1, (e _).2.2.2.2.1, (e _).2.2.2.2.2.1, (e _).2.2.2.2.2.2] using this
  · have := h2 i (by omega)
    unfold kgG at *
    simpa only [e0.1, e0.2, (e _).1, (e _).2.1, (e _).2.2.1, (e _).2.2.2.1, (e _).2.2.2.2.1, (e _).2.2.2.2.2.1, (e _).2.2.2.2.2.2] using this
  · have := h3 a c (by omega) (by omega)
    simpa only [(e _).1, (e _).2.1] using this
theorem kgB_scope (hS : aS q) (h : kgB q) (k p : Nat) : kgB (aScope q k p) := by
  obtain ⟨h1, h2, h3⟩ := h
  obtain ⟨s1, s2, s3, s4, s5, s6⟩ := hS
  have e2 : ∀ s, s < q 0 0 → (aScope q k p) 2 s = q 2 s := fun s hs => by
    simp only [aScope, uq]
    simp
    omega
  have e : ∀ c r, c ≠ 0 → c ≠ 1 → c ≠ 2 → (aScope q k p) c r = q c r := fun c r a1 a2 a3 => by
    simp only [aScope, uq]
    rw [if_neg (by omega), if_neg (by omega), if_neg (by omega)]
  have z2 : (aScope q k p) 0 2 = q 0 2 := by simp [aScope, uq]
  have z3 : (aScope q k p) 0 3 = q 0 3 := by simp [aScope, uq]
  refine ⟨fun r hr => ?_, fun i hi => ?_, fun a c ha hc => ?_⟩
  · rw [z2] at hr
    have := h1 r hr
    have b := s4 r hr
    unfold kgE at *
    rw [e 6 r (by omega) (by omega) (by omega), e 8 r (by omega) (by omega) (by omega), e 8 (r - 1) (by omega) (by omega) (by omega), e 15 r (by omega) (by omega) (by omega), e 15 (r - 1) (by omega) (by omega) (by omega), e 6 (r + 1) (by omega) (by omega) (by omega), z2, z3, e2 _ b.1]
    refine ⟨this.1, fun h8 => ?_⟩
    rw [e2 _ (by omega)]
    refine ⟨(this.2 h8).1, fun hk => ?_⟩
    obtain ⟨i, a1, a2, a3⟩ := (this.2 h8).2 hk
    exact ⟨i, a1, by rw [e 14 i (by omega) (by omega) (by omega)]; exact a2, by rw [e 12 i (by omega) (by omega) (by omega)]; exact a3⟩
  · rw [z3] at hi
    have := h2 i hi
    have b := s6 i hi
    have c := s4 (q 13 i) (by omega)
    unfold kgG at *
    rw [e 14 i (by omega) (by omega) (by omega), e 12 i (by omega) (by omega) (by omega), e 13 i (by omega) (by omega) (by omega), e 8 _ (by omega) (by omega) (by omega), e 6 _ (by omega) (by omega) (by omega), e2 _ b.1, e2 _ c.1, z2]
    refine ⟨this.1, this.2.1, this.2.2.1, fun r hr => ?_, fun r h1 h2 => ?_⟩
    · rw [e 15 r (by omega) (by omega) (by omega)]
      exact this.2.2.2.1 r hr
    · rw [e 6 r (by omega) (by omega) (by omega), e2 _ (s4 r (by omega)).1]
      exact this.2.2.2.2 r h1 h2
  · rw [z2] at ha hc
    rw [e 6 a (by omega) (by omega) (by omega), e 6 c (by omega) (by omega) (by omega), e2 _ (s4 a ha).1]
    exact h3 a c ha hc
theorem kgA_scope (hS : aS q) (h : kgA q) {k p : Nat} (h6 : k = 6 → p = 0) (hp : p ≠ 0 → q 2 (p - 1) ≠ 6) (hp2 : p ≤ q 0 0) : kgA (aScope q k p) := by
  obtain ⟨h1, h2, h3, h4⟩ := h
  obtain ⟨s1, s2, s3, s4, s5, s6⟩ := hS
  have e2 : ∀ s, s < q 0 0 → (aScope q k p) 2 s = q 2 s := fun s hs => by
    simp only [aScope, uq]
    simp
    omega
  have e : ∀ c r, c ≠ 0 → c ≠ 1 → c ≠ 2 → (aScope q k p) c r = q c r := fun c r a1 a2 a3 => by
    simp only [aScope, uq]
    rw [if_neg (by omega), if_neg (by omega), if_neg (by omega)]
  have z0 : (aScope q k p) 0 0 = q 0 0 + 1 := by simp [aScope, uq]
  have z1 : (aScope q k p) 0 1 = q 0 1 := by simp [aScope, uq]
  have z4 : (aScope q k p) 0 4 = q 0 4 := by simp [aScope, uq]
  have z6 : (aScope q k p) 0 6 = q 0 6 := by simp [aScope, uq]
  refine ⟨fun s hs => ?_, fun d hd => ?_, ?_, fun j hj => ?_⟩
  · rw [z0] at hs
    by_cases c : s = q 0 0
    · have a1 : (aScope q k p) 2 s = k := by subst c; simp [aScope, uq]
      have a2 : (aScope q k p) 1 s = p := by subst c; simp [aScope, uq]
      rw [a1, a2]
      refine ⟨h6, fun h => ?_⟩
      rw [e2 _ (by omega)]
      exact hp h
    · have b := s2 s (by omega)
      have a2 : (aScope q k p) 1 s = q 1 s := by simp [aScope, uq, c]
      rw [e2 s (by omega), a2]
      refine ⟨(h1 s (by omega)).1, fun h => ?_⟩
      rw [e2 _ (by omega)]
      exact (h1 s (by omega)).2 h
  · rw [z1] at hd
    have b := s3 d hd
    rw [e 3 d (by omega) (by omega) (by omega), e 5 d (by omega) (by omega) (by omega), e2 _ b.1]
    refine ⟨(h2 d hd).1, fun h => ?_⟩
    rw [e2 _ (by omega)]
    exact (h2 d hd).2 h
  · rw [z6, e2 _ s1.2.2.2.2.2.1]
    exact h3
  · rw [z4] at hj
    have b := s5 j hj
    rw [e 10 j (by omega) (by omega) (by omega), e 11 j (by omega) (by omega) (by omega), e2 _ b.2.1, e2 _ b.2.2]
    exact h4 j hj
theorem kgA_decl (h : kgA q) {s t a : Nat} (h1 : q 2 s ≠ 6) (h2 : a ≠ 0 → q 2 (a - 1) ≠ 6) : kgA (aDecl q s t a) := by
  obtain ⟨g1, g2, g3, g4⟩ := h
  refine ⟨fun s hs => ?_, fun d hd => ?_, ?_, fun j hj => ?_⟩
  · have := g1 s (by simpa [aDecl, uq] using hs)
    simpa [aDecl, uq] using this
  · simp [aDecl, uq] at hd
    by_cases c : d = q 0 1
    · subst c
      simpa [aDecl, uq] using And.intro h1 h2
    · have := g2 d (by omega)
      simpa [aDecl, uq, c] using this
  · simpa [aDecl, uq] using g3
  · have := g4 j (by simpa [aDecl, uq] using hj)
    simpa [aDecl, uq] using this
theorem kgB_decl (h : kgB q) {s t a : Nat} : kgB (aDecl q s t a) := h.cong (by simp [aDecl, uq]) (fun r => by simp [aDecl, uq])
theorem kgA.cong (h : kgA q) (e0 : q' 0 0 = q 0 0 ∧ q' 0 1 = q 0 1) (e : ∀ r, q' 1 r = q 1 r ∧ q' 2 r = q 2 r ∧ q' 3 r = q 3 r ∧ q' 5 r = q 5 r) (h6 : q 2 (q' 0 6) ≠ 6) (hj : ∀ j, j < q' 0 4 → q 2 (q' 10 j) ≠ 6 ∧ q 2 (q' 11 j) ≠ 6) : kgA q' := by
  obtain ⟨h1, h2, h3, h4⟩ := h
  refine ⟨fun s hs => ?_, fun d hd => ?_, ?_, fun j hj' => ?_⟩
  · have := h1 s (by omega)
    simpa only [(e _).1, (e _).2.1] using this
  · have := h2 d (by omega)
    simpa only [(e _).2.1, (e _).2.2.1, (e _).2.2.2] using this
  · rw [(e _).2.1]; exact h6
  · rw [(e _).2.1, (e _).2.1]; exact hj j hj'
theorem kgA_push (h : kgA q) (f a : Nat) (ha : q 2 a ≠ 6) : kgA (aPush q f a) := by
  refine h.cong (by simp [aPush, uq]) (fun r => by simp [aPush, uq]) (by simpa [aPush, uq] using h.2.2.1) (fun j hj => ?_)
  simp [aPush, uq] at hj
  by_cases c : j = q 0 4
  · subst c
    simpa [aPush, uq] using And.intro h.2.2.1 ha
  · have := h.2.2.2 j (by omega)
    simpa [aPush, uq, c] using this
theorem kgA_top (h : kgA q) (f a : Nat) (ha : q 2 a ≠ 6) : kgA (aTop q f a) := by
  refine h.cong (by simp [aTop, uq]) (fun r => by simp [aTop, uq]) (by simpa [aTop, uq] using h.2.2.1) (fun j hj => ?_)
  have hj' : j < q 0 4 := by simpa [aTop, uq] using hj
  have := h.2.2.2 j hj'
  by_cases c : j = q 0 4 - 1
  · subst c
    simpa [aTop, uq] using And.intro this.1 ha
  · simpa [aTop, uq, c] using this
theorem kgA_here (h : kgA q) {s : Nat} (hs : q 2 s ≠ 6) : kgA (uq q 0 6 s) := h.cong (by simp [uq]) (fun r => by simp [uq]) (by simpa [uq] using hs) (fun j hj => by
  have := h.2.2.2 j (by simpa [uq] using hj)
  simpa [uq] using this)
theorem kgA_u (h : kgA q) {c v : Nat} (hc : c = 5 ∨ c = 7 ∨ c = 8 ∨ c = 3) : kgA (uq q 0 c v) := h.cong (by simp [uq]; omega) (fun r => by simp [uq]) (by
  have : ¬ 6 = c := by omega
  simpa [uq, this] using h.2.2.1) (fun j hj => by
  have hc4 : ¬ 4 = c := by omega
  have := h.2.2.2 j (by simpa [uq, hc4] using hj)
  simpa [uq] using this)
theorem kgA_pop (h : kgA q) (s : Nat) (hO : q 2 (topO q) ≠ 6) : kgA (aPop q s) := h.cong (by simp [aPop, aTurn, uq]) (fun r => by simp [aPop, aTurn, uq]) (by simpa [aPop, aTurn, uq] using hO) (fun j hj => by
  have := h.2.2.2 j (by
    simp [aPop, aTurn, uq] at hj
    omega)
  simpa [aPop, aTurn, uq] using this)
theorem kgA_ref (h : kgA q) {s t : Nat} : kgA (aRef q s t) := h.cong (by simp [aRef, uq]) (fun r => by simp [aRef, uq]) (by simpa [aRef, uq] using h.2.2.1) (fun j hj => by
  have := h.2.2.2 j (by simpa [aRef, uq] using hj)
  simpa [aRef, uq] using this)
/-- a reference in a scope that is not LONG -/
theorem kgB_ref (hS : aS q) (h : kgB q) {s t : Nat} (hs : q 2 s ≠ 6) : kgB (aRef q s t) := by
  obtain ⟨h1, h2, h3⟩ := h
  obtain ⟨s1, s2, s3, s4, s5, s6⟩ := hS
  have z2 : (aRef q s t) 0 2 = q 0 2 + 1 := by simp [aRef, uq]
  have z3 : (aRef q s t) 0 3 = q 0 3 := by simp [aRef, uq]
  have e : ∀ c r, c ≠ 0 → r ≠ q 0 2 → (aRef q s t) c r = q c r := fun c r a1 a2 => by
    simp only [aRef, uq]
    rw [if_neg (by omega), if_neg (by omega), if_neg (by omega), if_neg (by omega), if_neg (by omega)]
  have ec : ∀ c r, c ≠ 0 → c ≠ 6 → c ≠ 7 → c ≠ 8 → c ≠ 15 → (aRef q s t) c r = q c r := fun c r a1 a2 a3 a4 a5 => by
    simp only [aRef, uq]
    rw [if_neg (by omega), if_neg (by omega), if_neg (by omega), if_neg (by omega), if_neg (by omega)]
  have n6 : (aRef q s t) 6 (q 0 2) = s := by simp [aRef, uq]
  have n8 : (aRef q s t) 8 (q 0 2) = 0 := by simp [aRef, uq]
  have n15 : (aRef q s t) 15 (q 0 2) = 0 := by simp [aRef, uq]
  refine ⟨fun r hr => ?_, fun i hi => ?_, fun a c ha hc => ?_⟩
  · rw [z2] at hr
    unfold kgE
    by_cases c : r = q 0 2
    · subst c
      rw [n6, n8, ec 2 _ (by omega) (by omega) (by omega) (by omega) (by omega)]
      exact ⟨fun h => absurd h hs, fun h => absurd rfl h⟩
    · have := h1 r (by omega)
      unfold kgE at this
      rw [e 6 r (by omega) c, e 8 r (by omega) c, ec 2 _ (by omega) (by omega) (by omega) (by omega) (by omega), ec 2 _ (by omega) (by omega) (by omega) (by omega) (by omega), e 15 r (by omega) c, e 8 (r - 1) (by omega) (by omega), e 15 (r - 1) (by omega) (by omega), z2, z3]
      refine ⟨this.1, fun h8 => ⟨fun h6 => ?_, fun h6 => ?_⟩⟩
      · have := (this.2 h8).1 h6
        rw [e 6 (r + 1) (by omega) (by omega)]
        exact ⟨by omega, this.2⟩
      · obtain ⟨i, a1, a2, a3⟩ := (this.2 h8).2 h6
        exact ⟨i, a1, by rw [ec 14 i (by omega) (by omega) (by omega) (by omega) (by omega)]; exact a2, by rw [ec 12 i (by omega) (by omega) (by omega) (by omega) (by omega)]; exact a3⟩
  · rw [z3] at hi
    have b := s6 i hi
    have := h2 i hi
    unfold kgG at *
    rw [ec 14 i (by omega) (by omega) (by omega) (by omega) (by omega), ec 12 i (by omega) (by omega) (by omega) (by omega) (by omega), ec 13 i (by omega) (by omega) (by omega) (by omega) (by omega), ec 2 _ (by omega) (by omega) (by omega) (by omega) (by omega), ec 2 _ (by omega) (by omega) (by omega) (by omega) (by omega), e 8 _ (by omega) (by omega), e 6 _ (by omega) (by omega), z2]
    refine ⟨this.1, this.2.1, this.2.2.1, fun r hr => ?_, fun r g1 g2 => ?_⟩
    · by_cases c : r = q 0 2
      · subst c
        rw [n15]
        omega
      · rw [e 15 r (by omega) c]
        exact this.2.2.2.1 r (by omega)
    · rw [e 6 r (by omega) (by omega), ec 2 _ (by omega) (by omega) (by omega) (by omega) (by omega)]
      exact this.2.2.2.2 r g1 g2
  · rw [z2] at ha hc
    rw [ec 2 _ (by omega) (by omega) (by omega) (by omega) (by omega)]
    by_cases ca : a = q 0 2
    · subst ca
      rw [n6]
      exact fun _ h => absurd h hs
    · by_cases cc : c = q 0 2
      · subst cc
        rw [n6]
        intro h h'
        rw [h] at h'
        exact absurd h' hs
      · rw [e 6 a (by omega) ca, e 6 c (by omega) cc]
        exact h3 a c (by omega) (by omega)
/-- the next name of a long one -/
theorem kgB_next (hS : aS q) (h : kgB q) {t : Nat} (hn : 0 < q 0 2) (h15 : q 15 (q 0 2 - 1) = 0) (h8 : q 8 (q 0 2 - 1) = 0) : kgB (aRef (uq (aScope q 6 0) 8 (q 0 2 - 1) (q 0 0 + 1)) (q 0 0) t) := by
  obtain ⟨h1, h2, h3⟩ := h
  obtain ⟨s1, s2, s3, s4, s5, s6⟩ := hS
  generalize hz : aRef (uq (aScope q 6 0) 8 (q 0 2 - 1) (q 0 0 + 1)) (q 0 0) t = z
  have z2 : z 0 2 = q 0 2 + 1 := by rw [← hz]; simp [aRef, aScope, uq]
  have z3 : z 0 3 = q 0 3 := by rw [← hz]; simp [aRef, aScope, uq]
  have e2 : ∀ s, s < q 0 0 → z 2 s = q 2 s := fun s hs => by
    rw [← hz]
    simp [aRef, aScope, uq]
    omega
  have n2 : z 2 (q 0 0) = 6 := by rw [← hz]; simp [aRef, aScope, uq]
  have e6 : ∀ r, z 6 r = if r = q 0 2 then q 0 0 else q 6 r := fun r => by rw [← hz]; simp [aRef, aScope, uq]
  have e8 : ∀ r, z 8 r = if r = q 0 2 then 0 else if r = q 0 2 - 1 then q 0 0 + 1 else q 8 r := fun r => by rw [← hz]; simp [aRef, aScope, uq]
  have e15 : ∀ r, z 15 r = if r = q 0 2 then 0 else q 15 r := fun r => by rw [← hz]; simp [aRef, aScope, uq]
  have e12 : ∀ r, z 12 r = q 12 r ∧ z 13 r = q 13 r ∧ z 14 r = q 14 r := fun r => by rw [← hz]; simp [aRef, aScope, uq]
  refine ⟨fun r hr => ?_, fun i hi => ?_, fun a c ha hc => ?_⟩
  · rw [z2] at hr
    unfold kgE
    by_cases c : r = q 0 2
    · subst c
      rw [e6, if_pos rfl, n2, e8 (q 0 2), if_pos rfl, e8 (q 0 2 - 1), if_neg (by omega), if_pos rfl, e15, if_pos rfl, e15, if_neg (by omega), h15]
      exact ⟨fun _ => ⟨hn, rfl, rfl⟩, fun h => absurd rfl h⟩
    · have b := s4 r (by omega)
      have := h1 r (by omega)
      unfold kgE at this
      rw [e6 r, if_neg c, e2 _ b.1, e8 r, if_neg c, e15 r, if_neg c, e15 (r - 1), if_neg (by omega), e8 (r - 1), if_neg (by omega), z2, z3]
      refine ⟨fun h6 => ?_, fun hne => ?_⟩
      · have t := this.1 h6
        rw [if_neg (by omega)]
        exact t
      · by_cases cl : r = q 0 2 - 1
        · rw [if_pos cl, show q 0 0 + 1 - 1 = q 0 0 by omega, n2, e6, if_pos (by omega)]
          exact ⟨fun _ => ⟨by omega, rfl⟩, fun h => absurd rfl h⟩
        · rw [if_neg cl] at hne ⊢
          rw [e2 _ (by omega)]
          refine ⟨fun h6 => ?_, fun h6 => ?_⟩
          · have t := (this.2 hne).1 h6
            rw [e6, if_neg (by omega)]
            exact ⟨by omega, t.2⟩
          · obtain ⟨i, a1, a2, a3⟩ := (this.2 hne).2 h6
            exact ⟨i, a1, by rw [(e12 i).2.2]; exact a2, by rw [(e12 i).1]; exact a3⟩
  · rw [z3] at hi
    have b := s6 i hi
    have this := h2 i hi
    have c := s4 (q 13 i) (by omega)
    unfold kgG at *
    have hne : q 14 i ≠ q 0 2 - 1 := fun e => by
      have := (this.2.2.2.1 (q 14 i) (by omega)).mpr ⟨b.2.1, Nat.le_refl _⟩
      rw [e, h15] at this
      omega
    rw [(e12 i).1, (e12 i).2.1, (e12 i).2.2, e8, if_neg (by omega), if_neg hne, e2 _ b.1, e6, if_neg (by omega), e2 _ c.1, z2]
    refine ⟨this.1, this.2.1, this.2.2.1, fun r hr => ?_, fun r g1 g2 => ?_⟩
    · rw [e15]
      by_cases c : r = q 0 2
      · rw [if_pos c]
        omega
      · rw [if_neg c]
        exact this.2.2.2.1 r (by omega)
    · rw [e6, if_neg (by omega), e2 _ (s4 r (by omega)).1]
      exact this.2.2.2.2 r g1 g2
  · rw [z2] at ha hc
    rw [e6 a, e6 c]
    intro h h6
    by_cases ca : a = q 0 2
    · by_cases cc : c = q 0 2
      · omega
      · have := s4 c (by omega)
        rw [if_pos ca, if_neg cc] at h
        omega
    · have b := s4 a (by omega)
      by_cases cc : c = q 0 2
      · rw [if_neg ca, if_pos cc] at h
        omega
      · rw [if_neg ca] at h h6
        rw [if_neg cc] at h
        rw [e2 _ b.1] at h6
        exact h3 a c (by omega) (by omega) h h6
/-- the end of an import -/
theorem kgB_imp (hS : aS q) (h : kgB q) (hh : q 2 (q 0 6) ≠ 6) (hl : q 0 8 < q 0 2) (h8 : q 8 (q 0 2 - 1) = 0) (h6 : q 2 (q 6 (q 0 8)) ≠ 6) (h15 : ∀ r, q 0 8 ≤ r → r < q 0 2 → q 15 r = 0) (hL : ∀ r, q 0 8 < r → r < q 0 2 → q 2 (q 6 r) = 6) : kgB (aImp q) := by
  obtain ⟨h1, h2, h3⟩ := h
  obtain ⟨s1, s2, s3, s4, s5, s6⟩ := hS
  generalize hz : aImp q = z
  have z2 : z 0 2 = q 0 2 := by rw [← hz]; simp [aImp]
  have z3 : z 0 3 = q 0 3 + 1 := by rw [← hz]; simp [aImp]
  have e2 : ∀ s, z 2 s = q 2 s := fun s => by rw [← hz]; simp [aImp]
  have e6 : ∀ r, z 6 r = q 6 r := fun r => by rw [← hz]; simp [aImp]
  have e8 : ∀ r, z 8 r = if r = q 0 2 - 1 then q 0 6 + 1 else q 8 r := fun r => by rw [← hz]; simp [aImp]
  have e15 : ∀ r, z 15 r = if q 0 8 ≤ r ∧ r ≤ q 0 2 - 1 then q 0 3 + 1 else q 15 r := fun r => by rw [← hz]; simp [aImp]
  have e12 : ∀ r, z 12 r = if r = q 0 3 then q 0 6 else q 12 r := fun r => by rw [← hz]; simp [aImp]
  have e13 : ∀ r, z 13 r = if r = q 0 3 then q 0 8 else q 13 r := fun r => by rw [← hz]; simp [aImp]
  have e14 : ∀ r, z 14 r = if r = q 0 3 then q 0 2 - 1 else q 14 r := fun r => by rw [← hz]; simp [aImp]
  refine ⟨fun r hr => ?_, fun i hi => ?_, fun a c ha hc => ?_⟩
  · rw [z2] at hr
    have this := h1 r hr
    unfold kgE at *
    rw [e6 r, e2, e8 (r - 1), e15 r, e15 (r - 1), z2, z3, e6 (r + 1)]
    refine ⟨fun hk => ?_, fun hne => ?_⟩
    · have t := this.1 hk
      have hrl : r ≠ q 0 8 := fun e => by
        rw [e] at hk
        exact h6 hk
      rw [if_neg (by omega)]
      refine ⟨t.1, t.2.1, ?_⟩
      by_cases c : q 0 8 ≤ r
      · rw [if_pos (by omega), if_pos (by omega)]
      · rw [if_neg (by omega), if_neg (by omega)]
        exact t.2.2
    · rw [e8] at hne ⊢
      by_cases cl : r = q 0 2 - 1
      · rw [if_pos cl, show q 0 6 + 1 - 1 = q 0 6 by omega, e2]
        exact ⟨fun h => absurd h hh, fun _ => ⟨q 0 3, by omega, by rw [e14, if_pos rfl]; exact cl.symm, by rw [e12, if_pos rfl]⟩⟩
      · rw [if_neg cl] at hne ⊢
        rw [e2]
        refine ⟨(this.2 hne).1, fun hk => ?_⟩
        obtain ⟨i, a1, a2, a3⟩ := (this.2 hne).2 hk
        exact ⟨i, by omega, by rw [e14, if_neg (by omega)]; exact a2, by rw [e12, if_neg (by omega)]; exact a3⟩
  · rw [z3] at hi
    unfold kgG
    by_cases c : i = q 0 3
    · subst c
      rw [e14, if_pos rfl, e12, if_pos rfl, e13, if_pos rfl, e8, if_pos rfl, e2, e2, e6, z2]
      refine ⟨rfl, hh, h6, fun r hr => ?_, fun r g1 g2 => ?_⟩
      · rw [e15]
        have b := (s4 r hr).2.2
        by_cases c : q 0 8 ≤ r ∧ r ≤ q 0 2 - 1
        · rw [if_pos c]
          exact ⟨fun _ => c, fun _ => rfl⟩
        · rw [if_neg c]
          omega
      · rw [e6, e2]
        exact hL r g1 (by omega)
    · have b := s6 i (by omega)
      have this := h2 i (by omega)
      unfold kgG at this
      have hne : q 14 i < q 0 8 := by
        have t := (this.2.2.2.1 (q 14 i) (by omega)).mpr ⟨b.2.1, Nat.le_refl _⟩
        have u := h15 (q 14 i)
        omega
      rw [e14, if_neg c, e12, if_neg c, e13, if_neg c, e8, if_neg (by omega), e2, e2, e6, z2]
      refine ⟨this.1, this.2.1, this.2.2.1, fun r hr => ?_, fun r g1 g2 => ?_⟩
      · rw [e15]
        by_cases c2 : q 0 8 ≤ r ∧ r ≤ q 0 2 - 1
        · rw [if_pos c2]
          omega
        · rw [if_neg c2]
          exact this.2.2.2.1 r hr
      · rw [e6, e2]
        exact this.2.2.2.2 r g1 g2
  · rw [z2] at ha hc
    rw [e6 a, e6 c, e2]
    exact h3 a c ha hc
end GOOD
