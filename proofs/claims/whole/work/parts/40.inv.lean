/-! THE TABLE'S INVARIANT (by program gen_inv.py) -/
theorem aS_0 : aS aQ0 := by
  unfold aS aQ0
  simp
theorem aZ_0 : aZ aQ0 := by
  unfold aZ aZs aQ0 topF
  simp
theorem aS_scope {q : Nat → Nat → Nat} {k p : Nat} (h : aS q) (h0 : q 0 0 < 64) (hk : k ≤ 6) (hp : p ≤ q 0 0) : aS (aScope q k p) := by
  obtain ⟨h1, h2, h3, h4, h5, h6⟩ := h
  refine ⟨?_, fun i hi => ?_, fun i hi => ?_, fun i hi => ?_, fun i hi => ?_, fun i hi => ?_⟩
  · simp [aScope, uq] <;> omega
  · have a := h2 i
    simp [aScope, uq] at hi ⊢ <;> (repeat' split) <;> omega
  · have a := h3 i
    simp [aScope, uq] at hi ⊢ <;> (repeat' split) <;> omega
  · have a := h4 i
    simp [aScope, uq] at hi ⊢ <;> (repeat' split) <;> omega
  · have a := h5 i
    simp [aScope, uq] at hi ⊢ <;> (repeat' split) <;> omega
  · have a := h6 i
    simp [aScope, uq] at hi ⊢ <;> (repeat' split) <;> omega
theorem aS_decl {q : Nat → Nat → Nat} {s t a : Nat} (h : aS q) (h0 : q 0 1 < 60) (hk : s < q 0 0) (hp : a ≤ q 0 0) : aS (aDecl q s t a) := by
  obtain ⟨h1, h2, h3, h4, h5, h6⟩ := h
  refine ⟨?_, fun i hi => ?_, fun i hi => ?_, fun i hi => ?_, fun i hi => ?_, fun i hi => ?_⟩
  · simp [aDecl, uq] <;> omega
  · have a := h2 i
    simp [aDecl, uq] at hi ⊢ <;> (repeat' split) <;> omega
  · have a := h3 i
    simp [aDecl, uq] at hi ⊢ <;> (repeat' split) <;> omega
  · have a := h4 i
    simp [aDecl, uq] at hi ⊢ <;> (repeat' split) <;> omega
  · have a := h5 i
    simp [aDecl, uq] at hi ⊢ <;> (repeat' split) <;> omega
  · have a := h6 i
    simp [aDecl, uq] at hi ⊢ <;> (repeat' split) <;> omega
theorem aS_ref {q : Nat → Nat → Nat} {s t : Nat} (h : aS q) (h0 : q 0 2 < 100) (hk : s < q 0 0) : aS (aRef q s t) := by
  obtain ⟨h1, h2, h3, h4, h5, h6⟩ := h
  refine ⟨?_, fun i hi => ?_, fun i hi => ?_, fun i hi => ?_, fun i hi => ?_, fun i hi => ?_⟩
  · simp [aRef, uq] <;> omega
  · have a := h2 i
    simp [aRef, uq] at hi ⊢ <;> (repeat' split) <;> omega
  · have a := h3 i
    simp [aRef, uq] at hi ⊢ <;> (repeat' split) <;> omega
  · have a := h4 i
    simp [aRef, uq] at hi ⊢ <;> (repeat' split) <;> omega
  · have a := h5 i
    simp [aRef, uq] at hi ⊢ <;> (repeat' split) <;> omega
  · have a := h6 i
    simp [aRef, uq] at hi ⊢ <;> (repeat' split) <;> omega
theorem aS_push {q : Nat → Nat → Nat} {f a : Nat} (h : aS q) (h0 : f ≤ 13) (hk : a < q 0 0) : aS (aPush q f a) := by
  obtain ⟨h1, h2, h3, h4, h5, h6⟩ := h
  refine ⟨?_, fun i hi => ?_, fun i hi => ?_, fun i hi => ?_, fun i hi => ?_, fun i hi => ?_⟩
  · simp [aPush, uq] <;> omega
  · have a := h2 i
    simp [aPush, uq] at hi ⊢ <;> (repeat' split) <;> omega
  · have a := h3 i
    simp [aPush, uq] at hi ⊢ <;> (repeat' split) <;> omega
  · have a := h4 i
    simp [aPush, uq] at hi ⊢ <;> (repeat' split) <;> omega
  · have a := h5 i
    simp [aPush, uq] at hi ⊢ <;> (repeat' split) <;> omega
  · have a := h6 i
    simp [aPush, uq] at hi ⊢ <;> (repeat' split) <;> omega
theorem aS_top {q : Nat → Nat → Nat} {f a : Nat} (h : aS q) (h0 : f ≤ 13) (hk : a < q 0 0) : aS (aTop q f a) := by
  obtain ⟨h1, h2, h3, h4, h5, h6⟩ := h
  refine ⟨?_, fun i hi => ?_, fun i hi => ?_, fun i hi => ?_, fun i hi => ?_, fun i hi => ?_⟩
  · simp [aTop, uq] <;> omega
  · have a := h2 i
    simp [aTop, uq] at hi ⊢ <;> (repeat' split) <;> omega
  · have a := h3 i
    simp [aTop, uq] at hi ⊢ <;> (repeat' split) <;> omega
  · have a := h4 i
    simp [aTop, uq] at hi ⊢ <;> (repeat' split) <;> omega
  · have a := h5 i
    simp [aTop, uq] at hi ⊢ <;> (repeat' split) <;> omega
  · have a := h6 i
    simp [aTop, uq] at hi ⊢ <;> (repeat' split) <;> omega
theorem aS_imp {q : Nat → Nat → Nat}  (h : aS q) (h0 : q 0 8 < q 0 2) (hk : q 0 3 < 6) : aS (aImp q) := by
  obtain ⟨h1, h2, h3, h4, h5, h6⟩ := h
  refine ⟨?_, fun i hi => ?_, fun i hi => ?_, fun i hi => ?_, fun i hi => ?_, fun i hi => ?_⟩
  · simp [aImp, uq] <;> omega
  · have a := h2 i
    simp [aImp, uq] at hi ⊢ <;> (repeat' split) <;> omega
  · have a := h3 i
    simp [aImp, uq] at hi ⊢ <;> (repeat' split) <;> omega
  · have a := h4 i
    simp [aImp, uq] at hi ⊢ <;> (repeat' split) <;> omega
  · have a := h5 i
    simp [aImp, uq] at hi ⊢ <;> (repeat' split) <;> omega
  · have a := h6 i
    simp [aImp, uq] at hi ⊢ <;> (repeat' split) <;> omega
theorem aS_turn {q : Nat → Nat → Nat} {s : Nat} (h : aS q)  : aS (aTurn q s) := by
  obtain ⟨h1, h2, h3, h4, h5, h6⟩ := h
  refine ⟨?_, fun i hi => ?_, fun i hi => ?_, fun i hi => ?_, fun i hi => ?_, fun i hi => ?_⟩
  · simp [aTurn, uq] <;> omega
  · have a := h2 i
    simp [aTurn, uq] at hi ⊢ <;> (repeat' split) <;> omega
  · have a := h3 i
    simp [aTurn, uq] at hi ⊢ <;> (repeat' split) <;> omega
  · have a := h4 i
    simp [aTurn, uq] at hi ⊢ <;> (repeat' split) <;> omega
  · have a := h5 i
    simp [aTurn, uq] at hi ⊢ <;> (repeat' split) <;> omega
  · have a := h6 i
    simp [aTurn, uq] at hi ⊢ <;> (repeat' split) <;> omega
theorem aS_open {q : Nat → Nat → Nat} {s : Nat} (h : aS q) (h0 : s ≤ 120) : aS (uq q 0 5 s) := by
  obtain ⟨h1, h2, h3, h4, h5, h6⟩ := h
  refine ⟨?_, fun i hi => ?_, fun i hi => ?_, fun i hi => ?_, fun i hi => ?_, fun i hi => ?_⟩
  · simp [uq] <;> omega
  · have a := h2 i
    simp [uq] at hi ⊢ <;> (repeat' split) <;> omega
  · have a := h3 i
    simp [uq] at hi ⊢ <;> (repeat' split) <;> omega
  · have a := h4 i
    simp [uq] at hi ⊢ <;> (repeat' split) <;> omega
  · have a := h5 i
    simp [uq] at hi ⊢ <;> (repeat' split) <;> omega
  · have a := h6 i
    simp [uq] at hi ⊢ <;> (repeat' split) <;> omega
theorem aS_here {q : Nat → Nat → Nat} {s : Nat} (h : aS q) (h0 : s < q 0 0) : aS (uq q 0 6 s) := by
  obtain ⟨h1, h2, h3, h4, h5, h6⟩ := h
  refine ⟨?_, fun i hi => ?_, fun i hi => ?_, fun i hi => ?_, fun i hi => ?_, fun i hi => ?_⟩
  · simp [uq] <;> omega
  · have a := h2 i
    simp [uq] at hi ⊢ <;> (repeat' split) <;> omega
  · have a := h3 i
    simp [uq] at hi ⊢ <;> (repeat' split) <;> omega
  · have a := h4 i
    simp [uq] at hi ⊢ <;> (repeat' split) <;> omega
  · have a := h5 i
    simp [uq] at hi ⊢ <;> (repeat' split) <;> omega
  · have a := h6 i
    simp [uq] at hi ⊢ <;> (repeat' split) <;> omega
theorem aS_long {q : Nat → Nat → Nat} {s : Nat} (h : aS q)  : aS (uq q 0 8 s) := by
  obtain ⟨h1, h2, h3, h4, h5, h6⟩ := h
  refine ⟨?_, fun i hi => ?_, fun i hi => ?_, fun i hi => ?_, fun i hi => ?_, fun i hi => ?_⟩
  · simp [uq] <;> omega
  · have a := h2 i
    simp [uq] at hi ⊢ <;> (repeat' split) <;> omega
  · have a := h3 i
    simp [uq] at hi ⊢ <;> (repeat' split) <;> omega
  · have a := h4 i
    simp [uq] at hi ⊢ <;> (repeat' split) <;> omega
  · have a := h5 i
    simp [uq] at hi ⊢ <;> (repeat' split) <;> omega
  · have a := h6 i
    simp [uq] at hi ⊢ <;> (repeat' split) <;> omega
theorem aS_dep {q : Nat → Nat → Nat} {s : Nat} (h : aS q) (h0 : s ≤ q 0 4) : aS (uq q 0 4 s) := by
  obtain ⟨h1, h2, h3, h4, h5, h6⟩ := h
  refine ⟨?_, fun i hi => ?_, fun i hi => ?_, fun i hi => ?_, fun i hi => ?_, fun i hi => ?_⟩
  · simp [uq] <;> omega
  · have a := h2 i
    simp [uq] at hi ⊢ <;> (repeat' split) <;> omega
  · have a := h3 i
    simp [uq] at hi ⊢ <;> (repeat' split) <;> omega
  · have a := h4 i
    simp [uq] at hi ⊢ <;> (repeat' split) <;> omega
  · have a := h5 i
    simp [uq] at hi ⊢ <;> (repeat' split) <;> omega
  · have a := h6 i
    simp [uq] at hi ⊢ <;> (repeat' split) <;> omega
theorem aS_impo {q : Nat → Nat → Nat} {r s : Nat} (h : aS q) (h0 : s ≤ q 0 0) : aS (uq q 8 r s) := by
  obtain ⟨h1, h2, h3, h4, h5, h6⟩ := h
  refine ⟨?_, fun i hi => ?_, fun i hi => ?_, fun i hi => ?_, fun i hi => ?_, fun i hi => ?_⟩
  · simp [uq] <;> omega
  · have a := h2 i
    simp [uq] at hi ⊢ <;> (repeat' split) <;> omega
  · have a := h3 i
    simp [uq] at hi ⊢ <;> (repeat' split) <;> omega
  · have a := h4 i
    simp [uq] at hi ⊢ <;> (repeat' split) <;> omega
  · have a := h5 i
    simp [uq] at hi ⊢ <;> (repeat' split) <;> omega
  · have a := h6 i
    simp [uq] at hi ⊢ <;> (repeat' split) <;> omega
