/-! THE START: what the Statement gives, as the invariant J of the world; the walk up to the law's loop -/
def gFl : List Cond := flatC (Jvm.Cond.and given_1 narrow_1)
def gTm (i : Nat) : Term := if i = 0 then .string RX6 82 else .string RX6 45
theorem gs_ex0 : Cond.exactly (.string RX6 82) "java/lang/String" ∈ gFl := by decide +kernel
theorem gs_ex1 : Cond.exactly (.string RX6 45) "java/lang/String" ∈ gFl := by decide +kernel
theorem gs_ex2 : Cond.exactly (.string RX7 66) "java/lang/String" ∈ gFl := by decide +kernel
theorem gs_ex3 : Cond.exactly (.string RX7 77) "java/lang/String" ∈ gFl := by decide +kernel
theorem gs_ex4 : Cond.exactly (.string RX7 119) "java/lang/String" ∈ gFl := by decide +kernel
theorem gs_ex5 : Cond.exactly (.string RX7 122) "java/lang/String" ∈ gFl := by decide +kernel
theorem gs_ex6 : Cond.exactly (.string RX7 152) "java/lang/String" ∈ gFl := by decide +kernel
theorem gs_ex7 : Cond.exactly (.string RX7 170) "java/lang/String" ∈ gFl := by decide +kernel
theorem gs_ex8 : Cond.exactly (.string RX7 184) "java/lang/String" ∈ gFl := by decide +kernel
theorem gs_ex9 : Cond.exactly (.string RX7 217) "java/lang/String" ∈ gFl := by decide +kernel
theorem gs_co0 : Cond.eq (.field (.string RX6 82) "java/lang/String" "coder" "B") (.int 0) ∈ gFl := by decide +kernel
theorem gs_co1 : Cond.eq (.field (.string RX6 45) "java/lang/String" "coder" "B") (.int 0) ∈ gFl := by decide +kernel
theorem gs_ar0 : Cond.arrayOf (.field (.string RX6 82) "java/lang/String" "value" "[B") .byte ∈ gFl := by decide +kernel
theorem gs_ar1 : Cond.arrayOf (.field (.string RX6 45) "java/lang/String" "value" "[B") .byte ∈ gFl := by decide +kernel
theorem gs_le0 : Cond.eq (.length (.field (.string RX6 82) "java/lang/String" "value" "[B")) (.int (Int32.ofNat (sLen.getD 0 0))) ∈ gFl := by decide +kernel
theorem gs_le1 : Cond.eq (.length (.field (.string RX6 45) "java/lang/String" "value" "[B")) (.int (Int32.ofNat (sLen.getD 1 0))) ∈ gFl := by decide +kernel
theorem gs_el0 : ∀ j, j < sLen.getD 0 0 → Cond.eq (.elem (.field (.string RX6 82) "java/lang/String" "value" "[B") (.int (Int32.ofNat j))) (.int ((sByt.getD 0 []).getD j 0)) ∈ gFl := by decide +kernel
theorem gs_el1 : ∀ j, j < sLen.getD 1 0 → Cond.eq (.elem (.field (.string RX6 45) "java/lang/String" "value" "[B") (.int (Int32.ofNat j))) (.int ((sByt.getD 1 []).getD j 0)) ∈ gFl := by decide +kernel
theorem gs_ne : Cond.not (Cond.eq (.string RX6 82) (.string RX6 45)) ∈ gFl ∨ Cond.not (Cond.eq (.string RX6 45) (.string RX6 82)) ∈ gFl := by decide +kernel
theorem gs_cs : Cond.eq (.static "java/lang/String" "COMPACT_STRINGS" "Z") (.int 1) ∈ gFl := by decide +kernel
theorem gs_fm : Cond.isRef (.static "jdk/internal/util/Preconditions" "SIOOBE_FORMATTER" dFm) ∈ gFl := by decide +kernel
theorem gs_us : Cond.isRef (.static Bundle.tN "UNASSIGNED_STACK" Bundle.steD) ∈ gFl := by decide +kernel
theorem gs_ss : Cond.isRef (.static Bundle.tN "SUPPRESSED_SENTINEL" Bundle.listD) ∈ gFl := by decide +kernel
theorem gs_i2 {P : Nat → Prop} (h0 : P 0) (h1 : P 1) : ∀ i, i < 2 → P i := by
  intro i hi
  rcases (show i = 0 ∨ i = 1 by omega) with rfl | rfl
  · exact h0
  · exact h1
theorem g_eval {args : Array Value} {s : State} {t : Term} (h : (Cond.exactly t "java/lang/String").before args s = true) : ∃ a, t.eval args s none [] s = some (.ref a) := by
  obtain ⟨a, c, cA, kA, q1, -⟩ := Cond.exactly_spec (args := args) (first := s) (o := none) (s := s) (idx := []) (t := t) (cls := "java/lang/String") h
  exact ⟨a, q1⟩
/-- the addresses of what was there before: Strings, their bytes, the formatter, the script -/
def gAd (adK adV : Nat → Nat) (ex : Nat → Nat) (fm b : Nat) : Nat → Nat := fun k => if k = 2000000 then b else if k = 1000200 then fm else if 1000100 ≤ k then adV (k - 1000100) else if 1000002 ≤ k then ex (k - 1000002) else adK (k - 1000000)
theorem gStr.ok {w : gW} {u U : State} (h : gStr w u) (hW : u.WarmedH U.vm) (hF : va_F (gA w) u U) : gStr w U := by
  unfold gStr at h ⊢
  obtain ⟨a1, a2, ⟨v, a3, a4⟩, b0, b1, b2, b3, b4, b5, b6, b7, b8, b9⟩ := h
  exact ⟨(a1.kept hF.2).moved hW.alike, (a2.kept hF.2).moved hW.alike, ⟨v, a3, (a4.kept hF.2).moved hW.alike⟩, b0.warm hW, b1.warm hW, b2.warm hW, b3.warm hW, b4.warm hW, b5.warm hW, b6.warm hW, b7.warm hW, b8.warm hW, b9.warm hW⟩
theorem gExc.ok {w : gW} {u U : State} (h : gExc w u) (hW : u.WarmedH U.vm) (hF : va_F (gA w) u U) : gExc w U :=
  ⟨(h.1.kept hF.2).moved hW.alike, (h.2.1.kept hF.2).moved hW.alike, g_ewarm hW h.2.2⟩
set_option maxRecDepth 100000 in
set_option maxHeartbeats 4000000 in
/-- the world at the start -/
theorem g_world {s : State} {b : Nat} (hts : ∀ q ∈ lw_tbl, q.before #[Value.ref b] s = true) (hgv : (Jvm.Cond.and given_1 narrow_1).before #[Value.ref b] s = true) (hb : b < s.heap.size) :
    ∃ w : gW, w.2.2.2.2.1 = [] ∧ w.2.2.2.1 = s.heap.size ∧ w.2.2.1 2000000 = b ∧ va_K w.1 vwCl (g_tys w.2.1) s ∧ w.2.2.2.2.2 s ∧ gJok w ∧ gJs w ∧ gJx w := by
  have hs := flat_of_before _ hgv
  have hA : ∀ a : Nat, a < s.heap.size → ¬ (s.heap.size ≤ a) := fun a h => Nat.not_le.mpr h
  obtain ⟨adK, adV, hS, hev⟩ := vk_Sof (args := #[Value.ref b]) (s := s) (N := 2) (tm := gTm) (len := sLen) (byt := sByt) (A := fun q => s.heap.size ≤ q) (gs_i2 (by decide) (by decide)) (gs_i2 (hs _ gs_ex0) (hs _ gs_ex1)) (gs_i2 (hs _ gs_co0) (hs _ gs_co1)) (gs_i2 (hs _ gs_ar0) (hs _ gs_ar1)) (gs_i2 (hs _ gs_le0) (hs _ gs_le1))
    (gs_i2 (fun j hj => hs _ (gs_el0 j hj)) (fun j hj => hs _ (gs_el1 j hj))) (by
      have hn : (Cond.not (Cond.eq (gTm 0) (gTm 1))).before #[Value.ref b] s = true ∨ (Cond.not (Cond.eq (gTm 1) (gTm 0))).before #[Value.ref b] s = true := gs_ne.imp (hs _) (hs _)
      intro i j hi hj hij
      rcases (show i = 0 ∨ i = 1 by omega) with rfl | rfl <;> rcases (show j = 0 ∨ j = 1 by omega) with rfl | rfl
      · exact absurd rfl hij
      · exact hn
      · exact hn.symm
      · exact absurd rfl hij) hA
  have hZ1 := va_Zof (hts _ (List.mem_of_getElem? (i := 444) (by decide +kernel))) (hts _ (List.mem_of_getElem? (i := 91) (by decide +kernel))) (va_eqt (hs _ gs_cs)) hA
  have hZ2 := va_Zqof (A := fun q => s.heap.size ≤ q) (hts _ (List.mem_of_getElem? (i := 452) (by decide +kernel))) (hts _ (List.mem_of_getElem? (i := 93) (by decide +kernel))) (hs _ gs_fm) hA
  have hU := vx_Zqof (A := fun q => s.heap.size ≤ q) (hts _ (List.mem_of_getElem? (i := 756) (by decide +kernel))) (hts _ (List.mem_of_getElem? (i := 86) (by decide +kernel))) (hs _ gs_us) hA
  have hN := vx_Zqof (A := fun q => s.heap.size ≤ q) (hts _ (List.mem_of_getElem? (i := 758) (by decide +kernel))) (hts _ (List.mem_of_getElem? (i := 86) (by decide +kernel))) (hs _ gs_ss) hA
  obtain ⟨e2, he2⟩ := g_eval (hs _ gs_ex2)
  obtain ⟨e3, he3⟩ := g_eval (hs _ gs_ex3)
  obtain ⟨e4, he4⟩ := g_eval (hs _ gs_ex4)
  obtain ⟨e5, he5⟩ := g_eval (hs _ gs_ex5)
  obtain ⟨e6, he6⟩ := g_eval (hs _ gs_ex6)
  obtain ⟨e7, he7⟩ := g_eval (hs _ gs_ex7)
  obtain ⟨e8, he8⟩ := g_eval (hs _ gs_ex8)
  obtain ⟨e9, he9⟩ := g_eval (hs _ gs_ex9)
  obtain ⟨fm, hfm⟩ : ∃ fm : Nat, ∃ v : Value, (v = .null ∨ v = .ref 1000200) ∧ va_Z "jdk/internal/util/Preconditions" "SIOOBE_FORMATTER" dFm (tv (gAd adK adV (fun k => if k = 0 then e2 else if k = 1 then e3 else if k = 2 then e4 else if k = 3 then e5 else if k = 4 then e6 else if k = 5 then e7 else if k = 6 then e8 else e9) fm b) v) (fun q => s.heap.size ≤ q) s s.heap := by
    rcases hZ2 with h | ⟨t, h⟩
    · exact ⟨0, .null, Or.inl rfl, h⟩
    · exact ⟨t, .ref 1000200, Or.inr rfl, h⟩
  generalize had : gAd adK adV (fun k => if k = 0 then e2 else if k = 1 then e3 else if k = 2 then e4 else if k = 3 then e5 else if k = 4 then e6 else if k = 5 then e7 else if k = 6 then e8 else e9) fm b = ad at hfm
  have hK1 : ∀ c : Nat, ∃ d : ClassId × (Nat → Nat), ∀ q : vw_C, vwCl[c]? = some q → u_Kn s q.1 q.2.1 q.2.2 d.1 d.2 := by
    have hgt : ∀ q ∈ gTb, q.before #[Value.ref b] s = true := fun q hq => hts q (List.mem_filter.mp hq).1
    intro c
    match c with
    | 0 =>
      obtain ⟨c0, i0, h0⟩ := u_known (C := RX0) (T := TX0) (N := 5) (n := 5) hgt clX0.2.2.1 (hts (.instantiable RX0 5) (List.mem_of_getElem? (i := 130) (by decide +kernel)))
      exact ⟨(c0, i0), fun q hq => by cases hq; exact h0⟩
    | 1 =>
      obtain ⟨c0, i0, h0⟩ := u_known (C := RX1) (T := TX1) (N := 4) (n := 4) hgt clX1.2.2.1 (hts (.instantiable RX1 4) (List.mem_of_getElem? (i := 237) (by decide +kernel)))
      exact ⟨(c0, i0), fun q hq => by cases hq; exact h0⟩
    | 2 =>
      obtain ⟨c0, i0, h0⟩ := u_known (C := RX2) (T := TX2) (N := 13) (n := 13) hgt clX2.2.2.1 (hts (.instantiable RX2 13) (List.mem_of_getElem? (i := 124) (by decide +kernel)))
      exact ⟨(c0, i0), fun q hq => by cases hq; exact h0⟩
    | 3 =>
      obtain ⟨c0, i0, h0⟩ := u_known (C := RX3) (T := TX3) (N := 10) (n := 10) hgt clX3.2.2.1 (hts (.instantiable RX3 10) (List.mem_of_getElem? (i := 263) (by decide +kernel)))
      exact ⟨(c0, i0), fun q hq => by cases hq; exact h0⟩
    | 4 =>
      obtain ⟨c0, i0, h0⟩ := u_known (C := RX4) (T := TX4) (N := 5) (n := 5) hgt clX4.2.2.1 (hts (.instantiable RX4 5) (List.mem_of_getElem? (i := 333) (by decide +kernel)))
      exact ⟨(c0, i0), fun q hq => by cases hq; exact h0⟩
    | 5 =>
      obtain ⟨c0, i0, h0⟩ := u_known (C := RX5) (T := TX5) (N := 2) (n := 2) hgt clX5.2.2.1 (hts (.instantiable RX5 2) (List.mem_of_getElem? (i := 108) (by decide +kernel)))
      exact ⟨(c0, i0), fun q hq => by cases hq; exact h0⟩
    | 6 =>
      obtain ⟨c0, i0, h0⟩ := u_known (C := RX6) (T := TX6) (N := 5) (n := 5) hgt clX6.2.2.1 (hts (.instantiable RX6 5) (List.mem_of_getElem? (i := 269) (by decide +kernel)))
      exact ⟨(c0, i0), fun q hq => by cases hq; exact h0⟩
    | 7 =>
      obtain ⟨c0, i0, h0⟩ := u_known (C := RX7) (T := TX7) (N := 9) (n := 9) hgt clX7.2.2.1 (hts (.instantiable RX7 9) (List.mem_of_getElem? (i := 100) (by decide +kernel)))
      exact ⟨(c0, i0), fun q hq => by cases hq; exact h0⟩
    | 8 =>
      obtain ⟨c0, i0, h0⟩ := u_known (C := RX8) (T := TX8) (N := 74) (n := 74) hgt clX8.2.2.1 (hts (.instantiable RX8 74) (List.mem_of_getElem? (i := 981) (by decide +kernel)))
      exact ⟨(c0, i0), fun q hq => by cases hq; exact h0⟩
    | c + 9 => exact ⟨(0, fun _ => 0), fun q hq => by simp at hq⟩
  obtain ⟨D, hD⟩ := Classical.axiomOfChoice hK1
  have hArr : ∀ ty : FieldType, Cond.arrayClass ty ∈ lw_tbl → ∃ cA : ClassId, ArrOfT s cA ty ∧ s.vm.findClass ("[" ++ ty.toString) = some cA := by
    intro ty hty
    obtain ⟨cA, kA, comp, h1, h2, h3⟩ := Cond.arrayClass_spec (hts _ hty)
    exact ⟨cA, fun n z => ⟨fun k h => (by cases h), kA, h2, comp, h3⟩, h1⟩
  obtain ⟨cI, hI1, hI2⟩ := hArr .int (List.mem_of_getElem? (i := 162) (by decide +kernel))
  obtain ⟨cJ, hJ1, hJ2⟩ := hArr .long (List.mem_of_getElem? (i := 163) (by decide +kernel))
  obtain ⟨cB0, hB1, hB2⟩ := hArr .byte (List.mem_of_getElem? (i := 122) (by decide +kernel))
  obtain ⟨cZ, hZ3, hZ4⟩ := hArr .boolean (List.mem_of_getElem? (i := 1209) (by decide +kernel))
  obtain ⟨cA, hcA⟩ : ∃ cA : FieldType → ClassId, cA .int = cI ∧ cA .long = cJ ∧ cA .byte = cB0 ∧ cA .boolean = cZ := ⟨fun t => match t with
    | .int => cI
    | .long => cJ
    | .byte => cB0
    | _ => cZ, rfl, rfl, rfl, rfl⟩
  obtain ⟨rfl, rfl, rfl, rfl⟩ := hcA
  obtain ⟨w0, hw0⟩ : ∃ w0 : gW, w0 = ((fun c => (D c).1, fun c => (D c).2), cA, ad, s.heap.size, [], fun _ => True) := ⟨_, rfl⟩
  have hAw : gA w0 = fun q => s.heap.size ≤ q := by rw [hw0]; rfl
  have hadw : w0.2.2.1 = ad := by rw [hw0]
  have hstr : gStr w0 s := by
    unfold gStr
    rw [hAw, hadw]
    have hK0 : ad 1000000 = adK 0 := by rw [← had]; rfl
    have hK1 : ad 1000001 = adK 1 := by rw [← had]; rfl
    have hV0 : ad 1000100 = adV 0 := by rw [← had]; rfl
    have hV1 : ad 1000101 = adV 1 := by rw [← had]; rfl
    refine ⟨⟨gs_i2 ?_ ?_, ?_⟩, hZ1, hfm, ?_, ?_, ?_, ?_, ?_, ?_, ?_, ?_, ?_, ?_⟩
    · have h := hS.1 0 (by omega)
      rw [← hK0, ← hV0] at h
      exact h
    · have h := hS.1 1 (by omega)
      rw [← hK1, ← hV1] at h
      exact h
    · intro i j hi hj hij
      rcases (show i = 0 ∨ i = 1 by omega) with rfl | rfl <;> rcases (show j = 0 ∨ j = 1 by omega) with rfl | rfl
      · rfl
      · exact hS.2 0 1 (by omega) (by omega) (by rw [← hK0, ← hK1]; exact hij)
      · exact hS.2 1 0 (by omega) (by omega) (by rw [← hK0, ← hK1]; exact hij)
      · rfl
    · exact vk_R.of (A := #[Value.ref b]) (hts _ (List.mem_of_getElem? (i := 434) (by decide +kernel))) (by rw [hK0]; exact hev 0 (by omega))
    · exact vk_R.of (A := #[Value.ref b]) (hts _ (List.mem_of_getElem? (i := 483) (by decide +kernel))) (by rw [hK1]; exact hev 1 (by omega))
    · exact vk_R.of (A := #[Value.ref b]) (hts _ (List.mem_of_getElem? (i := 770) (by decide +kernel))) (by rw [show ad 1000002 = e2 by rw [← had]; rfl]; exact he2)
    · exact vk_R.of (A := #[Value.ref b]) (hts _ (List.mem_of_getElem? (i := 821) (by decide +kernel))) (by rw [show ad 1000003 = e3 by rw [← had]; rfl]; exact he3)
    · exact vk_R.of (A := #[Value.ref b]) (hts _ (List.mem_of_getElem? (i := 854) (by decide +kernel))) (by rw [show ad 1000004 = e4 by rw [← had]; rfl]; exact he4)
    · exact vk_R.of (A := #[Value.ref b]) (hts _ (List.mem_of_getElem? (i := 868) (by decide +kernel))) (by rw [show ad 1000005 = e5 by rw [← had]; rfl]; exact he5)
    · exact vk_R.of (A := #[Value.ref b]) (hts _ (List.mem_of_getElem? (i := 888) (by decide +kernel))) (by rw [show ad 1000006 = e6 by rw [← had]; rfl]; exact he6)
    · exact vk_R.of (A := #[Value.ref b]) (hts _ (List.mem_of_getElem? (i := 904) (by decide +kernel))) (by rw [show ad 1000007 = e7 by rw [← had]; rfl]; exact he7)
    · exact vk_R.of (A := #[Value.ref b]) (hts _ (List.mem_of_getElem? (i := 912) (by decide +kernel))) (by rw [show ad 1000008 = e8 by rw [← had]; rfl]; exact he8)
    · exact vk_R.of (A := #[Value.ref b]) (hts _ (List.mem_of_getElem? (i := 979) (by decide +kernel))) (by rw [show ad 1000009 = e9 by rw [← had]; rfl]; exact he9)
  have hexc : gExc w0 s := by
    unfold gExc
    rw [hAw]
    refine ⟨hU, hN, fun q hq => ?_⟩
    exact va_Nw.of (g_eon hq) (hts q (List.mem_filter.mp hq).1)
  refine ⟨((fun c => (D c).1, fun c => (D c).2), cA, ad, s.heap.size, [], fun U => gStr w0 U ∧ gExc w0 U), rfl, rfl, ?_, ?_, ⟨hstr, hexc⟩, ?_, ?_, ?_⟩
  · show ad 2000000 = b
    rw [← had]
    rfl
  · refine ⟨fun c q hq => hD c q hq, fun k q hk => ?_⟩
    match k, hk with
    | 0, hk => cases hk; exact ⟨hI1, hI2⟩
    | 1, hk => cases hk; exact ⟨hJ1, hJ2⟩
    | 2, hk => cases hk; exact ⟨hB1, hB2⟩
    | 3, hk => cases hk; exact ⟨hZ3, hZ4⟩
    | k + 4, hk => simp [g_tys] at hk
  · intro u U hu hW hF
    have hF' : va_F (gA w0) u U := by rw [hAw]; exact hF
    exact ⟨hu.1.ok hW hF', hu.2.ok hW hF'⟩
  · intro U hU
    have h := hU.1
    rw [hw0] at h
    exact h
  · intro U hU
    have h := hU.2
    rw [hw0] at h
    exact h
