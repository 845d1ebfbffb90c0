/-! THE CELLS after both constructors (numbers by program): 0 the object, 62 the reference, 109 the law's row -/
def gSH : List gS := [.inl 7, .inl 5, .inr (.byte, 4000), .inl 5, .inr (.byte, 4000), .inl 2, .inl 0, .inr (.int, 60), .inr (.int, 60), .inr (.long, 60), .inr (.long, 60), .inl 0, .inr (.int, 100), .inr (.int, 100), .inr (.long, 100), .inr (.long, 100), .inr (.int, 64), .inr (.int, 64), .inr (.long, 64), .inr (.int, 64), .inr (.int, 64), .inr (.int, 100), .inr (.int, 100), .inr (.int, 6), .inr (.int, 6), .inl 2, .inl 0, .inr (.int, 60), .inr (.int, 60), .inr (.long, 60), .inr (.long, 60), .inl 0, .inr (.int, 100), .inr (.int, 100), .inr (.long, 100), .inr (.long, 100), .inr (.int, 64), .inr (.int, 64), .inr (.long, 64), .inr (.int, 64), .inr (.int, 64), .inr (.int, 100), .inr (.int, 100), .inr (.int, 6), .inr (.int, 6), .inl 1, .inr (.long, 100), .inr (.long, 100), .inr (.int, 100), .inr (.int, 100), .inl 1, .inr (.long, 100), .inr (.long, 100), .inr (.int, 100), .inr (.int, 100), .inl 3, .inl 6, .inr (.int, 96), .inr (.int, 96), .inr (.int, 96), .inl 4, .inr (.long, 384), .inl 8, .inr (.int, 4000), .inr (.int, 4000), .inr (.int, 4800), .inr (.int, 65), .inr (.int, 65), .inr (.int, 61), .inr (.int, 61), .inr (.int, 61), .inr (.int, 61), .inr (.int, 101), .inr (.int, 101), .inr (.int, 101), .inr (.int, 101), .inr (.int, 65), .inr (.int, 65), .inr (.int, 61), .inr (.int, 61), .inr (.int, 61), .inr (.int, 61), .inr (.int, 101), .inr (.int, 101), .inr (.int, 101), .inr (.int, 101), .inr (.int, 29), .inr (.int, 9), .inr (.int, 300), .inr (.int, 300), .inr (.int, 300), .inr (.int, 300), .inr (.int, 61), .inr (.int, 101), .inr (.int, 8000), .inr (.int, 8000), .inr (.int, 8000), .inr (.int, 8000), .inr (.long, 8000), .inr (.long, 8000), .inr (.long, 8000), .inr (.long, 8000), .inr (.long, 8000), .inr (.int, 8000), .inr (.long, 101), .inr (.int, 101), .inr (.boolean, 101), .inr (.long, 101), .inr (.boolean, 101), .inr (.long, 1)]
/-- the references: tp tx the tapes, pg df the programs, mn tr the meanings, rp the reader's program, sp sm the resolver's -/
def rtab (tp tx pg df mn tr rp sp sm : Nat) : List (Nat × Nat × Nat) := [(0, 0, tp), (0, 1, tx), (0, 2, pg), (0, 3, df), (0, 4, mn), (0, 5, tr), (0, 6, 55), (0, 7, 60), (1, 0, 2), (3, 0, 4), (5, 0, 6), (5, 1, 11), (5, 2, 16), (5, 3, 17), (5, 4, 18), (5, 5, 19), (5, 6, 20), (5, 7, 21), (5, 8, 22), (5, 9, 23), (5, 10, 24), (6, 0, 7), (6, 1, 8), (6, 2, 9), (6, 3, 10), (11, 0, 12), (11, 1, 13), (11, 2, 14), (11, 3, 15), (25, 0, 26), (25, 1, 31), (25, 2, 36), (25, 3, 37), (25, 4, 38), (25, 5, 39), (25, 6, 40), (25, 7, 41), (25, 8, 42), (25, 9, 43), (25, 10, 44), (26, 0, 27), (26, 1, 28), (26, 2, 29), (26, 3, 30), (31, 0, 32), (31, 1, 33), (31, 2, 34), (31, 3, 35), (45, 0, 46), (45, 1, 47), (45, 2, 48), (45, 3, 49), (50, 0, 51), (50, 1, 52), (50, 2, 53), (50, 3, 54), (55, 0, 56), (55, 1, 57), (55, 2, 58), (55, 3, 59), (55, 4, rp), (60, 0, 61), (60, 1, sp), (60, 2, sm), (62, 1, 63), (62, 3, 64), (62, 5, 65), (62, 8, 66), (62, 9, 67), (62, 11, 68), (62, 12, 69), (62, 13, 70), (62, 14, 71), (62, 16, 72), (62, 17, 73), (62, 18, 74), (62, 19, 75), (62, 22, 76), (62, 23, 77), (62, 25, 78), (62, 26, 79), (62, 27, 80), (62, 28, 81), (62, 30, 82), (62, 31, 83), (62, 32, 84), (62, 33, 85), (62, 35, 86), (62, 36, 87), (62, 43, 88), (62, 44, 89), (62, 45, 90), (62, 46, 91), (62, 52, 92), (62, 53, 93), (62, 54, 94), (62, 55, 95), (62, 56, 96), (62, 57, 97), (62, 58, 98), (62, 59, 99), (62, 60, 100), (62, 61, 101), (62, 62, 102), (62, 63, 103), (62, 68, 104), (62, 69, 105), (62, 70, 106), (62, 71, 107), (62, 72, 108)]
def Rok (m : gM) (tp tx pg df mn tr rp sp sm : Nat) : Prop := ∀ e ∈ rtab tp tx pg df mn tr rp sp sm, m.2.2 e.1 e.2.1 = some e.2.2
def itab0 : List (Nat × Nat × Int32) := [(5, 11, 1), (16, 0, (-1)), (17, 0, 0), (19, 0, 0), (6, 4, 0), (11, 4, 0), (5, 12, 0), (25, 11, 1), (36, 0, (-1)), (37, 0, 0), (39, 0, 0), (26, 4, 0), (31, 4, 0), (25, 12, 0), (1, 1, 0), (3, 1, 0), (0, 8, 0), (62, 0, 0), (62, 2, 0), (62, 4, 0), (62, 6, 0), (62, 7, 0), (62, 10, 1), (66, 0, (-1)), (67, 0, 0), (62, 15, 0), (62, 20, 0), (62, 50, 0), (62, 73, 0), (86, 0, 109), (86, 1, 111), (86, 2, 100), (86, 3, 117), (86, 4, 108), (86, 5, 101), (86, 6, 105), (86, 7, 109), (86, 8, 112), (86, 9, 111), (86, 10, 114), (86, 11, 116), (86, 12, 100), (86, 13, 101), (86, 14, 102), (86, 15, 102), (86, 16, 117), (86, 17, 110), (86, 18, 108), (86, 19, 101), (86, 20, 116), (86, 21, 114), (86, 22, 101), (86, 23, 99), (86, 24, 112), (86, 25, 97), (86, 26, 114), (86, 27, 105), (86, 28, 110), (87, 0, 0), (87, 1, 6), (87, 2, 12), (87, 3, 15), (87, 4, 18), (87, 5, 21), (87, 6, 24), (87, 7, 27), (87, 8, 29)]
theorem F_X2_empty (sh : List gS) (F x0 : Nat) (m : gM) : f_X2_empty sh F x0 m = f_X2_empty sh 0 x0 m := rfl
theorem F_X2_init (sh : List gS) (F x0 : Nat) (m : gM) : f_X2_init sh F x0 m = f_X2_init sh 0 x0 m := rfl
theorem F_X7_init (sh : List gS) (F x0 : Nat) (m : gM) : f_X7_init sh F x0 m = f_X7_init sh 0 x0 m := rfl
theorem F_X8_init (sh : List gS) (F x0 : Nat) (m : gM) : f_X8_init sh F x0 m = f_X8_init sh 0 x0 m := rfl
def gI7 : List gS × gM := (f_X7_init [.inl 7] 0 0 (gz m00 0)).getD ([], m00)
def gI8 : List gS × gM := (f_X8_init (gI7.1 ++ [.inl 8]) 0 gI7.1.length (gz gI7.2 gI7.1.length)).getD ([], m00)
def gM0 : gM := gz gI8.2 gI8.1.length
theorem gI7_ok : f_X7_init [.inl 7] 0 0 (gz m00 0) = some gI7 := by
  have h : (f_X7_init [.inl 7] 0 0 (gz m00 0)).isSome = true := by decide +kernel
  obtain ⟨q, hq⟩ := Option.isSome_iff_exists.mp h
  unfold gI7
  rw [hq]
  rfl
theorem gI8_ok : f_X8_init (gI7.1 ++ [.inl 8]) 0 gI7.1.length (gz gI7.2 gI7.1.length) = some gI8 := by
  have h : (f_X8_init (gI7.1 ++ [.inl 8]) 0 gI7.1.length (gz gI7.2 gI7.1.length)).isSome = true := by decide +kernel
  obtain ⟨q, hq⟩ := Option.isSome_iff_exists.mp h
  unfold gI8
  rw [hq]
  rfl
theorem gI7_len : gI7.1.length = 62 := by decide +kernel
theorem gI8_len : gI8.1.length = 109 := by decide +kernel
theorem gI8_sh : gI8.1 ++ [.inr (.long, 1)] = gSH := by decide +kernel
theorem gI7_k : kB gI7.1 = true := by decide +kernel
theorem gI8_k : kB gI8.1 = true := by decide +kernel
/-- the law is its loop over the cells as the constructors leave them -/
theorem f_law_eq (F L : Nat) (xs : Nat → Int32) : f_law F L xs = l_law_23 gSH F L xs F 2000000 0 62 109 0 gM0 := by
  unfold f_law
  rw [F_X7_init, gI7_ok, Option.bind_some, gI7_k]
  unfold g_if
  rw [if_pos rfl, F_X8_init, gI8_ok, Option.bind_some, gI8_k, if_pos rfl, gI8_sh, gI7_len, gI8_len]
  unfold gM0
  rw [gI8_len]
theorem gM0_r : Rok gM0 1 3 5 25 45 50 25 5 45 := by
  have h : (rtab 1 3 5 25 45 50 25 5 45).all (fun e => decide (gM0.2.2 e.1 e.2.1 = some e.2.2)) = true := by decide +kernel
  intro e he
  exact of_decide_eq_true (List.all_eq_true.mp h e he)
theorem gM0_i : ∀ e ∈ itab0, gM0.1 e.1 e.2.1 = e.2.2 := by
  have h : itab0.all (fun e => decide (gM0.1 e.1 e.2.1 = e.2.2)) = true := by decide +kernel
  intro e he
  exact of_decide_eq_true (List.all_eq_true.mp h e he)
