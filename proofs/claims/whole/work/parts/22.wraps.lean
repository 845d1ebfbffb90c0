def g_cs {α β : Type} (o : Option α) (a : Option β) (f : α → Option β) : Option β := match o with
  | none => a
  | some x => f x
theorem mw_L_feed : gMfW yL_feed cL_feed 8 (some .int) [(0, 16, 19, 13)] 7 := ⟨g_tb 723 (by decide +kernel) (by decide +kernel), g_tb 76 (by decide +kernel) rfl, by decide +kernel, by decide +kernel, by decide +kernel, by decide +kernel, by decide⟩
def f_L_feed (sh : List gS) (F : Nat) (x0 : Nat) (x1 : Int32) (x2 : Int32) (x3 : Int32) (x4 : Int32) (x5 : Int32) (x6 : Nat) (m : gM) : Option (Int32 × gM) := g_if (oB sh x0 7) ((f_X7_feed sh F x0 x1 x2 x3 x4 x5 m).bind (fun q => g_cs q.1 (some (1, q.2)) (fun r => g_if (aB sh x6 .long 0) (some (0, gsL q.2 x6 ((0 : Int32)).toNatClampNeg r.toInt64)))))
set_option maxRecDepth 100000 in
set_option maxHeartbeats 4000000 in
theorem c_L_feed {l : Launch} {w : gW} {rr : Int32} {rm : gM} (hJ : gJok w) (hG : gJs w) (hl0 : l.stackTraces = false) (hE : gJx w) {F : Nat} {x0 : Nat} {x1 : Int32} {x2 : Int32} {x3 : Int32} {x4 : Int32} {x5 : Int32} {x6 : Nat} {m : gM} (h : f_L_feed w.2.2.2.2.1 F x0 x1 x2 x3 x4 x5 x6 m = some (rr, rm)) : gMA l 7 yL_feed cL_feed 8 (some .int) [(0, 16, 19, 13)] w [.ref x0, .int x1, .int x2, .int x3, .int x4, .int x5, .ref x6] m (some (.int rr)) rm := by
  refine gMA.of hJ mw_L_feed dk_L_feed (Nat.le_of_ble_eq_true rfl) (fun X hX C htb hR hr => ?_)
  change gV X w 0 0 (gRA X w (some (.int rr)) rm) 8 0 [(0, .ref x0), (1, .int x1), (2, .int x2), (3, .int x3), (4, .int x4), (5, .int x5), (6, .ref x6)] [] m
  unfold f_L_feed at h
  obtain ⟨o1, h⟩ := g_okk h
  obtain ⟨⟨o2, m2⟩, q2, h⟩ := g_bd h
  have hM := c_X7_feed (l := X.2.1) hJ hG (by rw [hX]; exact hl0) hE q2
  refine v_aload (pc := 0) C 0 6 rfl rfl ?_
  refine v_iconst (pc := 2) C 1 0 rfl (by decide) ?_
  refine v_aload_n (pc := 3) C 2 0 rfl rfl rfl ?_
  refine v_iload_n (pc := 4) C 3 1 rfl rfl rfl ?_
  refine v_iload_n (pc := 5) C 4 2 rfl rfl rfl ?_
  refine v_iload_n (pc := 6) C 5 3 rfl rfl rfl ?_
  refine v_iload (pc := 7) C 6 4 rfl rfl ?_
  refine v_iload (pc := 9) C 7 5 rfl rfl ?_
  cases o2 with
  | none =>
    refine v_callXn (pc := 11) (st := [.int 0, .ref x6]) (av := [.int x1, .int x2, .int x3, .int x4, .int x5]) C hE 8 rfl mf_X7_feed clX7 im_X7_feed (g_tb 725 (by decide +kernel) rfl) hM (by decide) rfl (g_oB o1) (Nat.le_of_ble_eq_true rfl) ⟨by rw [hR]; decide, by rw [hR]; decide⟩ rfl htb rfl (by decide) (g_tb 724 (by decide +kernel) rfl) (g_eb 731 (by decide +kernel) rfl) 0 (loc := 7) (Or.inl ⟨g_at C 12 rfl, rfl⟩) (by decide) (lv' := [(0, .ref x0), (1, .int x1), (2, .int x2), (3, .int x3), (4, .int x4), (5, .int x5), (6, .ref x6)]) rfl ?_
    change gV X w 1 6 (gRA X w (some (.int rr)) rm) 8 21 [(0, .ref x0), (1, .int x1), (2, .int x2), (3, .int x3), (4, .int x4), (5, .int x5), (6, .ref x6)] [] m2
    obtain ⟨rfl, rfl⟩ := g_so h
    refine v_iconst (pc := 21) C 13 1 rfl (by decide) ?_
    exact v_iretA (pc := 22) C 14 rfl hr
  | some r =>
    refine v_callXr (pc := 11) (st := [.int 0, .ref x6]) (av := [.int x1, .int x2, .int x3, .int x4, .int x5]) (r := (some (.int r))) C 8 rfl mf_X7_feed clX7 im_X7_feed (g_tb 725 (by decide +kernel) rfl) hM (by decide) rfl (g_oB o1) (Nat.le_of_ble_eq_true rfl) ⟨by rw [hR]; decide, by rw [hR]; decide⟩ rfl ?_
    change gV X w 1 6 (gRA X w (some (.int rr)) rm) 8 14 [(0, .ref x0), (1, .int x1), (2, .int x2), (3, .int x3), (4, .int x4), (5, .int x5), (6, .ref x6)] [.int r, .int 0, .ref x6] m2
    obtain ⟨b3, h⟩ := g_okk h
    obtain ⟨rfl, rfl⟩ := g_so h
    refine v_i2l (pc := 14) C 9 rfl ?_
    refine v_last' (pc := 15) C 10 rfl b3 ?_
    refine v_goto (pc := 16) C 11 23 rfl (by decide) ?_
    refine v_iconst (pc := 23) C 15 0 rfl (by decide) ?_
    exact v_iretA (pc := 24) C 16 rfl hr
theorem mw_L_end : gMfW yL_end cL_end 3 (some .int) [(0, 5, 8, 19)] 2 := ⟨g_tb 806 (by decide +kernel) (by decide +kernel), g_tb 76 (by decide +kernel) rfl, by decide +kernel, by decide +kernel, by decide +kernel, by decide +kernel, by decide⟩
def f_L_end (sh : List gS) (F : Nat) (x0 : Nat) (x1 : Int32) (m : gM) : Option (Int32 × gM) := g_if (oB sh x0 7) ((f_X7_end sh F x0 x1 m).bind (fun q => g_cs q.1 (some (1, q.2)) (fun r => some (0, q.2))))
set_option maxRecDepth 100000 in
set_option maxHeartbeats 4000000 in
theorem c_L_end {l : Launch} {w : gW} {rr : Int32} {rm : gM} (hJ : gJok w) (hG : gJs w) (hl0 : l.stackTraces = false) (hE : gJx w) {F : Nat} {x0 : Nat} {x1 : Int32} {m : gM} (h : f_L_end w.2.2.2.2.1 F x0 x1 m = some (rr, rm)) : gMA l 7 yL_end cL_end 3 (some .int) [(0, 5, 8, 19)] w [.ref x0, .int x1] m (some (.int rr)) rm := by
  refine gMA.of hJ mw_L_end dk_L_end (Nat.le_of_ble_eq_true rfl) (fun X hX C htb hR hr => ?_)
  change gV X w 0 0 (gRA X w (some (.int rr)) rm) 3 0 [(0, .ref x0), (1, .int x1)] [] m
  unfold f_L_end at h
  obtain ⟨o1, h⟩ := g_okk h
  obtain ⟨⟨o2, m2⟩, q2, h⟩ := g_bd h
  have hM := c_X7_end (l := X.2.1) hJ hG (by rw [hX]; exact hl0) hE q2
  refine v_aload_n (pc := 0) C 0 0 rfl rfl rfl ?_
  refine v_iload_n (pc := 1) C 1 1 rfl rfl rfl ?_
  cases o2 with
  | none =>
    refine v_callXn (pc := 2) (st := []) (av := [.int x1]) C hE 2 rfl mf_X7_end clX7 im_X7_end (g_tb 808 (by decide +kernel) rfl) hM (by decide) rfl (g_oB o1) (Nat.le_of_ble_eq_true rfl) ⟨by rw [hR]; decide, by rw [hR]; decide⟩ rfl htb rfl (by decide) (g_tb 807 (by decide +kernel) rfl) (g_eb 814 (by decide +kernel) rfl) 0 (loc := 2) (Or.inr ⟨2, g_at C 4 rfl, rfl, rfl⟩) (by decide) (lv' := [(0, .ref x0), (1, .int x1)]) rfl ?_
    change gV X w 1 6 (gRA X w (some (.int rr)) rm) 3 9 [(0, .ref x0), (1, .int x1)] [] m2
    obtain ⟨rfl, rfl⟩ := g_so h
    refine v_iconst (pc := 9) C 5 1 rfl (by decide) ?_
    exact v_iretA (pc := 10) C 6 rfl hr
  | some r =>
    refine v_callXr (pc := 2) (st := []) (av := [.int x1]) (r := none) C 2 rfl mf_X7_end clX7 im_X7_end (g_tb 808 (by decide +kernel) rfl) hM (by decide) rfl (g_oB o1) (Nat.le_of_ble_eq_true rfl) ⟨by rw [hR]; decide, by rw [hR]; decide⟩ rfl ?_
    change gV X w 1 6 (gRA X w (some (.int rr)) rm) 3 5 [(0, .ref x0), (1, .int x1)] [] m2
    obtain ⟨rfl, rfl⟩ := g_so h
    refine v_goto (pc := 5) C 3 11 rfl (by decide) ?_
    refine v_iconst (pc := 11) C 7 0 rfl (by decide) ?_
    exact v_iretA (pc := 12) C 8 rfl hr
theorem mw_L_count : gMfW yL_count cL_count 4 (some .int) [(0, 9, 12, 25)] 3 := ⟨g_tb 830 (by decide +kernel) (by decide +kernel), g_tb 76 (by decide +kernel) rfl, by decide +kernel, by decide +kernel, by decide +kernel, by decide +kernel, by decide⟩
def f_L_count (sh : List gS) (F : Nat) (x0 : Nat) (x1 : Int32) (x2 : Nat) (m : gM) : Option (Int32 × gM) := g_if (oB sh x0 7) ((f_X7_count sh F x0 x1 m).bind (fun q => g_cs q.1 (some (1, q.2)) (fun r => g_if (aB sh x2 .long 0) (some (0, gsL q.2 x2 ((0 : Int32)).toNatClampNeg r.toInt64)))))
set_option maxRecDepth 100000 in
set_option maxHeartbeats 4000000 in
theorem c_L_count {l : Launch} {w : gW} {rr : Int32} {rm : gM} (hJ : gJok w) (hG : gJs w) (hl0 : l.stackTraces = false) (hE : gJx w) {F : Nat} {x0 : Nat} {x1 : Int32} {x2 : Nat} {m : gM} (h : f_L_count w.2.2.2.2.1 F x0 x1 x2 m = some (rr, rm)) : gMA l 7 yL_count cL_count 4 (some .int) [(0, 9, 12, 25)] w [.ref x0, .int x1, .ref x2] m (some (.int rr)) rm := by
  refine gMA.of hJ mw_L_count dk_L_count (Nat.le_of_ble_eq_true rfl) (fun X hX C htb hR hr => ?_)
  change gV X w 0 0 (gRA X w (some (.int rr)) rm) 4 0 [(0, .ref x0), (1, .int x1), (2, .ref x2)] [] m
  unfold f_L_count at h
  obtain ⟨o1, h⟩ := g_okk h
  obtain ⟨⟨o2, m2⟩, q2, h⟩ := g_bd h
  have hM := c_X7_count (l := X.2.1) hJ hG (by rw [hX]; exact hl0) hE q2
  refine v_aload_n (pc := 0) C 0 2 rfl rfl rfl ?_
  refine v_iconst (pc := 1) C 1 0 rfl (by decide) ?_
  refine v_aload_n (pc := 2) C 2 0 rfl rfl rfl ?_
  refine v_iload_n (pc := 3) C 3 1 rfl rfl rfl ?_
  cases o2 with
  | none =>
    refine v_callXn (pc := 4) (st := [.int 0, .ref x2]) (av := [.int x1]) C hE 4 rfl mf_X7_count clX7 im_X7_count (g_tb 832 (by decide +kernel) rfl) hM (by decide) rfl (g_oB o1) (Nat.le_of_ble_eq_true rfl) ⟨by rw [hR]; decide, by rw [hR]; decide⟩ rfl htb rfl (by decide) (g_tb 831 (by decide +kernel) rfl) (g_eb 847 (by decide +kernel) rfl) 0 (loc := 3) (Or.inr ⟨3, g_at C 8 rfl, rfl, rfl⟩) (by decide) (lv' := [(0, .ref x0), (1, .int x1), (2, .ref x2)]) rfl ?_
    change gV X w 1 6 (gRA X w (some (.int rr)) rm) 4 13 [(0, .ref x0), (1, .int x1), (2, .ref x2)] [] m2
    obtain ⟨rfl, rfl⟩ := g_so h
    refine v_iconst (pc := 13) C 9 1 rfl (by decide) ?_
    exact v_iretA (pc := 14) C 10 rfl hr
  | some r =>
    refine v_callXr (pc := 4) (st := [.int 0, .ref x2]) (av := [.int x1]) (r := (some (.int r))) C 4 rfl mf_X7_count clX7 im_X7_count (g_tb 832 (by decide +kernel) rfl) hM (by decide) rfl (g_oB o1) (Nat.le_of_ble_eq_true rfl) ⟨by rw [hR]; decide, by rw [hR]; decide⟩ rfl ?_
    change gV X w 1 6 (gRA X w (some (.int rr)) rm) 4 7 [(0, .ref x0), (1, .int x1), (2, .ref x2)] [.int r, .int 0, .ref x2] m2
    obtain ⟨b3, h⟩ := g_okk h
    obtain ⟨rfl, rfl⟩ := g_so h
    refine v_i2l (pc := 7) C 5 rfl ?_
    refine v_last' (pc := 8) C 6 rfl b3 ?_
    refine v_goto (pc := 9) C 7 15 rfl (by decide) ?_
    refine v_iconst (pc := 15) C 11 0 rfl (by decide) ?_
    exact v_iretA (pc := 16) C 12 rfl hr
theorem mw_L_scope : gMfW yL_scope cL_scope 5 (some .int) [(0, 10, 13, 25)] 4 := ⟨g_tb 863 (by decide +kernel) (by decide +kernel), g_tb 76 (by decide +kernel) rfl, by decide +kernel, by decide +kernel, by decide +kernel, by decide +kernel, by decide⟩
def f_L_scope (sh : List gS) (F : Nat) (x0 : Nat) (x1 : Int32) (x2 : Int32) (x3 : Nat) (m : gM) : Option (Int32 × gM) := g_if (oB sh x0 7) ((f_X7_scope sh F x0 x1 x2 m).bind (fun q => g_cs q.1 (some (1, q.2)) (fun r => g_if (aB sh x3 .long 0) (some (0, gsL q.2 x3 ((0 : Int32)).toNatClampNeg r.toInt64)))))
set_option maxRecDepth 100000 in
set_option maxHeartbeats 4000000 in
theorem c_L_scope {l : Launch} {w : gW} {rr : Int32} {rm : gM} (hJ : gJok w) (hG : gJs w) (hl0 : l.stackTraces = false) (hE : gJx w) {F : Nat} {x0 : Nat} {x1 : Int32} {x2 : Int32} {x3 : Nat} {m : gM} (h : f_L_scope w.2.2.2.2.1 F x0 x1 x2 x3 m = some (rr, rm)) : gMA l 7 yL_scope cL_scope 5 (some .int) [(0, 10, 13, 25)] w [.ref x0, .int x1, .int x2, .ref x3] m (some (.int rr)) rm := by
  refine gMA.of hJ mw_L_scope dk_L_scope (Nat.le_of_ble_eq_true rfl) (fun X hX C htb hR hr => ?_)
  change gV X w 0 0 (gRA X w (some (.int rr)) rm) 5 0 [(0, .ref x0), (1, .int x1), (2, .int x2), (3, .ref x3)] [] m
  unfold f_L_scope at h
  obtain ⟨o1, h⟩ := g_okk h
  obtain ⟨⟨o2, m2⟩, q2, h⟩ := g_bd h
  have hM := c_X7_scope (l := X.2.1) hJ hG (by rw [hX]; exact hl0) hE q2
  refine v_aload_n (pc := 0) C 0 3 rfl rfl rfl ?_
  refine v_iconst (pc := 1) C 1 0 rfl (by decide) ?_
  refine v_aload_n (pc := 2) C 2 0 rfl rfl rfl ?_
  refine v_iload_n (pc := 3) C 3 1 rfl rfl rfl ?_
  refine v_iload_n (pc := 4) C 4 2 rfl rfl rfl ?_
  cases o2 with
  | none =>
    refine v_callXn (pc := 5) (st := [.int 0, .ref x3]) (av := [.int x1, .int x2]) C hE 5 rfl mf_X7_scope clX7 im_X7_scope (g_tb 864 (by decide +kernel) rfl) hM (by decide) rfl (g_oB o1) (Nat.le_of_ble_eq_true rfl) ⟨by rw [hR]; decide, by rw [hR]; decide⟩ rfl htb rfl (by decide) (g_tb 831 (by decide +kernel) rfl) (g_eb 847 (by decide +kernel) rfl) 0 (loc := 4) (Or.inl ⟨g_at C 9 rfl, rfl⟩) (by decide) (lv' := [(0, .ref x0), (1, .int x1), (2, .int x2), (3, .ref x3)]) rfl ?_
    change gV X w 1 6 (gRA X w (some (.int rr)) rm) 5 15 [(0, .ref x0), (1, .int x1), (2, .int x2), (3, .ref x3)] [] m2
    obtain ⟨rfl, rfl⟩ := g_so h
    refine v_iconst (pc := 15) C 10 1 rfl (by decide) ?_
    exact v_iretA (pc := 16) C 11 rfl hr
  | some r =>
    refine v_callXr (pc := 5) (st := [.int 0, .ref x3]) (av := [.int x1, .int x2]) (r := (some (.int r))) C 5 rfl mf_X7_scope clX7 im_X7_scope (g_tb 864 (by decide +kernel) rfl) hM (by decide) rfl (g_oB o1) (Nat.le_of_ble_eq_true rfl) ⟨by rw [hR]; decide, by rw [hR]; decide⟩ rfl ?_
    change gV X w 1 6 (gRA X w (some (.int rr)) rm) 5 8 [(0, .ref x0), (1, .int x1), (2, .int x2), (3, .ref x3)] [.int r, .int 0, .ref x3] m2
    obtain ⟨b3, h⟩ := g_okk h
    obtain ⟨rfl, rfl⟩ := g_so h
    refine v_i2l (pc := 8) C 6 rfl ?_
    refine v_last' (pc := 9) C 7 rfl b3 ?_
    refine v_goto (pc := 10) C 8 17 rfl (by decide) ?_
    refine v_iconst (pc := 17) C 12 0 rfl (by decide) ?_
    exact v_iretA (pc := 18) C 13 rfl hr
theorem mw_L_declaration : gMfW yL_declaration cL_declaration 5 (some .int) [(0, 10, 13, 25)] 4 := ⟨g_tb 879 (by decide +kernel) (by decide +kernel), g_tb 76 (by decide +kernel) rfl, by decide +kernel, by decide +kernel, by decide +kernel, by decide +kernel, by decide⟩
def f_L_declaration (sh : List gS) (F : Nat) (x0 : Nat) (x1 : Int32) (x2 : Int32) (x3 : Nat) (m : gM) : Option (Int32 × gM) := g_if (oB sh x0 7) ((f_X7_declaration sh F x0 x1 x2 m).bind (fun q => g_cs q.1 (some (1, q.2)) (fun r => g_if (aB sh x3 .long 0) (some (0, gsL q.2 x3 ((0 : Int32)).toNatClampNeg r.toInt64)))))
set_option maxRecDepth 100000 in
set_option maxHeartbeats 4000000 in
theorem c_L_declaration {l : Launch} {w : gW} {rr : Int32} {rm : gM} (hJ : gJok w) (hG : gJs w) (hl0 : l.stackTraces = false) (hE : gJx w) {F : Nat} {x0 : Nat} {x1 : Int32} {x2 : Int32} {x3 : Nat} {m : gM} (h : f_L_declaration w.2.2.2.2.1 F x0 x1 x2 x3 m = some (rr, rm)) : gMA l 7 yL_declaration cL_declaration 5 (some .int) [(0, 10, 13, 25)] w [.ref x0, .int x1, .int x2, .ref x3] m (some (.int rr)) rm := by
  refine gMA.of hJ mw_L_declaration dk_L_declaration (Nat.le_of_ble_eq_true rfl) (fun X hX C htb hR hr => ?_)
  change gV X w 0 0 (gRA X w (some (.int rr)) rm) 5 0 [(0, .ref x0), (1, .int x1), (2, .int x2), (3, .ref x3)] [] m
  unfold f_L_declaration at h
  obtain ⟨o1, h⟩ := g_okk h
  obtain ⟨⟨o2, m2⟩, q2, h⟩ := g_bd h
  have hM := c_X7_declaration (l := X.2.1) hJ hG (by rw [hX]; exact hl0) hE q2
  refine v_aload_n (pc := 0) C 0 3 rfl rfl rfl ?_
  refine v_iconst (pc := 1) C 1 0 rfl (by decide) ?_
  refine v_aload_n (pc := 2) C 2 0 rfl rfl rfl ?_
  refine v_iload_n (pc := 3) C 3 1 rfl rfl rfl ?_
  refine v_iload_n (pc := 4) C 4 2 rfl rfl rfl ?_
  cases o2 with
  | none =>
    refine v_callXn (pc := 5) (st := [.int 0, .ref x3]) (av := [.int x1, .int x2]) C hE 5 rfl mf_X7_declaration clX7 im_X7_declaration (g_tb 880 (by decide +kernel) rfl) hM (by decide) rfl (g_oB o1) (Nat.le_of_ble_eq_true rfl) ⟨by rw [hR]; decide, by rw [hR]; decide⟩ rfl htb rfl (by decide) (g_tb 831 (by decide +kernel) rfl) (g_eb 847 (by decide +kernel) rfl) 0 (loc := 4) (Or.inl ⟨g_at C 9 rfl, rfl⟩) (by decide) (lv' := [(0, .ref x0), (1, .int x1), (2, .int x2), (3, .ref x3)]) rfl ?_
    change gV X w 1 6 (gRA X w (some (.int rr)) rm) 5 15 [(0, .ref x0), (1, .int x1), (2, .int x2), (3, .ref x3)] [] m2
    obtain ⟨rfl, rfl⟩ := g_so h
    refine v_iconst (pc := 15) C 10 1 rfl (by decide) ?_
    exact v_iretA (pc := 16) C 11 rfl hr
  | some r =>
    refine v_callXr (pc := 5) (st := [.int 0, .ref x3]) (av := [.int x1, .int x2]) (r := (some (.int r))) C 5 rfl mf_X7_declaration clX7 im_X7_declaration (g_tb 880 (by decide +kernel) rfl) hM (by decide) rfl (g_oB o1) (Nat.le_of_ble_eq_true rfl) ⟨by rw [hR]; decide, by rw [hR]; decide⟩ rfl ?_
    change gV X w 1 6 (gRA X w (some (.int rr)) rm) 5 8 [(0, .ref x0), (1, .int x1), (2, .int x2), (3, .ref x3)] [.int r, .int 0, .ref x3] m2
    obtain ⟨b3, h⟩ := g_okk h
    obtain ⟨rfl, rfl⟩ := g_so h
    refine v_i2l (pc := 8) C 6 rfl ?_
    refine v_last' (pc := 9) C 7 rfl b3 ?_
    refine v_goto (pc := 10) C 8 17 rfl (by decide) ?_
    refine v_iconst (pc := 17) C 12 0 rfl (by decide) ?_
    exact v_iretA (pc := 18) C 13 rfl hr
theorem mw_L_reference : gMfW yL_reference cL_reference 5 (some .int) [(0, 10, 13, 25)] 4 := ⟨g_tb 899 (by decide +kernel) (by decide +kernel), g_tb 76 (by decide +kernel) rfl, by decide +kernel, by decide +kernel, by decide +kernel, by decide +kernel, by decide⟩
def f_L_reference (sh : List gS) (F : Nat) (x0 : Nat) (x1 : Int32) (x2 : Int32) (x3 : Nat) (m : gM) : Option (Int32 × gM) := g_if (oB sh x0 7) ((f_X7_reference sh F x0 x1 x2 m).bind (fun q => g_cs q.1 (some (1, q.2)) (fun r => g_if (aB sh x3 .long 0) (some (0, gsL q.2 x3 ((0 : Int32)).toNatClampNeg r.toInt64)))))
set_option maxRecDepth 100000 in
set_option maxHeartbeats 4000000 in
theorem c_L_reference {l : Launch} {w : gW} {rr : Int32} {rm : gM} (hJ : gJok w) (hG : gJs w) (hl0 : l.stackTraces = false) (hE : gJx w) {F : Nat} {x0 : Nat} {x1 : Int32} {x2 : Int32} {x3 : Nat} {m : gM} (h : f_L_reference w.2.2.2.2.1 F x0 x1 x2 x3 m = some (rr, rm)) : gMA l 7 yL_reference cL_reference 5 (some .int) [(0, 10, 13, 25)] w [.ref x0, .int x1, .int x2, .ref x3] m (some (.int rr)) rm := by
  refine gMA.of hJ mw_L_reference dk_L_reference (Nat.le_of_ble_eq_true rfl) (fun X hX C htb hR hr => ?_)
  change gV X w 0 0 (gRA X w (some (.int rr)) rm) 5 0 [(0, .ref x0), (1, .int x1), (2, .int x2), (3, .ref x3)] [] m
  unfold f_L_reference at h
  obtain ⟨o1, h⟩ := g_okk h
  obtain ⟨⟨o2, m2⟩, q2, h⟩ := g_bd h
  have hM := c_X7_reference (l := X.2.1) hJ hG (by rw [hX]; exact hl0) hE q2
  refine v_aload_n (pc := 0) C 0 3 rfl rfl rfl ?_
  refine v_iconst (pc := 1) C 1 0 rfl (by decide) ?_
  refine v_aload_n (pc := 2) C 2 0 rfl rfl rfl ?_
  refine v_iload_n (pc := 3) C 3 1 rfl rfl rfl ?_
  refine v_iload_n (pc := 4) C 4 2 rfl rfl rfl ?_
  cases o2 with
  | none =>
    refine v_callXn (pc := 5) (st := [.int 0, .ref x3]) (av := [.int x1, .int x2]) C hE 5 rfl mf_X7_reference clX7 im_X7_reference (g_tb 900 (by decide +kernel) rfl) hM (by decide) rfl (g_oB o1) (Nat.le_of_ble_eq_true rfl) ⟨by rw [hR]; decide, by rw [hR]; decide⟩ rfl htb rfl (by decide) (g_tb 831 (by decide +kernel) rfl) (g_eb 847 (by decide +kernel) rfl) 0 (loc := 4) (Or.inl ⟨g_at C 9 rfl, rfl⟩) (by decide) (lv' := [(0, .ref x0), (1, .int x1), (2, .int x2), (3, .ref x3)]) rfl ?_
    change gV X w 1 6 (gRA X w (some (.int rr)) rm) 5 15 [(0, .ref x0), (1, .int x1), (2, .int x2), (3, .ref x3)] [] m2
    obtain ⟨rfl, rfl⟩ := g_so h
    refine v_iconst (pc := 15) C 10 1 rfl (by decide) ?_
    exact v_iretA (pc := 16) C 11 rfl hr
  | some r =>
    refine v_callXr (pc := 5) (st := [.int 0, .ref x3]) (av := [.int x1, .int x2]) (r := (some (.int r))) C 5 rfl mf_X7_reference clX7 im_X7_reference (g_tb 900 (by decide +kernel) rfl) hM (by decide) rfl (g_oB o1) (Nat.le_of_ble_eq_true rfl) ⟨by rw [hR]; decide, by rw [hR]; decide⟩ rfl ?_
    change gV X w 1 6 (gRA X w (some (.int rr)) rm) 5 8 [(0, .ref x0), (1, .int x1), (2, .int x2), (3, .ref x3)] [.int r, .int 0, .ref x3] m2
    obtain ⟨b3, h⟩ := g_okk h
    obtain ⟨rfl, rfl⟩ := g_so h
    refine v_i2l (pc := 8) C 6 rfl ?_
    refine v_last' (pc := 9) C 7 rfl b3 ?_
    refine v_goto (pc := 10) C 8 17 rfl (by decide) ?_
    refine v_iconst (pc := 17) C 12 0 rfl (by decide) ?_
    exact v_iretA (pc := 18) C 13 rfl hr
theorem mw_L_meant : gMfW yL_meant cL_meant 5 (some .int) [(0, 10, 13, 25)] 4 := ⟨g_tb 907 (by decide +kernel) (by decide +kernel), g_tb 76 (by decide +kernel) rfl, by decide +kernel, by decide +kernel, by decide +kernel, by decide +kernel, by decide⟩
def f_L_meant (sh : List gS) (F : Nat) (x0 : Nat) (x1 : Int32) (x2 : Int32) (x3 : Nat) (m : gM) : Option (Int32 × gM) := g_if (oB sh x0 7) ((f_X7_meant sh F x0 x1 x2 m).bind (fun q => g_cs q.1 (some (1, q.2)) (fun r => g_if (aB sh x3 .long 0) (some (0, gsL q.2 x3 ((0 : Int32)).toNatClampNeg r.toInt64)))))
set_option maxRecDepth 100000 in
set_option maxHeartbeats 4000000 in
theorem c_L_meant {l : Launch} {w : gW} {rr : Int32} {rm : gM} (hJ : gJok w) (hG : gJs w) (hl0 : l.stackTraces = false) (hE : gJx w) {F : Nat} {x0 : Nat} {x1 : Int32} {x2 : Int32} {x3 : Nat} {m : gM} (h : f_L_meant w.2.2.2.2.1 F x0 x1 x2 x3 m = some (rr, rm)) : gMA l 7 yL_meant cL_meant 5 (some .int) [(0, 10, 13, 25)] w [.ref x0, .int x1, .int x2, .ref x3] m (some (.int rr)) rm := by
  refine gMA.of hJ mw_L_meant dk_L_meant (Nat.le_of_ble_eq_true rfl) (fun X hX C htb hR hr => ?_)
  change gV X w 0 0 (gRA X w (some (.int rr)) rm) 5 0 [(0, .ref x0), (1, .int x1), (2, .int x2), (3, .ref x3)] [] m
  unfold f_L_meant at h
  obtain ⟨o1, h⟩ := g_okk h
  obtain ⟨⟨o2, m2⟩, q2, h⟩ := g_bd h
  have hM := c_X7_meant (l := X.2.1) hJ hG (by rw [hX]; exact hl0) hE q2
  refine v_aload_n (pc := 0) C 0 3 rfl rfl rfl ?_
  refine v_iconst (pc := 1) C 1 0 rfl (by decide) ?_
  refine v_aload_n (pc := 2) C 2 0 rfl rfl rfl ?_
  refine v_iload_n (pc := 3) C 3 1 rfl rfl rfl ?_
  refine v_iload_n (pc := 4) C 4 2 rfl rfl rfl ?_
  cases o2 with
  | none =>
    refine v_callXn (pc := 5) (st := [.int 0, .ref x3]) (av := [.int x1, .int x2]) C hE 5 rfl mf_X7_meant clX7 im_X7_meant (g_tb 908 (by decide +kernel) rfl) hM (by decide) rfl (g_oB o1) (Nat.le_of_ble_eq_true rfl) ⟨by rw [hR]; decide, by rw [hR]; decide⟩ rfl htb rfl (by decide) (g_tb 831 (by decide +kernel) rfl) (g_eb 847 (by decide +kernel) rfl) 0 (loc := 4) (Or.inl ⟨g_at C 9 rfl, rfl⟩) (by decide) (lv' := [(0, .ref x0), (1, .int x1), (2, .int x2), (3, .ref x3)]) rfl ?_
    change gV X w 1 6 (gRA X w (some (.int rr)) rm) 5 15 [(0, .ref x0), (1, .int x1), (2, .int x2), (3, .ref x3)] [] m2
    obtain ⟨rfl, rfl⟩ := g_so h
    refine v_iconst (pc := 15) C 10 1 rfl (by decide) ?_
    exact v_iretA (pc := 16) C 11 rfl hr
  | some r =>
    refine v_callXr (pc := 5) (st := [.int 0, .ref x3]) (av := [.int x1, .int x2]) (r := (some (.int r))) C 5 rfl mf_X7_meant clX7 im_X7_meant (g_tb 908 (by decide +kernel) rfl) hM (by decide) rfl (g_oB o1) (Nat.le_of_ble_eq_true rfl) ⟨by rw [hR]; decide, by rw [hR]; decide⟩ rfl ?_
    change gV X w 1 6 (gRA X w (some (.int rr)) rm) 5 8 [(0, .ref x0), (1, .int x1), (2, .int x2), (3, .ref x3)] [.int r, .int 0, .ref x3] m2
    obtain ⟨b3, h⟩ := g_okk h
    obtain ⟨rfl, rfl⟩ := g_so h
    refine v_i2l (pc := 8) C 6 rfl ?_
    refine v_last' (pc := 9) C 7 rfl b3 ?_
    refine v_goto (pc := 10) C 8 17 rfl (by decide) ?_
    refine v_iconst (pc := 17) C 12 0 rfl (by decide) ?_
    exact v_iretA (pc := 18) C 13 rfl hr
theorem mw_L_friends : gMfW yL_friends cL_friends 5 (some .int) [(0, 17, 20, 25)] 4 := ⟨g_tb 916 (by decide +kernel) (by decide +kernel), g_tb 76 (by decide +kernel) rfl, by decide +kernel, by decide +kernel, by decide +kernel, by decide +kernel, by decide⟩
def f_L_friends (sh : List gS) (F : Nat) (x0 : Nat) (x1 : Int32) (x2 : Int32) (x3 : Nat) (m : gM) : Option (Int32 × gM) := g_if (oB sh x0 7) ((f_X7_friends sh F x0 x1 x2 m).bind (fun q => g_cs q.1 (some (1, q.2)) (fun r => g_if (aB sh x3 .long 0) (some (0, gsL q.2 x3 ((0 : Int32)).toNatClampNeg (if r = 0 then 0 else 1))))))
set_option maxRecDepth 100000 in
set_option maxHeartbeats 4000000 in
theorem c_L_friends {l : Launch} {w : gW} {rr : Int32} {rm : gM} (hJ : gJok w) (hG : gJs w) (hl0 : l.stackTraces = false) (hE : gJx w) {F : Nat} {x0 : Nat} {x1 : Int32} {x2 : Int32} {x3 : Nat} {m : gM} (h : f_L_friends w.2.2.2.2.1 F x0 x1 x2 x3 m = some (rr, rm)) : gMA l 7 yL_friends cL_friends 5 (some .int) [(0, 17, 20, 25)] w [.ref x0, .int x1, .int x2, .ref x3] m (some (.int rr)) rm := by
  refine gMA.of hJ mw_L_friends dk_L_friends (Nat.le_of_ble_eq_true rfl) (fun X hX C htb hR hr => ?_)
  change gV X w 0 0 (gRA X w (some (.int rr)) rm) 5 0 [(0, .ref x0), (1, .int x1), (2, .int x2), (3, .ref x3)] [] m
  unfold f_L_friends at h
  obtain ⟨o1, h⟩ := g_okk h
  obtain ⟨⟨o2, m2⟩, q2, h⟩ := g_bd h
  have hM := c_X7_friends (l := X.2.1) hJ hG (by rw [hX]; exact hl0) hE q2
  refine v_aload_n (pc := 0) C 0 3 rfl rfl rfl ?_
  refine v_iconst (pc := 1) C 1 0 rfl (by decide) ?_
  refine v_aload_n (pc := 2) C 2 0 rfl rfl rfl ?_
  refine v_iload_n (pc := 3) C 3 1 rfl rfl rfl ?_
  refine v_iload_n (pc := 4) C 4 2 rfl rfl rfl ?_
  cases o2 with
  | none =>
    refine v_callXn (pc := 5) (st := [.int 0, .ref x3]) (av := [.int x1, .int x2]) C hE 5 rfl mf_X7_friends clX7 im_X7_friends (g_tb 917 (by decide +kernel) rfl) hM (by decide) rfl (g_oB o1) (Nat.le_of_ble_eq_true rfl) ⟨by rw [hR]; decide, by rw [hR]; decide⟩ rfl htb rfl (by decide) (g_tb 831 (by decide +kernel) rfl) (g_eb 847 (by decide +kernel) rfl) 0 (loc := 4) (Or.inl ⟨g_at C 12 rfl, rfl⟩) (by decide) (lv' := [(0, .ref x0), (1, .int x1), (2, .int x2), (3, .ref x3)]) rfl ?_
    change gV X w 1 6 (gRA X w (some (.int rr)) rm) 5 22 [(0, .ref x0), (1, .int x1), (2, .int x2), (3, .ref x3)] [] m2
    obtain ⟨rfl, rfl⟩ := g_so h
    refine v_iconst (pc := 22) C 13 1 rfl (by decide) ?_
    exact v_iretA (pc := 23) C 14 rfl hr
  | some r =>
    refine v_callXr (pc := 5) (st := [.int 0, .ref x3]) (av := [.int x1, .int x2]) (r := (some (.int r))) C 5 rfl mf_X7_friends clX7 im_X7_friends (g_tb 917 (by decide +kernel) rfl) hM (by decide) rfl (g_oB o1) (Nat.le_of_ble_eq_true rfl) ⟨by rw [hR]; decide, by rw [hR]; decide⟩ rfl ?_
    change gV X w 1 6 (gRA X w (some (.int rr)) rm) 5 8 [(0, .ref x0), (1, .int x1), (2, .int x2), (3, .ref x3)] [.int r, .int 0, .ref x3] m2
    obtain ⟨b3, h⟩ := g_okk h
    obtain ⟨rfl, rfl⟩ := g_so h
    refine v_if_eq (pc := 8) C 6 15 rfl (by decide) (fun c1 => ?_) (fun c1 => ?_)
    · rw [if_pos c1]
      refine v_lconst (pc := 15) C 9 0 rfl (by decide) ?_
      refine v_last' (pc := 16) C 10 rfl b3 ?_
      refine v_goto (pc := 17) C 11 24 rfl (by decide) ?_
      refine v_iconst (pc := 24) C 15 0 rfl (by decide) ?_
      exact v_iretA (pc := 25) C 16 rfl hr
    · rw [if_neg c1]
      refine v_lconst (pc := 11) C 7 1 rfl (by decide) ?_
      refine v_goto (pc := 12) C 8 16 rfl (by decide) ?_
      refine v_last' (pc := 16) C 10 rfl b3 ?_
      refine v_goto (pc := 17) C 11 24 rfl (by decide) ?_
      refine v_iconst (pc := 24) C 15 0 rfl (by decide) ?_
      exact v_iretA (pc := 25) C 16 rfl hr
theorem mw_L_rename : gMfW yL_rename cL_rename 4 (some .int) [(0, 9, 12, 25)] 3 := ⟨g_tb 923 (by decide +kernel) (by decide +kernel), g_tb 76 (by decide +kernel) rfl, by decide +kernel, by decide +kernel, by decide +kernel, by decide +kernel, by decide⟩
def f_L_rename (sh : List gS) (F : Nat) (x0 : Nat) (x1 : Int32) (x2 : Nat) (m : gM) : Option (Int32 × gM) := g_if (oB sh x0 7) ((f_X7_rename sh F x0 x1 m).bind (fun q => g_cs q.1 (some (1, q.2)) (fun r => g_if (aB sh x2 .long 0) (some (0, gsL q.2 x2 ((0 : Int32)).toNatClampNeg r.toInt64)))))
set_option maxRecDepth 100000 in
set_option maxHeartbeats 4000000 in
theorem c_L_rename {l : Launch} {w : gW} {rr : Int32} {rm : gM} (hJ : gJok w) (hG : gJs w) (hl0 : l.stackTraces = false) (hE : gJx w) {F : Nat} {x0 : Nat} {x1 : Int32} {x2 : Nat} {m : gM} (h : f_L_rename w.2.2.2.2.1 F x0 x1 x2 m = some (rr, rm)) : gMA l 10 yL_rename cL_rename 4 (some .int) [(0, 9, 12, 25)] w [.ref x0, .int x1, .ref x2] m (some (.int rr)) rm := by
  refine gMA.of hJ mw_L_rename dk_L_rename (Nat.le_of_ble_eq_true rfl) (fun X hX C htb hR hr => ?_)
  change gV X w 0 0 (gRA X w (some (.int rr)) rm) 4 0 [(0, .ref x0), (1, .int x1), (2, .ref x2)] [] m
  unfold f_L_rename at h
  obtain ⟨o1, h⟩ := g_okk h
  obtain ⟨⟨o2, m2⟩, q2, h⟩ := g_bd h
  have hM := c_X7_rename (l := X.2.1) hJ hG (by rw [hX]; exact hl0) hE q2
  refine v_aload_n (pc := 0) C 0 2 rfl rfl rfl ?_
  refine v_iconst (pc := 1) C 1 0 rfl (by decide) ?_
  refine v_aload_n (pc := 2) C 2 0 rfl rfl rfl ?_
  refine v_iload_n (pc := 3) C 3 1 rfl rfl rfl ?_
  cases o2 with
  | none =>
    refine v_callXn (pc := 4) (st := [.int 0, .ref x2]) (av := [.int x1]) C hE 4 rfl mf_X7_rename clX7 im_X7_rename (g_tb 924 (by decide +kernel) rfl) hM (by decide) rfl (g_oB o1) (Nat.le_of_ble_eq_true rfl) ⟨by rw [hR]; decide, by rw [hR]; decide⟩ rfl htb rfl (by decide) (g_tb 831 (by decide +kernel) rfl) (g_eb 847 (by decide +kernel) rfl) 0 (loc := 3) (Or.inr ⟨3, g_at C 8 rfl, rfl, rfl⟩) (by decide) (lv' := [(0, .ref x0), (1, .int x1), (2, .ref x2)]) rfl ?_
    change gV X w 1 6 (gRA X w (some (.int rr)) rm) 4 13 [(0, .ref x0), (1, .int x1), (2, .ref x2)] [] m2
    obtain ⟨rfl, rfl⟩ := g_so h
    refine v_iconst (pc := 13) C 9 1 rfl (by decide) ?_
    exact v_iretA (pc := 14) C 10 rfl hr
  | some r =>
    refine v_callXr (pc := 4) (st := [.int 0, .ref x2]) (av := [.int x1]) (r := (some (.int r))) C 4 rfl mf_X7_rename clX7 im_X7_rename (g_tb 924 (by decide +kernel) rfl) hM (by decide) rfl (g_oB o1) (Nat.le_of_ble_eq_true rfl) ⟨by rw [hR]; decide, by rw [hR]; decide⟩ rfl ?_
    change gV X w 1 6 (gRA X w (some (.int rr)) rm) 4 7 [(0, .ref x0), (1, .int x1), (2, .ref x2)] [.int r, .int 0, .ref x2] m2
    obtain ⟨b3, h⟩ := g_okk h
    obtain ⟨rfl, rfl⟩ := g_so h
    refine v_i2l (pc := 7) C 5 rfl ?_
    refine v_last' (pc := 8) C 6 rfl b3 ?_
    refine v_goto (pc := 9) C 7 15 rfl (by decide) ?_
    refine v_iconst (pc := 15) C 11 0 rfl (by decide) ?_
    exact v_iretA (pc := 16) C 12 rfl hr
theorem mw_L_letter : gMfW yL_letter cL_letter 4 (some .int) [(0, 9, 12, 25)] 3 := ⟨g_tb 974 (by decide +kernel) (by decide +kernel), g_tb 76 (by decide +kernel) rfl, by decide +kernel, by decide +kernel, by decide +kernel, by decide +kernel, by decide⟩
def f_L_letter (sh : List gS) (F : Nat) (x0 : Nat) (x1 : Int32) (x2 : Nat) (m : gM) : Option (Int32 × gM) := g_if (oB sh x0 7) ((f_X7_letter sh F x0 x1 m).bind (fun q => g_cs q.1 (some (1, q.2)) (fun r => g_if (aB sh x2 .long 0) (some (0, gsL q.2 x2 ((0 : Int32)).toNatClampNeg r.toInt64)))))
set_option maxRecDepth 100000 in
set_option maxHeartbeats 4000000 in
theorem c_L_letter {l : Launch} {w : gW} {rr : Int32} {rm : gM} (hJ : gJok w) (hG : gJs w) (hl0 : l.stackTraces = false) (hE : gJx w) {F : Nat} {x0 : Nat} {x1 : Int32} {x2 : Nat} {m : gM} (h : f_L_letter w.2.2.2.2.1 F x0 x1 x2 m = some (rr, rm)) : gMA l 7 yL_letter cL_letter 4 (some .int) [(0, 9, 12, 25)] w [.ref x0, .int x1, .ref x2] m (some (.int rr)) rm := by
  refine gMA.of hJ mw_L_letter dk_L_letter (Nat.le_of_ble_eq_true rfl) (fun X hX C htb hR hr => ?_)
  change gV X w 0 0 (gRA X w (some (.int rr)) rm) 4 0 [(0, .ref x0), (1, .int x1), (2, .ref x2)] [] m
  unfold f_L_letter at h
  obtain ⟨o1, h⟩ := g_okk h
  obtain ⟨⟨o2, m2⟩, q2, h⟩ := g_bd h
  have hM := c_X7_letter (l := X.2.1) hJ hG (by rw [hX]; exact hl0) hE q2
  refine v_aload_n (pc := 0) C 0 2 rfl rfl rfl ?_
  refine v_iconst (pc := 1) C 1 0 rfl (by decide) ?_
  refine v_aload_n (pc := 2) C 2 0 rfl rfl rfl ?_
  refine v_iload_n (pc := 3) C 3 1 rfl rfl rfl ?_
  cases o2 with
  | none =>
    refine v_callXn (pc := 4) (st := [.int 0, .ref x2]) (av := [.int x1]) C hE 4 rfl mf_X7_letter clX7 im_X7_letter (g_tb 975 (by decide +kernel) rfl) hM (by decide) rfl (g_oB o1) (Nat.le_of_ble_eq_true rfl) ⟨by rw [hR]; decide, by rw [hR]; decide⟩ rfl htb rfl (by decide) (g_tb 831 (by decide +kernel) rfl) (g_eb 847 (by decide +kernel) rfl) 0 (loc := 3) (Or.inr ⟨3, g_at C 8 rfl, rfl, rfl⟩) (by decide) (lv' := [(0, .ref x0), (1, .int x1), (2, .ref x2)]) rfl ?_
    change gV X w 1 6 (gRA X w (some (.int rr)) rm) 4 13 [(0, .ref x0), (1, .int x1), (2, .ref x2)] [] m2
    obtain ⟨rfl, rfl⟩ := g_so h
    refine v_iconst (pc := 13) C 9 1 rfl (by decide) ?_
    exact v_iretA (pc := 14) C 10 rfl hr
  | some r =>
    refine v_callXr (pc := 4) (st := [.int 0, .ref x2]) (av := [.int x1]) (r := (some (.int r))) C 4 rfl mf_X7_letter clX7 im_X7_letter (g_tb 975 (by decide +kernel) rfl) hM (by decide) rfl (g_oB o1) (Nat.le_of_ble_eq_true rfl) ⟨by rw [hR]; decide, by rw [hR]; decide⟩ rfl ?_
    change gV X w 1 6 (gRA X w (some (.int rr)) rm) 4 7 [(0, .ref x0), (1, .int x1), (2, .ref x2)] [.int r, .int 0, .ref x2] m2
    obtain ⟨b3, h⟩ := g_okk h
    obtain ⟨rfl, rfl⟩ := g_so h
    refine v_i2l (pc := 7) C 5 rfl ?_
    refine v_last' (pc := 8) C 6 rfl b3 ?_
    refine v_goto (pc := 9) C 7 15 rfl (by decide) ?_
    refine v_iconst (pc := 15) C 11 0 rfl (by decide) ?_
    exact v_iretA (pc := 16) C 12 rfl hr
