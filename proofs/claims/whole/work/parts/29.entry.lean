/-! FROM THE LAW'S ENTRY TO ITS LOOP: the claim follows from one equation over the flat memory -/
def m00 : gM := (fun _ _ => 0, fun _ _ => 0, fun _ _ => none)
def f_law (F L : Nat) (xs : Nat → Int32) : Option Unit :=
  (f_X7_init [.inl 7] F 0 (gz m00 0)).bind (fun q => g_if (kB q.1) ((f_X8_init (q.1 ++ [.inl 8]) F q.1.length (gz q.2 q.1.length)).bind (fun r => g_if (kB r.1) (l_law_23 (r.1 ++ [.inr (.long, 1)]) F L xs F 2000000 0 q.1.length r.1.length 0 (gz r.2 r.1.length)))))
theorem gLv_big {n t i : Nat} {lv : List (Nat × Value)} (h : 1000000 ≤ t) (hs : gLv n lv) : gLv n ((i, .ref t) :: lv) := by
  intro v hv u hu
  rcases List.mem_cons.mp hv with rfl | hv
  · cases hu
    exact Or.inr h
  · exact hs v hv u hu
theorem gWf_00 : gWf [] m00 := fun k j t h => by cases h
set_option maxRecDepth 100000 in
set_option maxHeartbeats 4000000 in
theorem law_start {p : Program} {e : Env} {s : State} {m : MethodId} {below : List Frame} {meth : Method} {c : Code} (l : Launch) (hl0 : l.stackTraces = false) {b L : Nat} {xs : Nat → Int32} (C0 : lw_At p s m meth c b L xs) {F : Nat} (h : f_law F L xs = some ()) :
    W p l e room_1 s m #[Value.ref b] below meth c s.heap [] 0 0 (lw_Z below #[Value.ref b] s) (entryFrame m ([Value.ref b] : List Value).toArray 7) := by
  obtain ⟨hx, hb, hr, hml, hown, hts, hX, hbl, hlocks, hgv⟩ := id C0
  obtain ⟨w, hsh, hn0, hadb, hK, hJ, hJok, hG, hE⟩ := g_world hts hgv hbl
  have C : gC (p, l, e, room_1, s, m, #[Value.ref b], below, meth, c) w K_L_law 7 RL 14 := ⟨hx, by rw [hb]; exact dk_L_law, hml, hown, fun q hq => hts q (List.mem_filter.mp hq).1, fun q hq => va_Nw.of (g_nest hq) (hts q (List.mem_filter.mp hq).1), hK, hlocks, Nat.le_of_ble_eq_true rfl, Nat.le_of_ble_eq_true rfl, hJ, hJok⟩
  have hA : w.2.2.2.1 ≤ s.heap.size := by rw [hn0]; exact Nat.le_refl _
  have hc : gSc (p, l, e, room_1, s, m, #[Value.ref b], below, meth, c) w L xs := by
    refine ⟨by rw [hadb]; exact hX, by rw [hadb]; exact hbl, ?_⟩
    rw [hadb]
    show ¬ w.2.2.2.1 ≤ b
    rw [hn0]
    exact Nat.not_le.mpr hbl
  have key : gV (p, l, e, room_1, s, m, #[Value.ref b], below, meth, c) w 0 0 (lw_Z below #[Value.ref b] s) 7 0 [(0, .ref 2000000)] [] m00 := by
    unfold f_law at h
    obtain ⟨⟨sa, ma⟩, qa, h⟩ := g_bd h
    obtain ⟨ka, h⟩ := g_okk h
    obtain ⟨⟨sb, mb⟩, qb, h⟩ := g_bd h
    obtain ⟨kb, h⟩ := g_okk h
    have wf0 : gWf w.2.2.2.2.1 m00 := by rw [hsh]; exact gWf_00
    have k0 : w.2.2.2.2.1.length < 1000000 := by rw [hsh]; decide
    refine v_new (pc := 0) C 0 rfl clX7 ⟨g_tb 99 (by decide +kernel) rfl, g_tb 100 (by decide +kernel) rfl, g_tb 77 (by decide +kernel) rfl⟩ (by decide) wf0 (gLv_big (by omega) gLv_nil) gLs_nil k0 hA ⟨Nat.le_of_ble_eq_true rfl, Nat.le_of_ble_eq_true rfl⟩ (fun w1 x1 s1 => ?_)
    have wf1 : gWf w1.2.2.2.2.1 (gz m00 w.2.2.2.2.1.length) := by rw [s1]; exact wf0.z _
    rw [hsh] at s1 wf1 ⊢
    have C1 := C.ext x1
    refine v_dup (pc := 3) C1 1 rfl rfl ?_
    have qa1 : f_X7_init w1.2.2.2.2.1 F 0 (gz m00 0) = some (sa, ma) := by rw [s1]; exact qa
    refine v_callI (pc := 4) (st := [.ref 0]) (av := []) C1 2 rfl mf_X7_init rfl (g_tb 102 (by decide +kernel) rfl) lm_ScopeGraphLaw_50 (c_X7_init C1.2.2.2.2.2.2.2.2.2.2.2 wf1 qa1) (by decide) rfl (gLv_big (by omega) gLv_nil) (gLs_ref (by rw [s1]; decide) gLs_nil) (Nat.le_of_ble_eq_true rfl) ⟨Nat.le_of_ble_eq_true rfl, Nat.le_of_ble_eq_true rfl⟩ rfl (fun w2 x2 s2 wf2 => ?_)
    have C2 := C1.ext x2
    have l2 := x2.le
    have l1 : w1.2.2.2.2.1.length = 1 := by rw [s1]; rfl
    have e2 : w2.2.2.2.2.1.length = sa.length := by rw [s2]
    refine v_astore_n (pc := 7) (lv' := [(1, .ref 0), (0, .ref 2000000)]) C2 3 rfl rfl (by decide) rfl ?_
    refine v_new (pc := 8) C2 4 rfl clX8 ⟨g_tb 980 (by decide +kernel) rfl, g_tb 981 (by decide +kernel) rfl, g_tb 85 (by decide +kernel) rfl⟩ (by decide) wf2 (gLv_ref (by omega) (gLv_big (by omega) gLv_nil)) gLs_nil (by rw [e2]; exact g_kB ka) (x2.n0 (x1.n0 hA)) ⟨Nat.le_of_ble_eq_true rfl, Nat.le_of_ble_eq_true rfl⟩ (fun w3 x3 s3 => ?_)
    have wf3 : gWf w3.2.2.2.2.1 (gz ma w2.2.2.2.2.1.length) := by rw [s3]; exact wf2.z _
    have l3 := g_ln s3
    rw [s2] at s3 wf3 ⊢
    have C3 := C2.ext x3
    refine v_dup (pc := 11) C3 5 rfl rfl ?_
    have qb1 : f_X8_init w3.2.2.2.2.1 F sa.length (gz ma sa.length) = some (sb, mb) := by rw [s3]; exact qb
    refine v_callI (pc := 12) (st := [.ref sa.length]) (av := []) C3 6 rfl mf_X8_init rfl (g_tb 983 (by decide +kernel) rfl) lm_ScopeGraphLaw_53 (c_X8_init C3.2.2.2.2.2.2.2.2.2.2.2 wf3 qb1) (by decide) rfl (gLv_ref (by omega) (gLv_big (by omega) gLv_nil)) (gLs_ref (by omega) gLs_nil) (Nat.le_of_ble_eq_true rfl) ⟨Nat.le_of_ble_eq_true rfl, Nat.le_of_ble_eq_true rfl⟩ rfl (fun w4 x4 s4 wf4 => ?_)
    have C4 := C3.ext x4
    have l4 := x4.le
    have e4 : w4.2.2.2.2.1.length = sb.length := by rw [s4]
    refine v_astore_n (pc := 15) (lv' := [(2, .ref sa.length), (1, .ref 0), (0, .ref 2000000)]) C4 7 rfl rfl (by decide) rfl ?_
    refine v_iconst (pc := 16) C4 8 1 rfl (by decide) ?_
    refine v_newa (pc := 17) C4 9 1 rfl rfl (Or.inr (Or.inl rfl)) (g_tb 163 (by decide +kernel) rfl) (by decide) (by decide) (by decide) wf4 (gLv_ref (by omega) (gLv_ref (by omega) (gLv_big (by omega) gLv_nil))) gLs_nil (by rw [e4]; exact g_kB kb) (x4.n0 (x3.n0 (x2.n0 (x1.n0 hA)))) ⟨Nat.le_of_ble_eq_true rfl, Nat.le_of_ble_eq_true rfl⟩ (fun w5 x5 s5 => ?_)
    rw [s4] at s5 ⊢
    have C5 := C4.ext x5
    have hx5 := (((x1.trans x2).trans x3).trans x4).trans x5
    refine v_astore_n (pc := 19) (lv' := [(3, .ref sb.length), (2, .ref sa.length), (1, .ref 0), (0, .ref 2000000)]) C5 10 rfl rfl (by decide) rfl ?_
    refine v_iconst (pc := 20) C5 11 0 rfl (by decide) ?_
    refine v_istore (pc := 21) (lv' := [(4, .int 0), (3, .ref sb.length), (2, .ref sa.length), (1, .ref 0), (0, .ref 2000000)]) C5 12 rfl (by decide) rfl ?_
    refine v_sub [(0, .ref 2000000), (1, .ref 0), (2, .ref sa.length), (3, .ref sb.length), (4, .int 0)] [4, 3, 2, 1, 0] rfl ?_
    refine gV_widen (kc := 1000 + (0 : Int32).toNatClampNeg) (ks := 200000 + 10 * (0 : Int32).toNatClampNeg) (by decide) (by decide) ?_
    have hret : gLe (p, l, e, room_1, s, m, #[Value.ref b], below, meth, c) w5 (lw_Z below #[Value.ref b] s) := by
      intro kc ks pc lv mm i hi h1 h2 H locs ls hP hD hS hl
      refine va_forget (fun q hq => ?_) ?_
      · have := hS.2.2 q hq
        rw [hx5.A] at this
        have h9 : w.2.2.2.1 ≤ q.base := this
        rw [hn0] at h9
        exact h9
      · refine W.widen (k := 601024) (n := 7293034) h1 h2 ?_
        exact lw_ret hx hb hr hlocks (dk_L_law (pc, .ireturn, 1) (List.mem_of_getElem? hi))
    have h5 : l_law_23 w5.2.2.2.2.1 F L xs F 2000000 0 sa.length sb.length 0 (gz mb sb.length) = some () := by rw [s5]; exact h
    exact tl_law_23 (F := F) C5 hret (hx5.js hG) hl0 (hx5.jx hE) (hc.ext hx5) rfl F 2000000 0 sa.length sb.length 0 _ h5
  have hl := lv_entry ([Value.ref b] : List Value) (n := 7) (Nat.le_of_ble_eq_true rfl)
  rw [lg_entry_eq]
  refine key s.heap [] _ ?_ ?_ va_S.rf ?_
  · intro k q hq
    rw [gwl, hsh] at hq
    simp [g_wl] at hq
  · rw [gwl, hsh]
    exact ⟨fun i j p q hp => by simp [g_wl] at hp, fun k q hq => by simp [g_wl] at hq⟩
  · show lv_has _ 7 [(0, .ref (w.2.2.1 2000000))]
    rw [hadb]
    exact hl
