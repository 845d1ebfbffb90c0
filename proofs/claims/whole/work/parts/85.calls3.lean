/-! THE CALLS THAT ONLY LOOK: declaration, friends, meant -/
section JNT
variable {F tp tx pg df mn tr : Nat} {m m' : gM} {bt bx : Nat → Nat} {nt nx f : Nat}
theorem frS_cong {X Y : Nat → Int64} {g : Int64} : ∀ r, (∀ j, j < r → X j = Y j) → frS X r g = frS Y r g := by
  intro r
  induction r with
  | zero => intro _; rfl
  | succ r ih =>
    intro h
    unfold frS
    rw [ih (fun j hj => h j (by omega)), h r (by omega)]
theorem frI_cong {X Y : Nat → Int64} {g : Int64} {nR : Nat} (h : ∀ j, j < nR → X j = Y j) : ∀ k, frI X nR g k = frI Y nR g k := by
  intro k
  induction k with
  | zero => rfl
  | succ k ih =>
    unfold frI
    rw [ih]
    exact frS_cong nR h
/-- friendsOf of both sides -/
theorem JP.fri (hF : 5000 ≤ F) (h : JP m tp tx pg df mn tr bt nt bx nx f) {d : Nat} (hd : d < pQ bx nx 0 1) : ∃ g, f_X1_friendsOf gSH F mn (nI d) (nI (pQ bx nx 0 2)) m = some (g, m) ∧ (∀ m' : gM, m'.2.1 104 = m.2.1 104 → m'.2.2 62 68 = some 104 → m'.1 62 20 = nI (pQ bx nx 0 2) → f_X8_friendsOf gSH F 62 (nI d) m' = some (g, m')) ∧ bm g d = true ∧ ∀ x, bm g x = true → x < pQ bx nx 0 1 := by
  obtain ⟨h1, ⟨z, o1, o2, o3⟩, h3, h4, ⟨k1, C, k3, k4⟩, h6, h7, h8, h9, ⟨x1, x2, R, x4, x5⟩, h11⟩ := id h
  have hmn : mn = 45 ∨ mn = 50 := by omega
  have hS := (pQ_ok x1).1.1
  have l1 := hS.1.2.2.1
  have l2 := hS.1.2.2.2.1
  have M := h1.mr hmn
  have hX : ∀ r', r' < pQ bx nx 0 2 → ∀ d, bm (m.2.1 (mn + 2) r') d = true → d < pQ bx nx 0 1 := fun r' hr' d' hd' => by
    rw [(h.mean hr').1] at hd'
    exact (h.mean hr').2 d' hd'
  obtain ⟨n, n1, n2, n3, n4⟩ := s_friC (F := F) hmn M.2.1 hF l2 (show d < 60 by omega) (fun r' hr' d' hd' => by have := hX r' hr' d' hd'; omega)
  have cg : ∀ k, frI (m.2.1 (mn + 2)) (pQ bx nx 0 2) (bl d) k = frI (m.2.1 104) (pQ bx nx 0 2) (bl d) k := frI_cong (fun j hj => (h.mean hj).1)
  refine ⟨_, n2, fun m' e1 e2 e3 => ?_, ?_, frI_in (fun x hx => ?_) hX n⟩
  · have t := s_friR (m := m') (F := F) e2 e3 hF l2 (d := d) n1 (by rw [e1, ← cg, ← cg]; exact n3) (fun j hj => by rw [e1, ← cg, ← cg]; exact n4 j hj)
    rw [t, e1, ← cg]
  · have b1 : bm (bl d) d = true := by rw [bm_bl (by omega)]; simp
    have key : ∀ k, bm (frI (m.2.1 (mn + 2)) (pQ bx nx 0 2) (bl d) k) d = true := by
      intro k
      induction k with
      | zero => exact b1
      | succ k ih => exact frS_sub ih _
    exact key n
  · rw [bm_bl (by omega), decide_eq_true_eq] at hx
    omega
/-- the reference's users of a declaration -/
theorem r_users (hp : PTR m) (hF : 5000 ≤ F) {nR : Nat} (h20 : m.1 62 20 = nI nR) (hR : nR ≤ 100) {k : Nat} (hk : k < 64) : l_X8_declaration_103 gSH F F 62 (nI k) 0 0 m = some (nI (bc nR (fun r => bm (m.2.1 104 r) k)), m) := by
  refine cnt_run (p := fun r => bm (m.2.1 104 r) k) (L := fun N a i => l_X8_declaration_103 gSH F N 62 (nI k) a i m) (by omega) (fun N acc => ?_) (fun N acc i hi => ?_)
  · show b_X8_declaration_103 gSH F (l_X8_declaration_103 gSH F N) 62 (nI k) acc (nI nR) m = _
    unfold b_X8_declaration_103
    rw [ob_62, g_ift, h20, if_pos (nI_le (Nat.le_refl _) (by omega))]
  · show b_X8_declaration_103 gSH F (l_X8_declaration_103 gSH F N) 62 (nI k) acc (nI i) m = _
    unfold b_X8_declaration_103 b_X8_declaration_132
    rw [ob_62, g_ift, h20, if_neg (nI_ge hi (by omega)), hp.2.2.2.2.2.1.1, g_bs, show aB gSH 104 .long (nI i) = true from g_inI (N := 101) (by omega) (by decide), g_ift, nI_clamp (by omega), s_has hk, g_bs]
    simp only [g_nmb, nI_a1]
    by_cases c : bm (m.2.1 104 i) k = true
    · simp only [c, if_true, if_neg one0]
    · simp only [c, if_false, if_true, Bool.false_eq_true]
theorem and_bl (x : Int64) {k : Nat} (hk : k < 64) : x &&& bl k ≠ 0 ↔ bm x k = true := by
  constructor
  · intro h
    apply Classical.byContradiction
    intro hc
    apply h
    apply bm_ext
    intro d hd
    rw [bm_and, bm_bl hk, bm_0]
    by_cases e : d = k
    · rw [e]
      cases q : bm x k
      · rfl
      · exact absurd q hc
    · simp [e]
  · intro h e
    have : bm (x &&& bl k) k = bm 0 k := by rw [e]
    rw [bm_and, bm_bl hk, bm_0, h] at this
    simp at this
/-- declaration -/
theorem j_declaration (hF : 5000 ≤ F) (h : JP m tp tx pg df mn tr bt nt bx nx f) (x y : Int32) : RO m (f_X7_declaration gSH F 0 x y m) (f_X8_declaration gSH F 62 x y) := by
  obtain ⟨h1, ⟨z, o1, o2, o3⟩, h3, h4, ⟨k1, C, k3, k4⟩, h6, h7, h8, h9, ⟨x1, x2, R, x4, x5⟩, h11⟩ := id h
  have hpg : pg = 5 ∨ pg = 25 := by omega
  have hmn : mn = 45 ∨ mn = 50 := by omega
  obtain ⟨g1, g2, g3, b2, b3, -, -, -, -, -, -, -, -, -, -, b15, -⟩ := gP hpg
  obtain ⟨om, c1', c2', c3', c4'⟩ := gMn hmn
  have hS := (pQ_ok x1).1.1
  have l0 := hS.1.2.1
  have l1 := hS.1.2.2.1
  have l2 := hS.1.2.2.2.1
  have P : PR m.2.2 pg := h1.pr hpg
  obtain ⟨r0, r1, r2, r3, r4, r5, r6, r7, r8, r9, r10, d0, d1, d2, d3, e0, e1, e2, e3⟩ := id P
  have M := h1.mr hmn
  have hs := s_hasM (F := F) g2 (show pQ bx nx 0 1 < 2 ^ 31 by omega) C.1.2.1
  have thr : (∀ m' : gM, SB m m' → f_X8_declaration gSH F 62 x y m' = b_X8_declaration_26 gSH F 62 x y 62 m') → f_X7_declaration gSH F 0 x y m = some (none, m) → RO m (f_X7_declaration gSH F 0 x y m) (f_X8_declaration gSH F 62 x y) := fun hr hc => by
    refine ⟨none, hc, fun m' s => ⟨0, 1, ?_, Or.inl ⟨rfl, rfl⟩⟩⟩
    rw [hr m' s]
    unfold b_X8_declaration_26 b_X8_declaration_27
    rw [ob_62, g_ift, s_fails0, g_bs, g_nmb, g_nmb, if_neg one0]
  by_cases bad : x < 0 ∨ nI (pQ bx nx 0 1) ≤ x
  · refine thr (fun m' s => ?_) ?_
    · unfold f_X8_declaration
      by_cases c0 : x < 0
      · rw [if_pos c0]
      · have c1 : nI (pQ bx nx 0 1) ≤ x := bad.elim (fun z => absurd z c0) id
        rw [if_neg c0, ob_62, g_ift, s.1, R.1.2.1, if_pos c1]
    · unfold f_X7_declaration
      rw [ob_0, g_ift, z.2.2.1, g_bs, g1, g_ift, r0, g_bs, g2, g_ift, hs, g_bs, g_nmb, g_nmb, if_pos bad, if_pos (rfl : (0 : Int32) = 0)]
  have c0 : ¬ x < 0 := fun c => bad (Or.inl c)
  have c1 : ¬ nI (pQ bx nx 0 1) ≤ x := fun c => bad (Or.inr c)
  obtain ⟨i, hi, rfl⟩ := i32_in (by omega) c0 c1
  have hs1 : f_X0_has gSH F (pg + 1) (nI i) m = some (1, m) := by rw [hs, if_neg bad]
  by_cases out : y < 0 ∨ (5 : Int32) ≤ y
  · have ne : ∀ k, k < 5 → ¬ y = nI k := fun k hk e => by
      rw [e] at out
      rcases out with c | c
      · exact absurd c (nI_pos (by omega))
      · exact absurd c (nI_ge (b := 5) hk (by decide))
    refine thr (fun m' s => ?_) ?_
    · unfold f_X8_declaration
      rw [if_neg c0, ob_62, g_ift, s.1, R.1.2.1, if_neg c1]
      rcases out with c | c
      · rw [if_pos c]
      · by_cases cy : y < 0
        · rw [if_pos cy]
        · rw [if_neg cy, if_pos c]
    · unfold f_X7_declaration
      rw [ob_0, g_ift, z.2.2.1, g_bs, g1, g_ift, r0, g_bs, g2, g_ift, hs1, g_bs, g_nmb, g_nmb, if_neg one0, if_neg (show ¬ y = 0 from ne 0 (by decide)), if_neg (show ¬ y = 1 from ne 1 (by decide)), if_neg (show ¬ y = 2 from ne 2 (by decide)), if_neg (show ¬ y = 3 from ne 3 (by decide)), if_neg (show ¬ y = 4 from ne 4 (by decide))]
  obtain ⟨w, hw, rfl⟩ := i32_in (k := 5) (by decide) (fun c => out (Or.inl c)) (fun c => out (Or.inr c))
  obtain ⟨g, f1, f2, f3, f4⟩ := h.fri hF hi
  have hp' : ∀ m' : gM, SB m m' → PTR (gsI m' 62 0 0) := fun m' s => h7.eq (by rw [gI_2]; exact s.2.2)
  have ra : ∀ c, c = 68 ∨ c = 69 ∨ c = 71 → aB gSH c .int (nI i) = true := fun c hc => by
    rcases hc with rfl | rfl | rfl <;> exact g_inI (N := 61) (by omega) (by decide)
  have un : ∀ (m' : gM), SB m m' → f_X8_declaration gSH F 62 (nI i) (nI w) m' = (if nI w = 0 then some (m.1 68 i, gsI m' 62 0 0) else (if nI w = 1 then some (m.1 69 i, gsI m' 62 0 0) else (if nI w = 2 then some (m.1 71 i, gsI m' 62 0 0) else (if nI w = 3 then some (nI (bc 64 (bm g)), gsI m' 62 0 0) else some (nI (bc (pQ bx nx 0 2) (fun r => bm (m.2.1 104 r) i)), gsI m' 62 0 0))))) := by
    intro m' s
    unfold f_X8_declaration b_X8_declaration_27
    rw [if_neg c0, ob_62, g_ift, s.1, R.1.2.1, if_neg c1, if_neg (nI_pos (by omega)), if_neg (show ¬ (5 : Int32) ≤ nI w from nI_ge (b := 5) hw (by decide)), g_ift, s_fails1, g_bs, g_nmb, g_nmb, if_pos (rfl : (0 : Int32) = 0)]
    have pp := hp' m' s
    have e68 : (gsI m' 62 0 0).1 68 i = m.1 68 i := by rw [gsI_ne (by decide), s.1]
    have e69 : (gsI m' 62 0 0).1 69 i = m.1 69 i := by rw [gsI_ne (by decide), s.1]
    have e71 : (gsI m' 62 0 0).1 71 i = m.1 71 i := by rw [gsI_ne (by decide), s.1]
    have e104 : (gsI m' 62 0 0).2.1 104 = m.2.1 104 := s.2.1 104 (by decide)
    have e20 : (gsI m' 62 0 0).1 62 20 = nI (pQ bx nx 0 2) := by rw [gI_1, if_neg (by omega), s.1]; exact R.1.2.2
    have cl : (nI i).toNatClampNeg = i := nI_clamp (by omega)
    have ff := f2 (gsI m' 62 0 0) e104 pp.2.2.2.2.2.1.1 e20
    have mm : f_X8_many gSH F g (gsI m' 62 0 0) = some (nI (bc 64 (bm g)), gsI m' 62 0 0) := s_many _ hF (fun d hd => by have := f4 d hd; omega)
    have uu := r_users pp hF e20 l2 (show i < 64 by omega)
    simp only [g_ift, g_bs, g_nmb, pp.1.1.2.2.1, pp.1.1.2.2.2.1, pp.1.1.2.2.2.2.2.1, ra 68 (by omega), ra 69 (by omega), ra 71 (by omega), cl, e68, e69, e71, ff, mm, uu, e104]
  have cases5 : w = 0 ∨ w = 1 ∨ w = 2 ∨ w = 3 ∨ w = 4 := by omega
  have ir : inB (nI i) 60 = true := g_inI (by omega) (by decide)
  have ir' : inB (nI i) 64 = true := g_inI (by omega) (by decide)
  have cl : (nI i).toNatClampNeg = i := nI_clamp (by omega)
  have cm := C.2.2.1 i hi
  have rm := R.2.2.1 i hi
  have us := s_usersOf (F := F) hmn M.2.1 hF l2 (bl i)
  have us' : f_X1_usersOf gSH F mn ((1 : Int64) <<< ((nI i).toInt64 &&& 63)) (nI (pQ bx nx 0 2)) m = _ := us
  rw [bc_cong (p' := fun r => bm (m.2.1 104 r) i) _ (fun r hr => by
    rw [(h.mean hr).1]
    cases e : bm (m.2.1 104 r) i
    · exact decide_eq_false (fun z => by rw [(and_bl _ (by omega)).mp z] at e; cases e)
    · exact decide_eq_true ((and_bl _ (by omega)).mpr e))] at us'
  have st : f_X7_declaration gSH F 0 (nI i) (nI w) m = (if nI w = 0 then some (some (m.1 (pg + 2) i), m) else (if nI w = 1 then some (some (m.1 (pg + 3) i), m) else (if nI w = 2 then some (some (m.1 (pg + 15) i), m) else (if nI w = 3 then some (some (nI (bc 64 (bm g))), m) else (if nI w = 4 then some (some (nI (bc (pQ bx nx 0 2) (fun r => bm (m.2.1 104 r) i))), m) else some (none, m)))))) := by
    unfold f_X7_declaration
    rw [ob_0, g_ift, z.2.2.1, g_bs, g1, g_ift, r0, g_bs, g2, g_ift, hs1, g_bs, g_nmb, g_nmb, if_neg one0]
    dsimp only
    simp only [z.2.2.1, z.2.2.2.2.1, g_bs, g1, g_ift, r0, r1, g2, g3, d0, d1, r6, b2, b3, b15, ir, ir', om, cl, C.1.2.2.1, f1, us', s_bitCount, g_nmb]
  rcases cases5 with rfl | rfl | rfl | rfl | rfl
  · refine ⟨some (nI (pQ bx nx 3 i)), ?_, fun m' s => ⟨nI (pQ bx nx 3 i), 0, ?_, Or.inr ⟨rfl, rfl⟩⟩⟩
    · rw [st, if_pos (show nI 0 = 0 from rfl), cm.1]
    · rw [un m' s, if_pos (show nI 0 = 0 from rfl), rm.1]
  · refine ⟨some (nI (kS bx nx (pQ bx nx 4 i))), ?_, fun m' s => ⟨nI (kS bx nx (pQ bx nx 4 i)), 0, ?_, Or.inr ⟨rfl, rfl⟩⟩⟩
    · rw [st, if_neg (by decide), if_pos (show nI 1 = 1 from rfl), cm.2.1]
    · rw [un m' s, if_neg (by decide), if_pos (show nI 1 = 1 from rfl), rm.2.1]
  · refine ⟨some (nI (pQ bx nx 5 i) - 1), ?_, fun m' s => ⟨nI (pQ bx nx 5 i) - 1, 0, ?_, Or.inr ⟨rfl, rfl⟩⟩⟩
    · rw [st, if_neg (by decide), if_neg (by decide), if_pos (show nI 2 = 2 from rfl), cm.2.2.2.2]
    · rw [un m' s, if_neg (by decide), if_neg (by decide), if_pos (show nI 2 = 2 from rfl), rm.2.2.2]
  · refine ⟨some (nI (bc 64 (bm g))), ?_, fun m' s => ⟨nI (bc 64 (bm g)), 0, ?_, Or.inr ⟨rfl, rfl⟩⟩⟩
    · rw [st, if_neg (by decide), if_neg (by decide), if_neg (by decide), if_pos (show nI 3 = 3 from rfl)]
    · rw [un m' s, if_neg (by decide), if_neg (by decide), if_neg (by decide), if_pos (show nI 3 = 3 from rfl)]
  · refine ⟨some (nI (bc (pQ bx nx 0 2) (fun r => bm (m.2.1 104 r) i))), ?_, fun m' s => ⟨nI (bc (pQ bx nx 0 2) (fun r => bm (m.2.1 104 r) i)), 0, ?_, Or.inr ⟨rfl, rfl⟩⟩⟩
    · rw [st, if_neg (by decide), if_neg (by decide), if_neg (by decide), if_neg (by decide), if_pos (show nI 4 = 4 from rfl)]
    · rw [un m' s, if_neg (by decide), if_neg (by decide), if_neg (by decide), if_neg (by decide)]
/-- the shift of the object's friends -/
theorem sh_u : ∀ n, n < 64 → ((nI n).toInt64.toUInt64 &&& Int64.toUInt64 63).toBitVec % 64 = BitVec.ofNat 64 n := by decide +kernel
theorem bm_ush {x : Int64} {n : Nat} (hn : n < 64) : (((x.toUInt64 >>> ((nI n).toInt64.toUInt64 &&& Int64.toUInt64 63)).toInt64) &&& (1 : Int64) = 0) ↔ bm x n = false := by
  have e1 : ∀ d, bm (((x.toUInt64 >>> ((nI n).toInt64.toUInt64 &&& Int64.toUInt64 63)).toInt64) &&& 1) d = (decide (d = 0) && bm x n) := by
    intro d
    rw [bm_and]
    have e : bm 1 d = decide (d = 0) := by
      unfold bm
      have e : (1 : Int64).toBitVec = 1#64 := by decide
      rw [e, BitVec.getLsbD_one]
      simp
    rw [e]
    by_cases c : d = 0
    · subst c
      unfold bm
      show ((x.toUInt64 >>> ((nI n).toInt64.toUInt64 &&& Int64.toUInt64 63)).toBitVec.getLsbD 0 && _) = _
      rw [UInt64.toBitVec_shiftRight, sh_u n hn]
      show ((x.toBitVec >>> BitVec.ofNat 64 n).getLsbD 0 && _) = _
      rw [BitVec.ushiftRight_eq', BitVec.getLsbD_ushiftRight, BitVec.toNat_ofNat, Nat.mod_eq_of_lt (by omega)]
      simp
    · simp [c]
  constructor
  · intro h
    have := e1 0
    rw [h, bm_0] at this
    simpa using this.symm
  · intro h
    apply bm_ext
    intro d hd
    rw [e1, bm_0, h, Bool.and_false]
/-- friends -/
theorem j_friends (hF : 5000 ≤ F) (h : JP m tp tx pg df mn tr bt nt bx nx f) (x y : Int32) : RO m (f_X7_friends gSH F 0 x y m) (f_X8_friends gSH F 62 x y) := by
  obtain ⟨h1, ⟨z, o1, o2, o3⟩, h3, h4, ⟨k1, C, k3, k4⟩, h6, h7, h8, h9, ⟨x1, x2, R, x4, x5⟩, h11⟩ := id h
  have hpg : pg = 5 ∨ pg = 25 := by omega
  have hmn : mn = 45 ∨ mn = 50 := by omega
  obtain ⟨g1, g2, g3, -⟩ := gP hpg
  have om := (gMn hmn).1
  have hS := (pQ_ok x1).1.1
  have l1 := hS.1.2.2.1
  have P : PR m.2.2 pg := h1.pr hpg
  have r0 := P.1
  have r1 := P.2.1
  have hs := s_hasM (F := F) g2 (show pQ bx nx 0 1 < 2 ^ 31 by omega) C.1.2.1
  have thr : (∀ m' : gM, SB m m' → f_X8_friends gSH F 62 x y m' = b_X8_friends_29 gSH F 62 x y 62 m') → f_X7_friends gSH F 0 x y m = some (none, m) → RO m (f_X7_friends gSH F 0 x y m) (f_X8_friends gSH F 62 x y) := fun hr hc => by
    refine ⟨none, hc, fun m' s => ⟨0, 1, ?_, Or.inl ⟨rfl, rfl⟩⟩⟩
    rw [hr m' s]
    unfold b_X8_friends_29 b_X8_friends_30
    rw [ob_62, g_ift, s_fails0, g_bs, g_nmb, g_nmb, if_neg one0]
  by_cases bad : x < 0 ∨ nI (pQ bx nx 0 1) ≤ x
  · refine thr (fun m' s => ?_) ?_
    · unfold f_X8_friends
      by_cases c0 : x < 0
      · rw [if_pos c0]
      · have c1 : nI (pQ bx nx 0 1) ≤ x := bad.elim (fun z => absurd z c0) id
        rw [if_neg c0, ob_62, g_ift, s.1, R.1.2.1, if_pos c1]
    · unfold f_X7_friends
      rw [ob_0, g_ift, z.2.2.1, g_bs, g1, g_ift, r0, g_bs, g2, g_ift, hs, g_bs, g_nmb, g_nmb, if_pos bad, if_pos (rfl : (0 : Int32) = 0)]
  have c0 : ¬ x < 0 := fun c => bad (Or.inl c)
  have c1 : ¬ nI (pQ bx nx 0 1) ≤ x := fun c => bad (Or.inr c)
  obtain ⟨i, hi, rfl⟩ := i32_in (by omega) c0 c1
  have hs1 : f_X0_has gSH F (pg + 1) (nI i) m = some (1, m) := by rw [hs, if_neg bad]
  by_cases out : y < 0 ∨ nI (pQ bx nx 0 1) ≤ y
  · refine thr (fun m' s => ?_) ?_
    · unfold f_X8_friends
      rw [if_neg c0, ob_62, g_ift, s.1, R.1.2.1, if_neg c1]
      by_cases cy : y < 0
      · rw [if_pos cy]
      · rw [if_neg cy, if_pos (out.elim (fun z => absurd z cy) id)]
    · unfold f_X7_friends
      rw [ob_0, g_ift, z.2.2.1, g_bs, g1, g_ift, r0, g_bs, g2, g_ift, hs1, g_bs, g_nmb, g_nmb, if_neg one0]
      dsimp only
      rw [z.2.2.1, g_bs, g1, g_ift, r0, g_bs, g2, g_ift, hs, g_bs, g_nmb, g_nmb, if_pos out, if_pos (rfl : (0 : Int32) = 0)]
  have d0 : ¬ y < 0 := fun c => out (Or.inl c)
  have d1 : ¬ nI (pQ bx nx 0 1) ≤ y := fun c => out (Or.inr c)
  obtain ⟨k, hk, rfl⟩ := i32_in (by omega) d0 d1
  have hs2 : f_X0_has gSH F (pg + 1) (nI k) m = some (1, m) := by rw [hs, if_neg out]
  obtain ⟨g, f1, f2, f3, f4⟩ := h.fri hF hi
  refine ⟨some (if bm g k = true then 1 else 0), ?_, fun m' s => ⟨if bm g k = true then 1 else 0, 0, ?_, Or.inr ⟨rfl, rfl⟩⟩⟩
  · unfold f_X7_friends
    rw [ob_0, g_ift, z.2.2.1, g_bs, g1, g_ift, r0, g_bs, g2, g_ift, hs1, g_bs, g_nmb, g_nmb, if_neg one0]
    dsimp only
    rw [z.2.2.1, g_bs, g1, g_ift, r0, g_bs, g2, g_ift, hs2, g_bs, g_nmb, g_nmb, if_neg one0]
    dsimp only
    rw [z.2.2.2.2.1, g_bs, z.2.2.1, g_bs, g1, g_ift, r1, g_bs, g3, g_ift, om, g_ift, C.1.2.2.1, f1, g_bs, g_nmb, g_nmb]
    dsimp only
    cases e : bm g k
    · rw [if_pos ((bm_ush (by omega)).mpr e), if_neg (by decide)]
    · rw [if_neg (fun q => by rw [(bm_ush (by omega)).mp q] at e; cases e), if_pos rfl]
  · have pp : PTR (gsI m' 62 0 0) := h7.eq (by rw [gI_2]; exact s.2.2)
    have e104 : (gsI m' 62 0 0).2.1 104 = m.2.1 104 := s.2.1 104 (by decide)
    have e20 : (gsI m' 62 0 0).1 62 20 = nI (pQ bx nx 0 2) := by rw [gI_1, if_neg (by omega), s.1]; exact R.1.2.2
    unfold f_X8_friends b_X8_friends_30
    rw [if_neg c0, ob_62, g_ift, s.1, R.1.2.1, if_neg c1, if_neg d0, if_neg d1, g_ift, s_fails1, g_bs, g_nmb, g_nmb, if_pos (rfl : (0 : Int32) = 0), g_ift, f2 _ e104 pp.2.2.2.2.2.1.1 e20, g_bs, g_nmb, g_nmb, s_has (by omega), g_bs, g_nmb, g_nmb]
    dsimp only
    have : zB (if bm g k = true then 1 else 0) = true := by
      cases bm g k <;> decide
    rw [this, g_ift]
/-- the bit with i bits below it -/
theorem nth_ex {p : Nat → Bool} {i : Nat} : ∀ n, i < bc n p → ∃ d, d < n ∧ p d = true ∧ bc d p = i := by
  intro n
  induction n with
  | zero => intro h; exact absurd h (Nat.not_lt_zero _)
  | succ n ih =>
    intro h
    by_cases c : i < bc n p
    · obtain ⟨d, h1, h2, h3⟩ := ih c
      exact ⟨d, by omega, h2, h3⟩
    · have e : bc (n + 1) p = bc n p + (if p n = true then 1 else 0) := rfl
      rw [e] at h
      by_cases q : p n = true
      · rw [if_pos q] at h
        exact ⟨n, by omega, q, by omega⟩
      · rw [if_neg q] at h
        omega
theorem bc_up {p : Nat → Bool} {a : Nat} : ∀ k, bc a p ≤ bc (a + k) p := by
  intro k
  induction k with
  | zero => exact Nat.le_refl _
  | succ k ih =>
    have e : bc (a + k + 1) p = bc (a + k) p + (if p (a + k) = true then 1 else 0) := rfl
    show _ ≤ bc (a + k + 1) p
    rw [e]
    omega
theorem bc_st {p : Nat → Bool} {a b : Nat} (h : p a = true) (hab : a < b) : bc a p < bc b p := by
  have e : bc (a + 1) p = bc a p + (if p a = true then 1 else 0) := rfl
  rw [if_pos h] at e
  have := bc_up (p := p) (a := a + 1) (b - (a + 1))
  rw [show a + 1 + (b - (a + 1)) = b by omega] at this
  omega
theorem bc_mo {p : Nat → Bool} {a b : Nat} (hab : a ≤ b) : bc a p ≤ bc b p := by
  have := bc_up (p := p) (a := a) (b - a)
  rw [show a + (b - a) = b by omega] at this
  exact this
theorem s_meantC {x : Int64} {i d : Nat} (hi : i < 64) (hd : d < 64) (h1 : bm x d = true) (h2 : bc d (bm x) = i) : ∀ (k N j : Nat) (y : Int64), j + k = i → k < N → (∀ d, d < 64 → bm y d = (bm x d && decide (j ≤ bc d (bm x)))) → l_X7_meant_67 gSH F N (nI i) y (nI j) m = some (some (nI d), m) := by
  intro k
  induction k with
  | zero =>
    intro N j y hj hN hy
    obtain ⟨N, rfl⟩ : ∃ N', N = N' + 1 := ⟨N - 1, by omega⟩
    show b_X7_meant_67 gSH F (l_X7_meant_67 gSH F N) (nI i) y (nI j) m = _
    unfold b_X7_meant_67
    have lo : f_X7_lowest gSH F y m = some (nI d, m) := s_lowest hd (by rw [hy d hd, h1, h2, decide_eq_true (by omega)]; rfl) (fun j' hj' => by
      rw [hy j' (by omega)]
      cases e : bm x j'
      · rfl
      · have := bc_st e hj'
        rw [decide_eq_false (by omega)]
        rfl)
    rw [if_pos (nI_le (by omega) (by omega)), lo, g_bs, g_nmb, g_nmb]
  | succ k ih =>
    intro N j y hj hN hy
    obtain ⟨N, rfl⟩ : ∃ N', N = N' + 1 := ⟨N - 1, by omega⟩
    show b_X7_meant_67 gSH F (l_X7_meant_67 gSH F N) (nI i) y (nI j) m = _
    unfold b_X7_meant_67
    rw [if_neg (nI_ge (by omega) (by omega)), g_nmb, g_nmb, nI_a1]
    obtain ⟨e, e1, e2, e3⟩ := nth_ex (p := bm x) (i := j) d (by omega)
    refine ih N (j + 1) _ (by omega) (by omega) (fun d' hd' => ?_)
    rw [bm_rest (k := e) (by rw [hy e (by omega), e2, e3, decide_eq_true (Nat.le_refl _)]; rfl) (fun j' hj' => by
      rw [hy j' (by omega)]
      cases q : bm x j'
      · rfl
      · have := bc_st q hj'
        rw [decide_eq_false (by omega)]
        rfl) hd', hy d' hd']
    cases q : bm x d'
    · rfl
    · rw [Bool.true_and, Bool.true_and, ← Bool.decide_and]
      apply decide_eq_decide.mpr
      constructor
      · intro ⟨a1, a2⟩
        apply Classical.byContradiction
        intro a3
        have a4 : bc d' (bm x) = j := by omega
        rcases Nat.lt_or_gt_of_ne a2 with c | c
        · have := bc_st q c
          omega
        · have := bc_st e2 c
          omega
      · intro a
        refine ⟨by omega, fun c => ?_⟩
        rw [c] at a
        omega
theorem s_meantR (hp : PTR m) {r i d : Nat} (hr : r ≤ 100) (hi : i < 64) (hd : d < 64) (h1 : bm (m.2.1 104 r) d = true) (h2 : bc d (bm (m.2.1 104 r)) = i) : ∀ (k N p : Nat), p + k = d + 1 → k < N → l_X8_meant_65 gSH F N 62 (nI r) (nI i) (nI (bc p (bm (m.2.1 104 r))) - 1) (nI p - 1) m = some (nI d, m) := by
  intro k
  induction k with
  | zero =>
    intro N p hp hN
    obtain ⟨N, rfl⟩ : ∃ N', N = N' + 1 := ⟨N - 1, by omega⟩
    show b_X8_meant_65 gSH F (l_X8_meant_65 gSH F N) 62 (nI r) (nI i) (nI (bc p (bm (m.2.1 104 r))) - 1) (nI p - 1) m = _
    unfold b_X8_meant_65
    have e : bc (d + 1) (bm (m.2.1 104 r)) = bc d (bm (m.2.1 104 r)) + (if bm (m.2.1 104 r) d = true then 1 else 0) := rfl
    rw [if_pos h1] at e
    have hp' : p = d + 1 := by omega
    subst hp'
    rw [nI_p1 (by omega), if_pos (nI_le (by omega) (by omega)), nI_p1 (by omega)]
    rfl
  | succ k ih =>
    intro N p hpk hN
    obtain ⟨N, rfl⟩ : ∃ N', N = N' + 1 := ⟨N - 1, by omega⟩
    show b_X8_meant_65 gSH F (l_X8_meant_65 gSH F N) 62 (nI r) (nI i) (nI (bc p (bm (m.2.1 104 r))) - 1) (nI p - 1) m = _
    unfold b_X8_meant_65 b_X8_meant_95
    have le := bc_mo (p := bm (m.2.1 104 r)) (show p ≤ d by omega)
    have st : ¬ nI i ≤ nI (bc p (bm (m.2.1 104 r))) - 1 := by
      by_cases c : bc p (bm (m.2.1 104 r)) = 0
      · rw [c]
        intro e
        rw [Int32.le_iff_toInt_le] at e
        have : ¬ nI i < 0 := nI_pos (by omega)
        rw [Int32.lt_iff_toInt_lt] at this
        have e0 : (nI 0 - 1).toInt = -1 := by decide
        have e1 : (0 : Int32).toInt = 0 := by decide
        omega
      · rw [nI_p1 (by omega)]
        exact nI_ge (by omega) (by omega)
    have ep : nI p - 1 + Int32.ofInt 1 = nI p := Int32.sub_add_cancel _ _
    have ep' : nI (p + 1) - 1 = nI p := by rw [nI_p1 (by omega)]; rfl
    rw [if_neg st, g_nmb, ep, ob_62, g_ift, hp.2.2.2.2.2.1.1, g_bs, show aB gSH 104 .long (nI r) = true from g_inI (N := 101) (by omega) (by decide), g_ift, nI_clamp (by omega), s_has (by omega), g_bs]
    simp only [g_nmb]
    have e : bc (p + 1) (bm (m.2.1 104 r)) = bc p (bm (m.2.1 104 r)) + (if bm (m.2.1 104 r) p = true then 1 else 0) := rfl
    have := ih N (p + 1) (by omega) (by omega)
    rw [ep', e] at this
    by_cases c : bm (m.2.1 104 r) p = true
    · simp only [c, if_true, if_neg one0]
      rw [if_pos c] at this
      have e2 : nI (bc p (bm (m.2.1 104 r))) - 1 + 1 = nI (bc p (bm (m.2.1 104 r)) + 1) - 1 := by
        rw [nI_p1 (x := bc p (bm (m.2.1 104 r)) + 1) (by omega)]
        exact Int32.sub_add_cancel _ _
      rw [e2]
      exact this
    · simp only [c, if_false, if_true, Bool.false_eq_true]
      rw [if_neg c] at this
      rw [Int32.add_zero]
      exact this
/-- meant -/
theorem j_meant (hF : 5000 ≤ F) (h : JP m tp tx pg df mn tr bt nt bx nx f) (x y : Int32) : RO m (f_X7_meant gSH F 0 x y m) (f_X8_meant gSH F 62 x y) := by
  obtain ⟨h1, ⟨z, o1, o2, o3⟩, h3, h4, ⟨k1, C, k3, k4⟩, h6, h7, h8, h9, ⟨x1, x2, R, x4, x5⟩, h11⟩ := id h
  have hpg : pg = 5 ∨ pg = 25 := by omega
  have hmn : mn = 45 ∨ mn = 50 := by omega
  obtain ⟨g1, g2, g3, -⟩ := gP hpg
  obtain ⟨om, c1', c2', c3', c4'⟩ := gMn hmn
  have hS := (pQ_ok x1).1.1
  have l1 := hS.1.2.2.1
  have l2 := hS.1.2.2.2.1
  have P : PR m.2.2 pg := h1.pr hpg
  have r1 := P.2.1
  have M := h1.mr hmn
  have hs := s_hasM (F := F) g3 (show pQ bx nx 0 2 < 2 ^ 31 by omega) C.1.2.2.1
  have thr : (∀ m' : gM, SB m m' → f_X8_meant gSH F 62 x y m' = b_X8_meant_47 gSH F 62 x y m') → f_X7_meant gSH F 0 x y m = some (none, m) → RO m (f_X7_meant gSH F 0 x y m) (f_X8_meant gSH F 62 x y) := fun hr hc => by
    refine ⟨none, hc, fun m' s => ⟨0, 1, ?_, Or.inl ⟨rfl, rfl⟩⟩⟩
    rw [hr m' s]
    unfold b_X8_meant_47 b_X8_meant_48
    rw [ob_62, g_ift, s_fails0, g_bs, g_nmb, g_nmb, if_neg one0]
  by_cases bad : x < 0 ∨ nI (pQ bx nx 0 2) ≤ x
  · refine thr (fun m' s => ?_) ?_
    · unfold f_X8_meant
      by_cases c0 : x < 0
      · rw [if_pos c0]
      · have c1 : nI (pQ bx nx 0 2) ≤ x := bad.elim (fun z => absurd z c0) id
        rw [if_neg c0, ob_62, g_ift, s.1, R.1.2.2, if_pos c1]
    · unfold f_X7_meant
      rw [ob_0, g_ift, z.2.2.1, g_bs, g1, g_ift, r1, g_bs, g3, g_ift, hs, g_bs, g_nmb, g_nmb, if_pos bad, if_pos (rfl : (0 : Int32) = 0)]
  have c0 : ¬ x < 0 := fun c => bad (Or.inl c)
  have c1 : ¬ nI (pQ bx nx 0 2) ≤ x := fun c => bad (Or.inr c)
  obtain ⟨r, hr, rfl⟩ := i32_in (by omega) c0 c1
  have hs1 : f_X0_has gSH F (pg + 6) (nI r) m = some (1, m) := by rw [hs, if_neg bad]
  have mean := h.mean hr
  have hX : ∀ d, bm (m.2.1 104 r) d = true → d < 61 := fun d hd => by have := mean.2 d hd; omega
  have cc := bc_le (bm (m.2.1 104 r)) 64
  have ir : inB (nI r) 100 = true := g_inI (by omega) (by decide)
  by_cases d0 : y < 0
  · refine thr (fun m' s => ?_) ?_
    · unfold f_X8_meant
      rw [if_neg c0, ob_62, g_ift, s.1, R.1.2.2, if_neg c1, if_pos d0]
    · unfold f_X7_meant
      rw [ob_0, g_ift, z.2.2.1, g_bs, g1, g_ift, r1, g_bs, g3, g_ift, hs1, g_bs, g_nmb, g_nmb, if_neg one0, if_pos d0]
  have un : ∀ m' : gM, SB m m' → f_X8_meant gSH F 62 (nI r) y m' = if nI (bc 64 (bm (m.2.1 104 r))) ≤ y then b_X8_meant_47 gSH F 62 (nI r) y m' else b_X8_meant_48 gSH F 62 (nI r) y 1 m' := by
    intro m' s
    have p68 : m'.2.2 62 68 = some 104 := by rw [s.2.2]; exact h7.2.2.2.2.2.1.1
    unfold f_X8_meant b_X8_meant_36
    rw [if_neg c0, ob_62, g_ift, s.1, R.1.2.2, if_neg c1, if_neg d0, p68, g_bs, if_neg c0, if_pos (show nI r ≤ 100 from nI_le (b := 100) (by omega) (by decide)), show aB gSH 104 .long (nI r) = true from g_inI (N := 101) (by omega) (by decide), g_ift, nI_clamp (by omega), s.2.1 104 (by decide), s_many _ hF hX, g_bs, g_nmb, g_nmb]
  have st : f_X7_meant gSH F 0 (nI r) y m = if y < nI (bc 64 (bm (m.2.1 104 r))) then l_X7_meant_67 gSH F F y (m.2.1 104 r) 0 m else some (none, m) := by
    unfold f_X7_meant
    rw [ob_0, g_ift, z.2.2.1, g_bs, g1, g_ift, r1, g_bs, g3, g_ift, hs1, g_bs, g_nmb, g_nmb, if_neg one0, if_neg d0]
    dsimp only
    rw [z.2.2.2.2.1, g_bs, om, g_ift, M.2.1, g_bs, c2', ir, g_ift, nI_clamp (by omega), mean.1, s_bitCount, g_bs, g_nmb, g_nmb]
    dsimp only
    rw [z.2.2.2.2.1, g_bs, om, g_ift, M.2.1, g_bs, c2', ir, g_ift, mean.1, g_nmb]
  by_cases d1 : nI (bc 64 (bm (m.2.1 104 r))) ≤ y
  · refine thr (fun m' s => ?_) ?_
    · rw [un m' s, if_pos d1]
    · rw [st, if_neg (fun e => by
        rw [Int32.lt_iff_toInt_lt] at e
        rw [Int32.le_iff_toInt_le] at d1
        omega)]
  obtain ⟨i, hi, rfl⟩ := i32_in (by omega) d0 d1
  obtain ⟨d, w1, w2, w3⟩ := nth_ex 64 hi
  refine ⟨some (nI d), ?_, fun m' s => ⟨nI d, 0, ?_, Or.inr ⟨rfl, rfl⟩⟩⟩
  · rw [st, if_pos (nI_lt hi (by omega))]
    exact s_meantC (by omega) w1 w2 w3 i F 0 _ (by omega) (by omega) (fun d' _ => by simp)
  · have pp : PTR (gsI m' 62 0 0) := h7.eq (by rw [gI_2]; exact s.2.2)
    have e104 : (gsI m' 62 0 0).2.1 104 r = m.2.1 104 r := by rw [gI_2, s.2.1 104 (by decide)]
    rw [un m' s, if_neg d1]
    unfold b_X8_meant_48
    rw [ob_62, g_ift, s_fails1, g_bs, g_nmb, g_nmb, if_pos (rfl : (0 : Int32) = 0)]
    exact s_meantR pp (by omega) (show i < 64 by omega) w1 (by rw [e104]; exact w2) (by rw [e104]; exact w3) (d + 1) F 0 (by omega) (by omega)
end JNT
