/-! THE OBJECT'S RENAME: all of it -/
section ORN
variable {F tp tx pg df mn tr : Nat} {m m' : gM} {bt bx : Nat → Nat} {nt nx f : Nat}
/-- from the trial to the end -/
def oTail (F : Nat) (d : Int32) (g : Int64) (v23 : Int32) (m39 : gM) : Option (Option Int32 × gM) := (m39.2.2 0 5).bind (fun t41 => (m39.2.2 0 4).bind (fun t42 => g_if (oB gSH t41 1) ((f_X1_agreesWith gSH F t41 t42 v23 m39).bind (fun q46 => nm q46.1 (fun r45 => nm q46.2 (fun m44 => if r45 = 0 then (some (some (-3), m44)) else ((f_J13_bitCount_95d88 gSH F g m44).bind (fun q50 => nm q50.1 (fun r49 => nm q50.2 (fun m48 => (m48.2.2 0 4).bind (fun t51 => g_if (oB gSH t51 1) ((f_X1_usersOf gSH F t51 g v23 m48).bind (fun q55 => nm q55.1 (fun r54 => nm q55.2 (fun m53 => nm (r49 + r54) (fun v56 => (m53.2.2 0 2).bind (fun t57 => g_if (oB gSH t57 2) ((m53.2.2 t57 0).bind (fun t59 => g_if (oB gSH t59 0) ((f_X0_lengthOf gSH F t59 d m53).bind (fun q63 => nm q63.1 (fun r62 => nm q63.2 (fun m61 => (m61.2.2 0 1).bind (fun t64 => g_if (oB gSH t64 5) (if ((m61.1 t64 1) + (v56 * ((m61.1 56 2) - r62))) ≤ (4000 : Int32) then ((f_X7_writeNewText gSH F 0 g r62 56 m61).bind (fun m67 => (f_X7_swapTapes gSH F 0 m67).bind (fun m69 => (m69.2.2 0 0).bind (fun t71 => g_if (oB gSH t71 5) (nm (gsI m69 t71 1 0) (fun m73 => (m73.2.2 0 4).bind (fun t74 => (m73.2.2 0 5).bind (fun t75 => nm (gsR m73 0 4 (some t75)) (fun m76 => nm (gsR m76 0 5 (some t74)) (fun m77 => some (some v56, m77))))))))))) else (some (some (-4), m61)))))))))))))))))))))))))))
theorem o_head (h : OB m tp tx pg df mn tr bt nt bx nx f) {d : Nat} (hd : d < pQ bx nx 0 1) {g : Int64} {m1 m2 m3 : gM} {v : Int32} (a1 : f_X6_areJustOneName gSH F 56 tp m = some (v, m1)) (k1 : gKeep (fun k => k ≠ 56) m m1) (r1 : m1.2.2 = m.2.2) : (v = 0 → f_X7_rename gSH F 0 (nI d) m = some (some (-2), m1)) ∧ (v = 1 → f_X1_friendsOf gSH F mn (nI d) (nI (pQ bx nx 0 2)) m1 = some (g, m1) → f_X1_supposeName gSH F tr pg mn g 56 m1 = some m2 → m2.2.2 = m1.2.2 → f_X4_resolve gSH F 60 pg tr m2 = some m3 → f_X7_rename gSH F 0 (nI d) m = oTail F (nI d) g (nI (pQ bx nx 0 2)) m3) := by
  obtain ⟨h1, ⟨z, o1, o2, o3⟩, h3, h4, ⟨k1', C, k3, k4⟩, h6⟩ := h
  have hpg : pg = 5 ∨ pg = 25 := by omega
  have hmn : mn = 45 ∨ mn = 50 := by omega
  have htr : tr = 45 ∨ tr = 50 := by omega
  obtain ⟨g1, g2, g3, -⟩ := gP hpg
  have om := (gMn hmn).1
  have ot := (gMn htr).1
  have l1 := (pQ_ok k1').1.1.1.2.2.1
  have P : PR m.2.2 pg := h1.pr hpg
  have hh := s_hasM (F := F) g2 (show pQ bx nx 0 1 < 2 ^ 31 by omega) C.1.2.1 (nI d)
  rw [if_neg (fun z => z.elim (nI_pos (by omega)) (nI_ge hd (by omega)))] at hh
  have c4 : m1.1 (pg + 6) 4 = nI (pQ bx nx 0 2) := by rw [(k1 (pg + 6) (by omega)).1]; exact C.1.2.2.1
  obtain ⟨z0, z1, z2, z3, z4, z5, z6, z7⟩ := z
  have p55 := h1.2.2.2.1.1
  constructor
  · intro v0
    unfold f_X7_rename
    rw [ob_0, g_ift, z2, g_bs, g1, g_ift, P.1, g_bs, g2, g_ift, hh, g_bs, g_nmb, g_nmb, if_neg one0]
    dsimp only
    rw [z6, g_bs, ob_55, g_ift, p55, g_bs, z0, g_bs, ob_56, g_ift, a1, g_bs, g_nmb, g_nmb, if_pos v0]
  · intro v1 b1 b2 r2 b3
    unfold f_X7_rename
    rw [ob_0, g_ift, z2, g_bs, g1, g_ift, P.1, g_bs, g2, g_ift, hh, g_bs, g_nmb, g_nmb, if_neg one0]
    dsimp only
    rw [z6, g_bs, ob_55, g_ift, p55, g_bs, z0, g_bs, ob_56, g_ift, a1, g_bs, g_nmb, g_nmb, if_neg (show ¬ v = 0 by rw [v1]; decide)]
    dsimp only
    rw [r1, z2, g_bs, g1, g_ift, P.2.1, g_bs, g3, g_ift, g_nmb, c4, z4, g_bs, om, g_ift, b1, g_bs, g_nmb, g_nmb]
    dsimp only
    rw [r1, z5, g_bs, z2, g_bs, z4, g_bs, ot, g_ift, b2, g_bs, r2, r1, z7, g_bs, z2, g_bs, z5, g_bs, ob_60, g_ift, b3, g_bs]
    rfl
theorem o_tail (hF : 5000 ≤ F) {m3 : gM} (h : OB m3 tp tx pg df mn tr bt nt bx nx f) {d : Nat} (hd : d < pQ bx nx 0 1) {g : Int64} {X : Nat → Int64} (hc : Nme bt nt) (hX : ∀ r, r < pQ bx nx 0 2 → m3.2.1 (mn + 2) r = X r) (hg : ∀ x, bm g x = true → x < pQ bx nx 0 1) (h3 : m3.2.1 56 3 = nmH bt 0 nt) (h4 : m3.2.1 56 4 = nmL bt 0 nt) (h5 : m3.1 56 2 = nI nt) (T : ∀ r, r < pQ bx nx 0 2 → m3.2.1 (tr + 1) r = bs (pQ bx nx 0 1) (nkN bx nx g X bt nt r)) (MT : ∀ r, r < pQ bx nx 0 2 → MNr (pQ bx nx) (nkN bx nx g X bt nt) tr m3 r) (hla : ∀ t, t < pE bx nx → uT (pQ bx nx) g X t = true → kL bx nx t = kL bx nx (pQ bx nx 4 d)) :
    ∃ o m6, oTail F (nI d) g (nI (pQ bx nx 0 2)) m3 = some (o, m6) ∧ KU m3 m6 ∧ ((o = some (-3) ∧ m6 = m3 ∧ ¬ ∀ r, r < pQ bx nx 0 2 → m3.2.1 (tr + 2) r = X r) ∨ ((∀ r, r < pQ bx nx 0 2 → m3.2.1 (tr + 2) r = X r) ∧ ((o = some (-4) ∧ m6 = m3 ∧ 4000 < nwN bx nx (uT (pQ bx nx) g X) nt) ∨ (o = some (nI (bc (pQ bx nx 0 1) (bm g) + bc (pQ bx nx 0 2) (fun r => decide (X r &&& g ≠ 0)))) ∧ nwN bx nx (uT (pQ bx nx) g X) nt ≤ 4000 ∧ OB m6 tx tp pg df tr mn bx 0 (nwB bx nx (uT (pQ bx nx) g X) bt nt) (nwN bx nx (uT (pQ bx nx) g X) nt) f)))) := by
  obtain ⟨h1, h2, h3t, h4t, ⟨pk, C, k3, k4⟩, h6⟩ := id h
  obtain ⟨z, o1, o2, o3⟩ := id h2
  obtain ⟨z0, z1, z2, z3, z4, z5, z6, z7⟩ := id z
  have hpg : pg = 5 ∨ pg = 25 := by omega
  have hmn : mn = 45 ∨ mn = 50 := by omega
  have htr : tr = 45 ∨ tr = 50 := by omega
  obtain ⟨g1, g2, g3, -⟩ := gP hpg
  have om := (gMn hmn).1
  have ot := (gMn htr).1
  have l1 := (pQ_ok pk).1.1.1.2.2.1
  have l2 := (pQ_ok pk).1.1.1.2.2.2.1
  have P : PR m3.2.2 pg := h1.pr hpg
  have M := (h1.mr hmn).2.1
  have Tt := (h1.mr htr).2.1
  have otx : oB gSH tx 5 = true := (ob_tape h4t.1).1
  have otp : oB gSH tp 5 = true := (ob_tape h3t.1).1
  have tkd := tok_d pk hd
  have la12 := (tok_name pk tkd.1 tkd.2).1
  have la1 := (tok_in pk tkd.1).2.1
  have n4 := pk.2.1
  have hU := uT_k (g := g) (X := X) pk
  obtain ⟨v, a1, a2⟩ := s_agrees (F := F) htr hmn Tt M l2 hF
  have agr : (∀ r', r' < pQ bx nx 0 2 → m3.2.1 (tr + 2) r' = m3.2.1 (mn + 2) r') ↔ ∀ r, r < pQ bx nx 0 2 → m3.2.1 (tr + 2) r = X r := by
    constructor
    · intro w r hr
      rw [w r hr, hX r hr]
    · intro w r hr
      rw [w r hr, hX r hr]
  rcases a2 with ⟨v1, a2⟩ | ⟨v0, a2⟩
  · have us := s_usersOf (F := F) hmn M hF l2 g
    rw [bc_cong (p' := fun r => decide (X r &&& g ≠ 0)) _ (fun r hr => by rw [hX r hr])] at us
    have bcg : bc 64 (bm g) = bc (pQ bx nx 0 1) (bm g) := by
      have e := bc_top hg (64 - pQ bx nx 0 1)
      rw [show pQ bx nx 0 1 + (64 - pQ bx nx 0 1) = 64 by omega] at e
      exact e
    have lo := s_lengthOf (F := F) pk hF hpg P C hd
    have cnt := nwN_cnt (l := nt) pk hla
    rw [uT_cnt pk] at cnt
    have lt := len_test cnt
    have st : oTail F (nI d) g (nI (pQ bx nx 0 2)) m3 = (if nI (nwN bx nx (uT (pQ bx nx) g X) nt) ≤ (4000 : Int32) then ((f_X7_writeNewText gSH F 0 g (nI (kL bx nx (pQ bx nx 4 d))) 56 m3).bind (fun m67 => (f_X7_swapTapes gSH F 0 m67).bind (fun m69 => (m69.2.2 0 0).bind (fun t71 => g_if (oB gSH t71 5) (nm (gsI m69 t71 1 0) (fun m73 => (m73.2.2 0 4).bind (fun t74 => (m73.2.2 0 5).bind (fun t75 => nm (gsR m73 0 4 (some t75)) (fun m76 => nm (gsR m76 0 5 (some t74)) (fun m77 => some (some (nI (bc (pQ bx nx 0 1) (bm g) + bc (pQ bx nx 0 2) (fun r => decide (X r &&& g ≠ 0)))), m77))))))))))) else (some (some (-4), m3))) := by
      unfold oTail
      rw [z5, g_bs, z4, g_bs, ot, g_ift, a1, g_bs, g_nmb, g_nmb, if_neg (show ¬ v = 0 by rw [v1]; decide)]
      dsimp only
      rw [s_bitCount, g_bs, g_nmb, g_nmb]
      dsimp only
      rw [z4, g_bs, om, g_ift, us, g_bs, g_nmb, g_nmb, g_nmb]
      dsimp only
      rw [z2, g_bs, g1, g_ift, P.1, g_bs, g2, g_ift, lo, g_bs, g_nmb, g_nmb]
      dsimp only
      rw [z1, g_bs, otx, g_ift, h4t.2.2.1, h5, bcg, nI_add, lt]
    have nl : nwN bx nx (uT (pQ bx nx) g X) nt < 2 ^ 31 := by
      have b1 := bc_le (bm g) (pQ bx nx 0 1)
      have b2 := bc_le (fun r => decide (X r &&& g ≠ 0)) (pQ bx nx 0 2)
      have n12 := hc.2.1
      have : nt * (bc (pQ bx nx 0 1) (bm g) + bc (pQ bx nx 0 2) (fun r => decide (X r &&& g ≠ 0))) ≤ 12 * 160 := Nat.mul_le_mul n12 (by omega)
      omega
    by_cases fit : nwN bx nx (uT (pQ bx nx) g X) nt ≤ 4000
    · rw [if_pos (show nI (nwN bx nx (uT (pQ bx nx) g X) nt) ≤ 4000 from nI_le (b := 4000) fit (by decide))] at st
      have W := wp_of (b := bx) (n := nx) (c := bt) (l := nt) pk hc hla la12 fit
      have T0 : TapC (gsI m3 tp 1 0) tp (nwB bx nx (uT (pQ bx nx) g X) bt nt) 0 := ⟨h3t.1, h3t.2.1, by rw [gI_1, if_pos ⟨rfl, rfl⟩]; rfl, by omega, fun i hi => absurd hi (Nat.not_lt_zero _)⟩
      have T1 : TapC (gsI m3 tp 1 0) tx bx nx := h4t.k' (gsI_ne (by omega)) (gsI_ne (by omega)) rfl
      have ord := (pQ_ok pk).2.1
      have kD : ∀ d, d < pQ bx nx 0 1 → kS bx nx (pQ bx nx 4 d) < nx := fun d hd => (tok_in pk (tok_d pk hd).1).1
      have kR : ∀ d, d < pQ bx nx 0 2 → kS bx nx (pQ bx nx 7 d) < nx := fun d hd => (tok_in pk (tok_r pk hd).1).1
      have mono : ∀ t t', t < t' → t' < pE bx nx → kS bx nx t < kS bx nx t' := fun t t' a b => by
        have x := tok_mono pk a (by omega)
        have y := (tok_in pk (show t < pE bx nx by omega)).2.1
        omega
      have wr1 : WR (gsI m3 tp 1 0) (pg + 1) (pQ bx nx 0 1) (fun d => kS bx nx (pQ bx nx 4 d)) (np bx nx (uT (pQ bx nx) g X) nt) (fun d => kH bx nx (pQ bx nx 4 d)) (fun d => kW bx nx (pQ bx nx 4 d)) (bm g) (nmH bt 0 nt) (nmL bt 0 nt) 0 := by
        refine ⟨by rw [gsI_ne (by omega)]; exact C.1.2.1, fun d hd => ⟨fun x => absurd x (Nat.not_lt_zero _), fun _ => ?_⟩⟩
        have a := C.2.2.1 d hd
        rw [gsI_ne (by omega)]
        exact ⟨a.2.1, a.2.2.1, a.2.2.2.1⟩
      have wr2 : WR (gsI m3 tp 1 0) (pg + 6) (pQ bx nx 0 2) (fun d => kS bx nx (pQ bx nx 7 d)) (np bx nx (uT (pQ bx nx) g X) nt) (fun d => kH bx nx (pQ bx nx 7 d)) (fun d => kW bx nx (pQ bx nx 7 d)) (fun r => decide (X r &&& g ≠ 0)) (nmH bt 0 nt) (nmL bt 0 nt) 0 := by
        refine ⟨by rw [gsI_ne (by omega)]; exact C.1.2.2.1, fun d hd => ⟨fun x => absurd x (Nat.not_lt_zero _), fun _ => ?_⟩⟩
        have a := C.2.2.2.1 d hd
        rw [gsI_ne (by omega)]
        exact ⟨a.2.1, a.2.2.1, a.2.2.2.1⟩
      obtain ⟨m4, w1, w2, w3, w4, w5⟩ := s_writeL (F := F) (m := gsI m3 tp 1 0) (g := g) (X := X) (nD := pQ bx nx 0 1) (nR := pQ bx nx 0 2) (sD := fun d => kS bx nx (pQ bx nx 4 d)) (sR := fun d => kS bx nx (pQ bx nx 7 d)) (HD := fun d => kH bx nx (pQ bx nx 4 d)) (LD := fun d => kW bx nx (pQ bx nx 4 d)) (HR := fun d => kH bx nx (pQ bx nx 7 d)) (LR := fun d => kW bx nx (pQ bx nx 7 d)) W hF hpg hmn o1 z0 z1 z4 M P T1 h3 h4 l1 l2 hX kD kR (fun d d' a b => mono _ _ (ord.2.2.1 d d' a b) (tok_d pk b).1) (fun d d' a b => mono _ _ (ord.2.2.2.1 d d' a b) (tok_r pk b).1) (fun d r a b e => ord.2.2.2.2 d r a b (tok_inj pk (tok_d pk a).1 (tok_r pk b).1 e)) (wS_iff pk) nx F 0 0 0 0 (gsI m3 tp 1 0) (by omega) (by omega) (KW.refl _) T0 wr1 wr2 ⟨Nat.zero_le _, fun d hd => absurd hd (Nat.not_lt_zero _), fun d _ _ => Nat.zero_le _⟩ ⟨Nat.zero_le _, fun d hd => absurd hd (Nat.not_lt_zero _), fun d _ _ => Nat.zero_le _⟩ ⟨by omega, fun j _ => ⟨fun x => absurd x (Nat.not_lt_zero _), fun ⟨s, a, _⟩ => absurd a (Nat.not_lt_zero _)⟩⟩
      have wt : f_X7_writeNewText gSH F 0 g (nI (kL bx nx (pQ bx nx 4 d))) 56 m3 = some m4 := by
        unfold f_X7_writeNewText
        rw [ob_0, g_ift, z2, g_bs, g1, g_ift, P.1, g_bs, g_bs, g1, g_ift, P.2.1, g_bs, z0, g_bs, otp, g_ift, g_nmb]
        exact w1
      have r4 : m4.2.2 = m3.2.2 := w2.2.2
      obtain ⟨m6, s1, s2, s3, s4, s5, s6, s7⟩ := o_swap (F := F) (tp := tp) (tx := tx) (pg := pg) (df := df) (mn := mn) (tr := tr) m4 (by rw [r4]; exact z) otx (nI (bc (pQ bx nx 0 1) (bm g) + bc (pQ bx nx 0 2) (fun r => decide (X r &&& g ≠ 0))))
      have i6 : ∀ c, c ≠ tp → c ≠ tp + 1 → c ≠ tx → c ≠ pg + 3 → c ≠ pg + 8 → m6.1 c = m3.1 c := fun c q1 q2 q3 q4 q5 => by
        rw [s2 c q3, w2.1 c q1 q2 q4 q5, gsI_ne q1]
      have j6 : ∀ c, c ≠ tp → c ≠ tp + 1 → c ≠ pg + 4 → c ≠ pg + 5 → c ≠ pg + 9 → c ≠ pg + 10 → m6.2.1 c = m3.2.1 c := fun c q1 q2 q3 q4 q5 q6 => by
        rw [s5, w2.2.1 c q1 q2 q3 q4 q5 q6]
        rfl
      have ep : pQ (nwB bx nx (uT (pQ bx nx) g X) bt nt) (nwN bx nx (uT (pQ bx nx) g X) nt) = pQ bx nx := by
        unfold pQ
        rw [nt_run pk hc (by exact hU)]
      refine ⟨_, m6, by rw [st, wt, g_bs]; exact s1, fun c hc' => ⟨i6 c (by omega) (by omega) (by omega) (by omega) (by omega), j6 c (by omega) (by omega) (by omega) (by omega) (by omega) (by omega), by rw [s6 c (by omega), r4]⟩, Or.inr ⟨agr.mp a2, Or.inr ⟨rfl, fit, ?_⟩⟩⟩
      refine ⟨h1.kk (fun c x _ => by rw [s6 c x, r4]) (by rw [s6 60 (by decide), r4]), ⟨s7, by omega, o2, by omega⟩, ?_, ?_, ⟨nt_ok pk hc hU fit, ?_, ?_, ?_⟩, ?_⟩
      · exact ⟨h4t.1, by rw [s6 tx (by omega), r4]; exact h4t.2.1, s3, by omega, fun i hi => absurd hi (Nat.not_lt_zero _)⟩
      · exact w3.k' (s2 tp (by omega)) (s2 (tp + 1) (by omega)) (s6 tp (by omega))
      · rw [ep]
        refine C.new (fun c q1 q2 q3 q4 => i6 c (by omega) (by omega) (by omega) q3 q4) (j6 _ (by omega) (by omega) (by omega) (by omega) (by omega) (by omega)) (fun d hd => ?_) (fun r hr => ?_)
        · have y := ((w4.2 d hd).1 hd)
          have nm' := nt_nm pk hc hU (tok_d pk hd).1
          rw [uT_d pk hd] at nm'
          rw [s5, s2 (pg + 3) (by omega), (nt_tok pk hc hU (Nat.le_of_lt (tok_d pk hd).1)).1, nm'.1, nm'.2]
          exact y
        · have y := ((w5.2 r hr).1 hr)
          have nm' := nt_nm pk hc hU (tok_r pk hr).1
          have ur : uT (pQ bx nx) g X (pQ bx nx 7 r) = decide (X r &&& g ≠ 0) := by
            have := uT_r (g := g) (X := X) pk hr
            cases u1 : uT (pQ bx nx) g X (pQ bx nx 7 r)
            · exact (decide_eq_false (fun w => by rw [this.mpr w] at u1; cases u1)).symm
            · exact (decide_eq_true (this.mp u1)).symm
          rw [ur] at nm'
          rw [s5, s2 (pg + 8) (by omega), (nt_tok pk hc hU (Nat.le_of_lt (tok_r pk hr).1)).1, nm'.1, nm'.2]
          exact y
      · intro r hr
        rw [ep] at hr
        rw [j6 (tr + 1) (by omega) (by omega) (by omega) (by omega) (by omega) (by omega), ep]
        exact T r hr
      · intro r hr
        rw [ep] at hr
        rw [ep]
        exact (MT r hr).k (j6 _ (by omega) (by omega) (by omega) (by omega) (by omega) (by omega)) (i6 _ (by omega) (by omega) (by omega) (by omega) (by omega)) (i6 _ (by omega) (by omega) (by omega) (by omega) (by omega))
      · rw [i6 0 (by omega) (by omega) (by omega) (by omega) (by omega)]
        exact h6
    · rw [if_neg (show ¬ nI (nwN bx nx (uT (pQ bx nx) g X) nt) ≤ 4000 from nI_ge (a := 4000) (by omega) nl)] at st
      exact ⟨_, m3, st, fun c _ => ⟨rfl, rfl, rfl⟩, Or.inr ⟨agr.mp a2, Or.inl ⟨rfl, rfl, by omega⟩⟩⟩
  · refine ⟨some (-3), m3, ?_, fun c _ => ⟨rfl, rfl, rfl⟩, Or.inl ⟨rfl, rfl, fun w => a2 (agr.mpr w)⟩⟩
    unfold oTail
    rw [z5, g_bs, z4, g_bs, ot, g_ift, a1, g_bs, g_nmb, g_nmb, if_pos v0]
end ORN
