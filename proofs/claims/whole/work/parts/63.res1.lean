/-! THE CLASS'S RESOLVER: what some declarations own, what a scope imports -/
theorem bc_del {p : Nat → Bool} {k : Nat} (hk : p k = true) : ∀ n, k < n → bc n (fun d => p d && decide (d ≠ k)) + 1 = bc n p := by
  have lo : ∀ n, n ≤ k → bc n (fun d => p d && decide (d ≠ k)) = bc n p := fun n hn => bc_cong n (fun d hd => by
    have : d ≠ k := by omega
    simp [this])
  intro n
  induction n with
  | zero => intro h; omega
  | succ n ih =>
    intro h
    unfold bc
    by_cases c : n = k
    · subst c
      rw [lo n (Nat.le_refl _)]
      simp [hk]
    · have a := ih (by omega)
      have e : (p n && decide (n ≠ k)) = p n := by simp [c]
      show bc n (fun d => p d && decide (d ≠ k)) + (if (p n && decide (n ≠ k)) = true then 1 else 0) + 1 = bc n p + (if p n = true then 1 else 0)
      rw [e]
      omega
theorem bc_F : ∀ n, bc n (fun _ => false) = 0 := by
  intro n
  induction n with
  | zero => rfl
  | succ n ih =>
    unfold bc
    rw [ih]
    rfl
theorem bc_0 {x : Int64} (h : bc 64 (bm x) = 0) : x = 0 := by
  have key : ∀ n, bc n (bm x) = 0 → ∀ d, d < n → bm x d = false := by
    intro n
    induction n with
    | zero => intro _ d hd; omega
    | succ n ih =>
      intro h d hd
      unfold bc at h
      by_cases c : d = n
      · subst c
        cases e : bm x d with
        | false => rfl
        | true => simp [e] at h
      · exact ih (by omega) d (by omega)
  apply bm_ext
  intro d hd
  rw [bm_0]
  exact key 64 h d hd
section RES
variable {pg mn F : Nat} {m : gM} {q : Nat → Nat → Nat} {S : Nat → Nat} {H L : Nat → Int64} {nk : Nat → Nat → Bool}
theorem nI_m1' {n : Nat} (h : n < 2 ^ 31) : (nI n - 1 = -1) ↔ n = 0 := by
  constructor
  · intro e
    by_cases c : n = 0
    · exact c
    · rw [nI_p1 (by omega)] at e
      exact absurd e (nI_m1 (by omega))
  · intro e
    subst e
    decide
theorem s_ownedL (hpg : pg = 5 ∨ pg = 25) (P : PR m.2.2 pg) (h : CPr pg m q S H L) (hS : aS q) : ∀ (k N n : Nat) (left acc : Int64), bc 64 (bm left) = k → n + k ≤ 64 → k < N → (∀ d, bm left d = true → d < q 0 1) →
    ∃ R, l_X2_ownedBy_8 gSH F N pg left acc (nI n) m = some (R, m) ∧ ∀ u, u < 64 → (bm R u = true ↔ bm acc u = true ∨ ∃ d, bm left d = true ∧ q 5 d = u + 1) := by
  obtain ⟨o1, o2, o3, b2, b3, b4, b5, b7, b8, b9, b10, b11, b12, b13, b14, b15, b16, b17, b18, b19, l3, l8⟩ := gP hpg
  have r6 := P.2.2.2.2.2.2.1
  have hD := hS.1.2.2.1
  intro k
  induction k with
  | zero =>
    intro N n left acc hk hn hN hl
    obtain ⟨N, rfl⟩ : ∃ N', N = N' + 1 := ⟨N - 1, by omega⟩
    have e := bc_0 hk
    subst e
    refine ⟨acc, ?_, fun u hu => ⟨Or.inl, fun h => ?_⟩⟩
    · show b_X2_ownedBy_8 gSH F (l_X2_ownedBy_8 gSH F N) pg 0 acc (nI n) m = _
      unfold b_X2_ownedBy_8
      rw [if_pos (rfl : (0 : Int64) = 0), ite_self]
    · rcases h with h | ⟨d, h, -⟩
      · exact h
      · rw [bm_0] at h
        cases h
  | succ k ih =>
    intro N n left acc hk hn hN hl
    obtain ⟨N, rfl⟩ : ∃ N', N = N' + 1 := ⟨N - 1, by omega⟩
    have hne : left ≠ 0 := fun e => by
      subst e
      rw [bc_cong (p' := fun _ => false) 64 (fun d _ => bm_0 d), bc_F] at hk
      omega
    obtain ⟨c, c1, c2, c3⟩ := bm_ne hne
    have hc := hl c c2
    have own := (h.2.2.1 c hc).2.2.2.2
    have c5 := (hS.2.2.1 c hc).2
    have l0 := hS.1.2.1
    have hk' : bc 64 (bm (left &&& (left - 1))) = k := by
      rw [bc_cong (p' := fun d => bm left d && decide (d ≠ c)) 64 (fun d hd => bm_rest c2 c3 hd)]
      have := bc_del c2 64 c1
      omega
    have hl' : ∀ d, bm (left &&& (left - 1)) d = true → d < q 0 1 := fun d hd => by
      rw [bm_and] at hd
      simp at hd
      exact hl d hd.1
    have eb : ∀ y, b_X2_ownedBy_48 gSH F (l_X2_ownedBy_8 gSH F N) pg left (nI n) y acc m = l_X2_ownedBy_8 gSH F N pg (left &&& (left - 1)) (acc ||| y) (nI (n + 1)) m := fun y => by
      unfold b_X2_ownedBy_48
      rw [g_nmb, g_nmb, g_nmb, nI_a1]
    have e : l_X2_ownedBy_8 gSH F (N + 1) pg left acc (nI n) m = l_X2_ownedBy_8 gSH F N pg (left &&& (left - 1)) (acc ||| (if q 5 c = 0 then 0 else bl (q 5 c - 1))) (nI (n + 1)) m := by
      show b_X2_ownedBy_8 gSH F (l_X2_ownedBy_8 gSH F N) pg left acc (nI n) m = _
      unfold b_X2_ownedBy_8
      rw [if_neg (show ¬ (64 : Int32) ≤ nI n from nI_ge (b := 64) (by omega) (by decide)), if_neg hne, o1, g_ift, r6, g_bs, s_lowest c1 c2 c3, g_bs, g_nmb, g_nmb, b15, g_inI c1 (by decide), g_ift, g_nmb, nI_clamp (by omega), own, eb, eb]
      by_cases z : q 5 c = 0
      · rw [if_pos ((nI_m1' (by omega)).mpr z), if_pos z]
      · rw [if_neg (fun x => z ((nI_m1' (by omega)).mp x)), if_neg z, nI_p1 (by omega)]
        rfl
    obtain ⟨R, g1, g2⟩ := ih N (n + 1) (left &&& (left - 1)) (acc ||| (if q 5 c = 0 then 0 else bl (q 5 c - 1))) hk' (by omega) (by omega) hl'
    refine ⟨R, e.trans g1, fun u hu => ?_⟩
    rw [g2 u hu, bm_or]
    have hb : bm (if q 5 c = 0 then 0 else bl (q 5 c - 1)) u = true ↔ q 5 c = u + 1 := by
      by_cases z : q 5 c = 0
      · rw [if_pos z, bm_0, z]
        constructor
        · intro h; cases h
        · intro h; omega
      · rw [if_neg z, bm_bl (by omega), decide_eq_true_eq]
        omega
    rw [Bool.or_eq_true, hb]
    constructor
    · rintro ((h1 | h1) | ⟨d, h1, h2⟩)
      · exact Or.inl h1
      · exact Or.inr ⟨c, c2, h1⟩
      · rw [bm_and, Bool.and_eq_true] at h1
        exact Or.inr ⟨d, h1.1, h2⟩
    · rintro (h1 | ⟨d, h1, h2⟩)
      · exact Or.inl (Or.inl h1)
      · by_cases z : d = c
        · subst z
          exact Or.inl (Or.inr h2)
        · refine Or.inr ⟨d, ?_, h2⟩
          have hd := hl d h1
          rw [bm_rest c2 c3 (by omega)]
          simp [h1, z]
theorem s_ownedBy (hpg : pg = 5 ∨ pg = 25) (P : PR m.2.2 pg) (h : CPr pg m q S H L) (hS : aS q) (hF : 5000 ≤ F) {x : Int64} (hl : ∀ d, bm x d = true → d < q 0 1) :
    ∃ R, f_X2_ownedBy gSH F pg x m = some (R, m) ∧ ∀ u, u < 64 → (bm R u = true ↔ ∃ d, bm x d = true ∧ q 5 d = u + 1) := by
  have c := bc_le (bm x) 64
  obtain ⟨R, g1, g2⟩ := s_ownedL (F := F) hpg P h hS (bc 64 (bm x)) F 0 x 0 rfl (by omega) (by omega) hl
  refine ⟨R, g1, fun u hu => ?_⟩
  rw [g2 u hu, bm_0]
  constructor
  · rintro (h | h)
    · cases h
    · exact h
  · exact Or.inr
/-- the resolver's references -/
def Rz (m : gM) (pg mn : Nat) : Prop := m.2.2 60 0 = some 61 ∧ m.2.2 60 1 = some pg ∧ m.2.2 60 2 = some mn
theorem ob_60 : oB gSH 60 4 = true := by decide +kernel
theorem s_impL (z0 : m.2.2 60 0 = some 61) {b : Nat} (hb : b < 64) {v : Int32} : ∀ (k N i : Nat) (acc : Int64), i + k = 6 → k < N →
    ∃ R, l_X4_importedBy_20 gSH F N 60 (nI b) v acc (nI i) m = some (R, m) ∧ ∀ u, (bm R u = true ↔ bm acc u = true ∨ ∃ j, i ≤ j ∧ j < 6 ∧ cm v j = true ∧ bm (m.2.1 61 (b * 6 + j)) u = true) := by
  intro k
  induction k with
  | zero =>
    intro N i acc hi hN
    obtain ⟨N, rfl⟩ : ∃ N', N = N' + 1 := ⟨N - 1, by omega⟩
    refine ⟨acc, ?_, fun u => ⟨Or.inl, fun h => ?_⟩⟩
    · show b_X4_importedBy_20 gSH F (l_X4_importedBy_20 gSH F N) 60 (nI b) v acc (nI i) m = _
      unfold b_X4_importedBy_20
      rw [if_pos (show (6 : Int32) ≤ nI i from nI_le (a := 6) (by omega) (by omega))]
    · rcases h with h | ⟨j, h1, h2, -⟩
      · exact h
      · omega
  | succ k ih =>
    intro N i acc hi hN
    obtain ⟨N, rfl⟩ : ∃ N', N = N' + 1 := ⟨N - 1, by omega⟩
    have eb : ∀ y, b_X4_importedBy_61 gSH F (l_X4_importedBy_20 gSH F N) 60 (nI b) v (nI i) y acc m = l_X4_importedBy_20 gSH F N 60 (nI b) v (acc ||| y) (nI (i + 1)) m := fun y => by
      unfold b_X4_importedBy_61
      rw [g_nmb, g_nmb, nI_a1]
    have eu : l_X4_importedBy_20 gSH F (N + 1) 60 (nI b) v acc (nI i) m = if v >>> (nI i &&& 31) = 0 then some (acc, m) else if cm v i = false then l_X4_importedBy_20 gSH F N 60 (nI b) v (acc ||| 0) (nI (i + 1)) m else l_X4_importedBy_20 gSH F N 60 (nI b) v (acc ||| m.2.1 61 (b * 6 + i)) (nI (i + 1)) m := by
      show b_X4_importedBy_20 gSH F (l_X4_importedBy_20 gSH F N) 60 (nI b) v acc (nI i) m = _
      unfold b_X4_importedBy_20
      rw [if_neg (show ¬ (6 : Int32) ≤ nI i from nI_ge (b := 6) (by omega) (by decide)), eb, ob_60, g_ift, z0, g_bs, show nI b * (6 : Int32) + nI i = nI (b * 6 + i) by rw [show (6 : Int32) = nI 6 from rfl, pk_mul, nI_add], show aB gSH 61 .long (nI (b * 6 + i)) = true from g_inI (N := 384) (by omega) (by decide), g_ift, nI_clamp (by omega), eb]
      by_cases c0 : v >>> (nI i &&& 31) = 0
      · rw [if_pos c0, if_pos c0]
      · rw [if_neg c0, if_neg c0]
        by_cases c : cm v i = false
        · rw [if_pos ((cm_sh (by omega)).mpr c), if_pos c]
        · rw [if_neg (fun x => c ((cm_sh (by omega)).mp x)), if_neg c]
    rw [eu]
    by_cases c0 : v >>> (nI i &&& 31) = 0
    · rw [if_pos c0]
      refine ⟨acc, rfl, fun u => ⟨Or.inl, fun h => ?_⟩⟩
      rcases h with h | ⟨j, h1, h2, h3, -⟩
      · exact h
      · rw [cm_sh0 (by omega) c0 j h1 (by omega)] at h3
        cases h3
    rw [if_neg c0]
    by_cases c : cm v i = false
    · rw [if_pos c]
      obtain ⟨R, g1, g2⟩ := ih N (i + 1) (acc ||| 0) (by omega) (by omega)
      refine ⟨R, g1, fun u => ?_⟩
      rw [g2 u, bm_or, bm_0, Bool.or_false]
      constructor
      · rintro (h | ⟨j, h1, h2, h3⟩)
        · exact Or.inl h
        · exact Or.inr ⟨j, by omega, h2, h3⟩
      · rintro (h | ⟨j, h1, h2, h3, h4⟩)
        · exact Or.inl h
        · by_cases e : j = i
          · rw [e, c] at h3
            cases h3
          · exact Or.inr ⟨j, by omega, h2, h3, h4⟩
    · rw [if_neg c]
      have c' : cm v i = true := by
        cases e : cm v i
        · exact absurd e c
        · rfl
      obtain ⟨R, g1, g2⟩ := ih N (i + 1) (acc ||| m.2.1 61 (b * 6 + i)) (by omega) (by omega)
      refine ⟨R, g1, fun u => ?_⟩
      rw [g2 u, bm_or, Bool.or_eq_true]
      constructor
      · rintro ((h | h) | ⟨j, h1, h2, h3⟩)
        · exact Or.inl h
        · exact Or.inr ⟨i, Nat.le_refl _, by omega, c', h⟩
        · exact Or.inr ⟨j, by omega, h2, h3⟩
      · rintro (h | ⟨j, h1, h2, h3, h4⟩)
        · exact Or.inl (Or.inl h)
        · by_cases e : j = i
          · rw [e] at h4
            exact Or.inl (Or.inr h4)
          · exact Or.inr ⟨j, by omega, h2, h3, h4⟩
/-- what the statements that are not blocked bring -/
def BRT (q : Nat → Nat → Nat) (nk : Nat → Nat → Bool) (m : gM) (b : Nat) : Prop := ∀ i, i < q 0 3 → b.testBit i = false → ∀ u, u < 64 → (bm (m.2.1 61 (b * 6 + i)) u = true ↔ ∃ d, mB q nk (mI b.testBit i) (q 14 i) d ∧ q 5 d = u + 1)
theorem s_importedBy (hpg : pg = 5 ∨ pg = 25) (P : PR m.2.2 pg) (z : Rz m pg mn) (h : CPr pg m q S H L) (hS : aS q) (hF : 5000 ≤ F) {b s : Nat} (hb : b < 64) (hs : s < q 0 0) (hB : BRT q nk m b) :
    ∃ R, f_X4_importedBy gSH F 60 (nI s) (nI b) m = some (R, m) ∧ ∀ u, u < 64 → (bm R u = true ↔ mEc q nk b.testBit s u) := by
  obtain ⟨o1, o2, o3, b2, b3, b4, b5, b7, b8, b9, b10, b11, b12, b13, b14, b15, b16, b17, b18, b19, l3, l8⟩ := gP hpg
  have r5 := P.2.2.2.2.2.1
  have hi := (h.2.1 s hs).2.2.2
  have l0 := hS.1.2.1
  have l3 := hS.1.2.2.2.2.1
  obtain ⟨R, g1, g2⟩ := s_impL (F := F) z.1 hb (v := bi (q 0 3) (fun i => decide (q 12 i = s)) &&& (nI b ^^^ -1)) 6 F 0 0 rfl (by omega)
  refine ⟨R, ?_, fun u hu => ?_⟩
  · unfold f_X4_importedBy
    rw [ob_60, g_ift, z.2.1, g_bs, o1, g_ift, r5, g_bs, b14, g_inI (by omega) (by decide), g_ift, nI_clamp (by omega), hi, g_nmb]
    exact g1
  · rw [g2 u, bm_0]
    have cv : ∀ j, j < 6 → (cm (bi (q 0 3) (fun i => decide (q 12 i = s)) &&& (nI b ^^^ -1)) j = true ↔ j < q 0 3 ∧ q 12 j = s ∧ b.testBit j = false) := fun j hj => by
      rw [cm_and, cm_bi (by omega), cm_no _ (by omega), cm_nI (by omega)]
      simp [and_assoc]
    constructor
    · rintro (h | ⟨j, -, h2, h3, h4⟩)
      · cases h
      · obtain ⟨a1, a2, a3⟩ := (cv j h2).mp h3
        exact ⟨j, a1, a2, a3, (hB j a1 a3 u hu).mp h4⟩
    · rintro ⟨j, a1, a2, a3, h4⟩
      exact Or.inr ⟨j, Nat.zero_le _, by omega, (cv j (by omega)).mpr ⟨a1, a2, a3⟩, (hB j a1 a3 u hu).mpr h4⟩
end RES
