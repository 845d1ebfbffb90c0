/-! FACTS OF A RENAMING -/
theorem nm_pack2 {b b' : Nat → Nat} {s l s' l' : Nat} (h1 : l ≤ 12) (h2 : l' ≤ 12) (g : ∀ i, i < l → b (s + i) ≠ 0 ∧ b (s + i) < 256) (g' : ∀ i, i < l' → b' (s' + i) ≠ 0 ∧ b' (s' + i) < 256) : (nmH b s l = nmH b' s' l' ∧ nmL b s l = nmL b' s' l') ↔ (l = l' ∧ ∀ i, i < l → b (s + i) = b' (s' + i)) := by
  have f1 : ∀ i, nmB b s l i < 256 := fun i => by
    unfold nmB
    split
    · rename_i c
      exact (g i c).2
    · omega
  have f2 : ∀ i, nmB b' s' l' i < 256 := fun i => by
    unfold nmB
    split
    · rename_i c
      exact (g' i c).2
    · omega
  constructor
  · rintro ⟨e1, e2⟩
    have a1 := lN_inj (by have := pkv_lt (f := nmB b s l) (fun i _ => f1 i); omega) (by have := pkv_lt (f := nmB b' s' l') (fun i _ => f2 i); omega) e1
    have a2 := lN_inj (by have := pkv_lt (f := fun i => nmB b s l (i + 6)) (fun i _ => f1 (i + 6)); omega) (by have := pkv_lt (f := fun i => nmB b' s' l' (i + 6)) (fun i _ => f2 (i + 6)); omega) e2
    have c1 := pkv_inj (fun i _ => f1 i) (fun i _ => f2 i) a1
    have c2 := pkv_inj (f := fun i => nmB b s l (i + 6)) (g := fun i => nmB b' s' l' (i + 6)) (fun i _ => f1 (i + 6)) (fun i _ => f2 (i + 6)) a2
    have all : ∀ i, i < 12 → nmB b s l i = nmB b' s' l' i := fun i hi => by
      by_cases c : i < 6
      · exact c1 i c
      · have := c2 (i - 6) (by omega)
        rw [show i - 6 + 6 = i by omega] at this
        exact this
    have hl : l = l' := by
      by_cases x : l < l'
      · have := all l (by omega)
        unfold nmB at this
        rw [if_neg (by omega), if_pos x] at this
        exact absurd this.symm (g' l x).1
      · by_cases y : l' < l
        · have := all l' (by omega)
          unfold nmB at this
          rw [if_pos y, if_neg (by omega)] at this
          exact absurd this (g l' y).1
        · omega
    refine ⟨hl, fun i hi => ?_⟩
    have := all i (by omega)
    unfold nmB at this
    rw [if_pos hi, if_pos (by omega)] at this
    exact this
  · rintro ⟨rfl, e⟩
    have all : ∀ i, nmB b s l i = nmB b' s' l i := fun i => by
      unfold nmB
      split
      · rename_i c
        exact e i c
      · rfl
    unfold nmH nmL
    rw [pkv_cong (fun i _ => all i), pkv_cong (f := fun i => nmB b s l (i + 6)) (g := fun i => nmB b' s' l (i + 6)) (fun i _ => all (i + 6))]
    exact ⟨rfl, rfl⟩
/-- a reference means only what bears its name -/
theorem mCn_nk {q : Nat → Nat → Nat} {nk : Nat → Nat → Bool} {E : Nat → Nat → Prop} {r : Nat} : ∀ (k s d : Nat), mCn q nk E r k s d → nk r d = true := by
  intro k
  induction k with
  | zero =>
    rintro s d ⟨n, t, -, h⟩
    exact h.2.2
  | succ k ih =>
    rintro s d ⟨-, -, h⟩
    exact ih _ d h
theorem mB_nk {q : Nat → Nat → Nat} {nk : Nat → Nat → Bool} {B : Nat → Bool} {r d : Nat} (h : mB q nk B r d) : nk r d = true := by
  obtain ⟨k, h⟩ := h
  exact mCn_nk k _ d h
theorem bc_or {p p' : Nat → Bool} (h : ∀ d, ¬ (p d = true ∧ p' d = true)) : ∀ n, bc n (fun d => p d || p' d) = bc n p + bc n p' := by
  intro n
  induction n with
  | zero => rfl
  | succ n ih =>
    show bc n (fun d => p d || p' d) + (if (p n || p' n) = true then 1 else 0) = bc n p + (if p n = true then 1 else 0) + (bc n p' + (if p' n = true then 1 else 0))
    rw [ih]
    have := h n
    cases x : p n <;> cases y : p' n
    · simp
    · simp
      omega
    · simp
      omega
    · exact absurd ⟨x, y⟩ this
/-- counting by places -/
theorem bc_img {s : Nat → Nat} {p : Nat → Bool} {E : Nat} : ∀ (N : Nat) (V : Nat → Bool), (∀ d d', d < d' → d' < N → s d < s d') → (∀ d, d < N → s d < E) → (∀ t, V t = true ↔ ∃ d, d < N ∧ s d = t ∧ p d = true) → bc E V = bc N p := by
  intro N
  induction N with
  | zero =>
    intro V _ _ hV
    rw [bc_cong (p' := fun _ => false) E (fun d _ => by
      cases x : V d
      · rfl
      · obtain ⟨d', h, -⟩ := (hV d).mp x
        exact absurd h (Nat.not_lt_zero _)), bc_F]
    rfl
  | succ N ih =>
    intro V mo hs hV
    let V' : Nat → Bool := fun t => (List.range N).any (fun d => decide (s d = t) && p d)
    have hV' : ∀ t, V' t = true ↔ ∃ d, d < N ∧ s d = t ∧ p d = true := fun t => by
      show (List.range N).any (fun d => decide (s d = t) && p d) = true ↔ _
      simp only [List.any_eq_true, List.mem_range, Bool.and_eq_true, decide_eq_true_eq]
    have a := ih V' (fun d d' h1 h2 => mo d d' h1 (by omega)) (fun d hd => hs d (by omega)) hV'
    have nt : V' (s N) = false := by
      cases x : V' (s N)
      · rfl
      · obtain ⟨d, h1, h2, -⟩ := (hV' _).mp x
        have := mo d N h1 (by omega)
        omega
    show bc E V = bc N p + (if p N = true then 1 else 0)
    rw [← a]
    cases y : p N
    · rw [if_neg (by decide)]
      refine bc_cong E (fun t _ => ?_)
      have : V t = true ↔ V' t = true := by
        rw [hV, hV']
        constructor
        · rintro ⟨d, h1, h2, h3⟩
          exact ⟨d, by
            have : d ≠ N := fun z => by rw [z, y] at h3; cases h3
            omega, h2, h3⟩
        · rintro ⟨d, h1, h2, h3⟩
          exact ⟨d, by omega, h2, h3⟩
      cases u : V t <;> cases v : V' t
      · rfl
      · rw [this.mpr v] at u; cases u
      · rw [this.mp u] at v; cases v
      · rfl
    · rw [if_pos rfl]
      refine bc_add nt (fun t => ?_) E (hs N (by omega))
      have : V t = true ↔ (V' t || decide (t = s N)) = true := by
        rw [hV, Bool.or_eq_true, hV', decide_eq_true_eq]
        constructor
        · rintro ⟨d, h1, h2, h3⟩
          by_cases z : d = N
          · rw [z] at h2
            exact Or.inr h2.symm
          · exact Or.inl ⟨d, by omega, h2, h3⟩
        · rintro (⟨d, h1, h2, h3⟩ | z)
          · exact ⟨d, by omega, h2, h3⟩
          · exact ⟨N, by omega, z.symm, y⟩
      cases u : V t <;> cases v : (V' t || decide (t = s N))
      · rfl
      · rw [this.mpr v] at u; cases u
      · rw [this.mp u] at v; cases v
      · rfl
section FCT
variable {b c : Nat → Nat} {n l la : Nat} {g : Int64} {X : Nat → Int64} {U : Nat → Bool}
/-- the length of the new text -/
theorem np_cnt (h : pOk b n) (hla : ∀ t, t < pE b n → U t = true → kL b n t = la) : ∀ t, t ≤ pE b n → np b n U l (tP b n t) + la * bc t U = tP b n t + l * bc t U := by
  intro t
  induction t with
  | zero => intro _; rfl
  | succ t ih =>
    intro ht
    have a := ih (by omega)
    have e : bc (t + 1) U = bc t U + (if U t = true then 1 else 0) := rfl
    have s1 := (tS_le (b := b) (tP_le h t (by omega))).1
    have s1' : tP b n t ≤ kS b n t := s1
    have gp := np_gap (U := U) (l := l) h (t := t) (by omega) (kS b n t - tP b n t) (by omega)
    rw [show tP b n t + (kS b n t - tP b n t) = kS b n t by omega] at gp
    have nx := np_next (U := U) (l := l) h (t := t) (by omega)
    have tp : tP b n (t + 1) = kS b n t + kL b n t := rfl
    rw [nx, gp, tp, e]
    cases u : U t
    · rw [if_neg (by decide), if_neg (by decide), Nat.add_zero]
      clear e nx tp
      omega
    · rw [if_pos rfl, if_pos rfl, hla t (by omega) u, Nat.mul_add, Nat.mul_add]
      clear e nx tp
      omega
theorem nwN_cnt (h : pOk b n) (hla : ∀ t, t < pE b n → U t = true → kL b n t = la) : nwN b n U l + la * bc (pE b n) U = n + l * bc (pE b n) U := by
  have a := np_cnt (l := l) h hla (pE b n) (Nat.le_refl _)
  have s1' : tP b n (pE b n) ≤ n := tP_le h _ (Nat.le_refl _)
  have gp := np_gap (U := U) (l := l) h (t := pE b n) (Nat.le_refl _) (n - tP b n (pE b n)) (by rw [kS_E h]; omega)
  rw [show tP b n (pE b n) + (n - tP b n (pE b n)) = n by omega] at gp
  unfold nwN
  rw [gp]
  omega
theorem uT_cnt (h : pOk b n) : bc (pE b n) (uT (pQ b n) g X) = bc (pQ b n 0 1) (bm g) + bc (pQ b n 0 2) (fun r => decide (X r &&& g ≠ 0)) := by
  obtain ⟨-, ⟨-, -, t3, t4, t5⟩, -⟩ := pQ_ok h
  have e := bc_or (p := fun t => (List.range (pQ b n 0 1)).any (fun d => decide (pQ b n 4 d = t) && bm g d)) (p' := fun t => (List.range (pQ b n 0 2)).any (fun r => decide (pQ b n 7 r = t) && decide (X r &&& g ≠ 0))) (fun t => by
    simp only [List.any_eq_true, List.mem_range, Bool.and_eq_true, decide_eq_true_eq]
    rintro ⟨⟨d, a1, a2, -⟩, ⟨r, c1, c2, -⟩⟩
    exact t5 d r a1 c1 (by rw [a2, c2])) (pE b n)
  have e' : bc (pE b n) (uT (pQ b n) g X) = _ := e
  rw [e', bc_img (s := fun d => pQ b n 4 d) (p := bm g) (pQ b n 0 1) _ t3 (fun d hd => (tok_d h hd).1) (fun t => by
    simp only [List.any_eq_true, List.mem_range, Bool.and_eq_true, decide_eq_true_eq]), bc_img (s := fun r => pQ b n 7 r) (p := fun r => decide (X r &&& g ≠ 0)) (pQ b n 0 2) _ t4 (fun d hd => (tok_r h hd).1) (fun t => by
    simp only [List.any_eq_true, List.mem_range, Bool.and_eq_true, decide_eq_true_eq])]
/-- the length test -/
theorem len_test {N' n cnt l la : Nat} (h : N' + la * cnt = n + l * cnt) : nI n + nI cnt * (nI l - nI la) = nI N' := by
  have a : nI N' + nI la * nI cnt = nI n + nI l * nI cnt := by
    rw [pk_mul, pk_mul, nI_add, nI_add, h]
  rw [Int32.mul_sub, Int32.mul_comm (nI cnt) (nI l), Int32.mul_comm (nI cnt) (nI la), Int32.sub_eq_add_neg, ← Int32.add_assoc, ← a, ← Int32.sub_eq_add_neg, Int32.add_sub_cancel]
theorem eT_iff (h : pOk b n) (hc : Nme c l) {t : Nat} (ht : t < pE b n) (hk : kK b n t = 264) : eT b c l (kS b n t) (kL b n t) ↔ (kH b n t = nmH c 0 l ∧ kW b n t = nmL c 0 l) := by
  obtain ⟨a1, a2⟩ := tok_name h ht hk
  have i := nm_pack2 (b := b) (b' := c) (s := kS b n t) (l := kL b n t) (s' := 0) (l' := l) a1 hc.2.1 (fun i hi => ⟨(a2 i hi).1, (a2 i hi).2.1⟩) (fun i hi => by rw [Nat.zero_add]; exact ⟨cIn_pos _ (hc.2.2.2.1 i hi).1 (hc.2.2.2.1 i hi).2, (hc.2.2.2.1 i hi).1⟩)
  unfold kH kW
  rw [i]
  unfold eT
  constructor
  · rintro ⟨x, y⟩
    exact ⟨x, fun i hi => by rw [Nat.zero_add]; exact y i (by omega)⟩
  · rintro ⟨x, y⟩
    exact ⟨x, fun i hi => by rw [y i (by omega), Nat.zero_add]⟩
/-- the new text is what both write -/
theorem wp_of (h : pOk b n) (hc : Nme c l) (hla : ∀ t, t < pE b n → U t = true → kL b n t = la) (hla2 : la ≤ 12) (hn : nwN b n U l ≤ 4000) : WP b n l la (wSt b n U) (wIn b n U) (np b n U l) (nwB b n U c l) c := by
  refine ⟨rfl, fun i => rfl, fun i hi s o ho => ?_, fun i hi s1 s2 => ?_, fun i => ?_, fun s s' h1 h2 lt => ?_, h.1, hn, h.2.1, fun o ho => ⟨cIn_pos _ (hc.2.2.2.1 o ho).1 (hc.2.2.2.1 o ho).2, (hc.2.2.2.1 o ho).1⟩, hc.2.1, hla2⟩
  · rw [nw_at hi (by unfold wL; rw [if_pos s]; exact ho), if_pos s]
  · have := nw_at (b := b) (n := n) (U := U) (c := c) (l := l) (i := i) (o := 0) hi (by unfold wL; rw [s1, s2, if_neg (by decide), if_neg (by decide)]; decide)
    rw [s1, if_neg (by decide)] at this
    exact this
  · rw [wIn_iff]
    constructor
    · rintro ⟨t, a1, a2, a3, a4⟩
      exact ⟨kS b n t, a3, wSt_iff.mpr ⟨t, a1, a2, rfl⟩, by rw [← hla t a1 a2]; exact a4⟩
    · rintro ⟨s, a1, a2, a3⟩
      obtain ⟨t, b1, b2, b3⟩ := wSt_iff.mp a2
      exact ⟨t, b1, b2, by omega, by rw [hla t b1 b2]; omega⟩
  · obtain ⟨t, b1, b2, b3⟩ := wSt_iff.mp h1
    obtain ⟨t', c1, c2, c3⟩ := wSt_iff.mp h2
    have lt' : t < t' := by
      apply Classical.byContradiction
      intro z
      have := tok_ge h (show t' ≤ t by omega) (by omega)
      omega
    have := tok_mono h lt' (by omega)
    rw [hla t b1 b2] at this
    omega
/-- the places of the new names -/
theorem wS_iff (h : pOk b n) : ∀ i, wSt b n (uT (pQ b n) g X) i = true ↔ ((∃ d, d < pQ b n 0 1 ∧ kS b n (pQ b n 4 d) = i ∧ bm g d = true) ∨ ∃ r, r < pQ b n 0 2 ∧ kS b n (pQ b n 7 r) = i ∧ decide (X r &&& g ≠ 0) = true) := by
  intro i
  rw [wSt_iff]
  constructor
  · rintro ⟨t, a1, a2, a3⟩
    rcases uT_iff.mp a2 with ⟨d, x1, x2, x3⟩ | ⟨r, x1, x2, x3⟩
    · exact Or.inl ⟨d, x1, by rw [x2]; exact a3, x3⟩
    · exact Or.inr ⟨r, x1, by rw [x2]; exact a3, decide_eq_true x3⟩
  · rintro (⟨d, x1, x2, x3⟩ | ⟨r, x1, x2, x3⟩)
    · exact ⟨pQ b n 4 d, (tok_d h x1).1, uT_iff.mpr (Or.inl ⟨d, x1, rfl, x3⟩), x2⟩
    · exact ⟨pQ b n 7 r, (tok_r h x1).1, uT_iff.mpr (Or.inr ⟨r, x1, rfl, of_decide_eq_true x3⟩), x2⟩
/-- all that get the new name had the same -/
def sNm (b : Nat → Nat) (n t t' : Nat) : Prop := kH b n t = kH b n t' ∧ kW b n t = kW b n t'
theorem all_la (h : pOk b n) {k : Nat} (hk : k < pQ b n 0 1) (hX : ∀ r, r < pQ b n 0 2 → ∀ d, bm (X r) d = true → d < pQ b n 0 1 ∧ nkT b n r d = true) (hg : ∀ d, bm g d = true → d < pQ b n 0 1 ∧ sNm b n (pQ b n 4 k) (pQ b n 4 d)) : ∀ t, t < pE b n → uT (pQ b n) g X t = true → kL b n t = kL b n (pQ b n 4 k) := by
  intro t ht u
  have key : ∀ t', t' < pE b n → kK b n t' = 264 → sNm b n (pQ b n 4 k) t' → kL b n t' = kL b n (pQ b n 4 k) := fun t' h1 h2 h3 => ((nm_eq h (tok_d h hk).1 h1 (tok_d h hk).2 h2).mp h3).1.symm
  rcases uT_iff.mp u with ⟨d, x1, x2, x3⟩ | ⟨r, x1, x2, x3⟩
  · rw [← x2]
    exact key _ (tok_d h x1).1 (tok_d h x1).2 (hg d x3).2
  · rw [← x2]
    obtain ⟨e, -, e2, -⟩ := bm_ne x3
    rw [bm_and, Bool.and_eq_true] at e2
    have y := (hX r x1 e e2.1).2
    unfold nkT at y
    rw [decide_eq_true_eq] at y
    have z := (hg e e2.2).2
    exact key _ (tok_r h x1).1 (tok_r h x1).2 ⟨z.1.trans y.1, z.2.trans y.2⟩
theorem fr_nm {k : Nat} (hX : ∀ r, r < pQ b n 0 2 → ∀ d, bm (X r) d = true → d < pQ b n 0 1 ∧ nkT b n r d = true) {g0 : Int64} (hg : ∀ d, bm g0 d = true → sNm b n (pQ b n 4 k) (pQ b n 4 d)) : ∀ r, r ≤ pQ b n 0 2 → ∀ d, bm (frS X r g0) d = true → sNm b n (pQ b n 4 k) (pQ b n 4 d) := by
  intro r
  induction r with
  | zero => intro _ d hd; exact hg d hd
  | succ r ih =>
    intro hr d hd
    unfold frS at hd
    rw [bm_or, Bool.or_eq_true] at hd
    rcases hd with hd | hd
    · exact ih (by omega) d hd
    · split at hd
      · rename_i ne
        obtain ⟨e, -, e2, -⟩ := bm_ne ne
        rw [bm_and, Bool.and_eq_true] at e2
        have y1 := (hX r (by omega) e e2.1).2
        have y2 := (hX r (by omega) d hd).2
        unfold nkT at y1 y2
        rw [decide_eq_true_eq] at y1 y2
        have z := ih (by omega) e e2.2
        exact ⟨z.1.trans (y1.1.trans y2.1.symm), z.2.trans (y1.2.trans y2.2.symm)⟩
      · rw [bm_0] at hd
        cases hd
theorem fr_nmI {k : Nat} (hk : k < 64) (hX : ∀ r, r < pQ b n 0 2 → ∀ d, bm (X r) d = true → d < pQ b n 0 1 ∧ nkT b n r d = true) : ∀ j d, bm (frI X (pQ b n 0 2) (bl k) j) d = true → sNm b n (pQ b n 4 k) (pQ b n 4 d) := by
  intro j
  induction j with
  | zero =>
    intro d hd
    have hd' : bm (bl k) d = true := hd
    rw [bm_bl hk, decide_eq_true_eq] at hd'
    rw [hd']
    exact ⟨rfl, rfl⟩
  | succ j ih => exact fr_nm hX ih (pQ b n 0 2) (Nat.le_refl _)
end FCT
section JNT
variable {F tp tx pg df mn tr : Nat} {m m' : gM} {bt bx : Nat → Nat} {nt nx f : Nat}
/-- friendsOf of both sides, all of one name -/
theorem JP.fri2 (hF : 5000 ≤ F) (h : JP m tp tx pg df mn tr bt nt bx nx f) {d : Nat} (hd : d < pQ bx nx 0 1) : ∃ g, (∀ m' : gM, m'.2.1 (mn + 2) = m.2.1 (mn + 2) → m'.2.2 mn 1 = some (mn + 2) → f_X1_friendsOf gSH F mn (nI d) (nI (pQ bx nx 0 2)) m' = some (g, m')) ∧ (∀ m' : gM, m'.2.1 104 = m.2.1 104 → m'.2.2 62 68 = some 104 → m'.1 62 20 = nI (pQ bx nx 0 2) → f_X8_friendsOf gSH F 62 (nI d) m' = some (g, m')) ∧ (∀ x, bm g x = true → x < pQ bx nx 0 1 ∧ sNm bx nx (pQ bx nx 4 d) (pQ bx nx 4 x)) ∧ ∀ r, r < pQ bx nx 0 2 → ∀ x, bm (m.2.1 104 r) x = true → x < pQ bx nx 0 1 ∧ nkT bx nx r x = true := by
  obtain ⟨h1, ⟨z, o1, o2, o3⟩, h3, h4, ⟨k1, C, k3, k4⟩, h6, h7, h8, h9, ⟨x1, x2, R, x4, x5⟩, h11⟩ := id h
  have hmn : mn = 45 ∨ mn = 50 := by omega
  have hS := (pQ_ok x1).1.1
  have l1 := hS.1.2.2.1
  have l2 := hS.1.2.2.2.1
  have hX : ∀ r', r' < pQ bx nx 0 2 → ∀ d, bm (m.2.1 104 r') d = true → d < pQ bx nx 0 1 ∧ nkT bx nx r' d = true := fun r' hr' d' hd' => ⟨(h.mean hr').2 d' hd', mB_nk (((x5 r' hr').1 d').mp hd')⟩
  have cg : ∀ k, frI (m.2.1 (mn + 2)) (pQ bx nx 0 2) (bl d) k = frI (m.2.1 104) (pQ bx nx 0 2) (bl d) k := frI_cong (fun j hj => (h.mean hj).1)
  have hX2 : ∀ r', r' < pQ bx nx 0 2 → ∀ d, bm (m.2.1 (mn + 2) r') d = true → d < 60 := fun r' hr' d' hd' => by
    rw [(h.mean hr').1] at hd'
    have := (hX r' hr' d' hd').1
    omega
  obtain ⟨n, n1, n2, n3⟩ := frI_stop (X := m.2.1 104) (g := bl d) (nR := pQ bx nx 0 2) (fun x hx => by rw [bm_bl (by omega), decide_eq_true_eq] at hx; omega) ⟨d, by rw [bm_bl (by omega)]; simp⟩ (fun r' hr' d' hd' => by have := (hX r' hr' d' hd').1; omega)
  refine ⟨frI (m.2.1 104) (pQ bx nx 0 2) (bl d) n, fun m' e1 e2 => ?_, fun m' e1 e2 e3 => ?_, fun x hx => ⟨?_, fr_nmI (by omega) hX n x hx⟩, hX⟩
  · obtain ⟨n', q1, q2, q3, q4⟩ := s_friC (m := m') (F := F) (nR := pQ bx nx 0 2) hmn e2 hF l2 (show d < 60 by omega) (by rw [e1]; exact hX2)
    rw [q2, e1, cg]
    rw [e1, cg, cg] at q3
    have en : n' = n := by
      apply Classical.byContradiction
      intro ne
      rcases Nat.lt_or_gt_of_ne ne with w | w
      · exact n3 n' w q3
      · have := q4 n w
        rw [e1, cg, cg] at this
        exact this n2
    rw [en]
  · have t := s_friR (m := m') (F := F) e2 e3 hF l2 (d := d) n1 (by rw [e1]; exact n2) (fun j hj => by rw [e1]; exact n3 j hj)
    rw [t, e1]
  · exact frI_in (fun y hy => by rw [bm_bl (by omega), decide_eq_true_eq] at hy; omega) (fun r' hr' d' hd' => (hX r' hr' d' hd').1) n x hx
end JNT
