/-! THE CLASS'S RESOLVER: what is local, what a reference means -/
theorem bc_full {p : Nat → Bool} {k : Nat} (hk : p k = false) : ∀ n, k < n → bc n p < n := by
  intro n
  induction n with
  | zero => intro h; omega
  | succ n ih =>
    intro h
    unfold bc
    have c := bc_le p n
    by_cases e : n = k
    · subst e
      rw [hk, if_neg (by decide)]
      omega
    · have := ih (by omega)
      split <;> omega
theorem bc_add {p p' : Nat → Bool} {k : Nat} (hk : p k = false) (hp : ∀ d, p' d = (p d || decide (d = k))) : ∀ n, k < n → bc n p' = bc n p + 1 := by
  intro n hn
  have hk' : p' k = true := by rw [hp]; simp
  have a := bc_del hk' n hn
  rw [bc_cong (p' := p) n] at a
  · exact a.symm
  · intro d _
    rw [hp]
    by_cases c : d = k
    · subst c
      simp [hk]
    · simp [c]
section RES
variable {q : Nat → Nat → Nat} {nk : Nat → Nat → Bool} {E : Nat → Nat → Prop} {r : Nat}
theorem mRn_snoc {x u : Nat} (h : ∀ d, ¬ mH q nk r x d) (e : E x u) : ∀ (k s : Nat), mRn q nk E r k s x → mRn q nk E r (k + 1) s u := by
  intro k
  induction k with
  | zero =>
    intro s p
    have p' : s = x := p
    subst p'
    exact ⟨h, u, e, rfl⟩
  | succ k ih =>
    rintro s ⟨a, v, ev, p⟩
    exact ⟨a, v, ev, ih v p⟩
/-- the places that a walk has passed, where it waits, what it found -/
def LoI (q : Nat → Nat → Nat) (nk : Nat → Nat → Bool) (E : Nat → Nat → Prop) (r : Nat) (sc P W Fd : Int64) (n : Nat) : Prop :=
  (∀ x, bm W x = true → x < q 0 0 ∧ bm P x = false) ∧
  (∀ x, bm P x = true ∨ bm W x = true → ∃ s0 k, bm sc s0 = true ∧ mRn q nk E r k s0 x) ∧
  (∀ s, bm sc s = true → bm P s = true ∨ bm W s = true) ∧
  (∀ x, bm P x = true → (∀ d, ¬ mH q nk r x d) → ∀ u, E x u → bm P u = true ∨ bm W u = true) ∧
  (∀ d, bm Fd d = true ↔ ∃ x, bm P x = true ∧ mH q nk r x d) ∧ bc 64 (bm P) = n
theorem LoI_end {sc P Fd : Int64} {n : Nat} (h : LoI q nk E r sc P 0 Fd n) (d : Nat) : bm Fd d = true ↔ ∃ s, bm sc s = true ∧ mF q nk E r s d := by
  obtain ⟨i1, i2, i3, i4, i5, i6⟩ := h
  have w0 : ∀ x, bm P x = true ∨ bm 0 x = true → bm P x = true := fun x h => by
    rcases h with h | h
    · exact h
    · rw [bm_0] at h
      cases h
  rw [i5]
  constructor
  · rintro ⟨x, h1, h2⟩
    obtain ⟨s0, k, h3, h4⟩ := i2 x (Or.inl h1)
    exact ⟨s0, h3, k, x, h4, h2⟩
  · rintro ⟨s, h1, n, t, h2, h3⟩
    have key : ∀ n s, bm P s = true → mRn q nk E r n s t → bm P t = true := by
      intro n
      induction n with
      | zero =>
        intro s hs p
        have p' : s = t := p
        rw [← p']
        exact hs
      | succ n ih =>
        rintro s hs ⟨a, u, eu, p⟩
        exact ih u (w0 u (i4 s hs a u eu)) p
    exact ⟨t, key n s (w0 s (i3 s h1)) h2, h3⟩
/-- one scope more; I what it imports -/
theorem LoI_step {sc P W Fd v I : Int64} {n c : Nat} (h : LoI q nk E r sc P W Fd n) (hc : c < 64) (hw : bm W c = true) (hv : ∀ d, bm v d = true ↔ mH q nk r c d) (hI : (∀ d, ¬ mH q nk r c d) → ∀ u, u < 64 → (bm I u = true ↔ E c u)) (hI0 : ¬ (∀ d, ¬ mH q nk r c d) → I = 0) (hE : ∀ s u, E s u → u < q 0 0) (hS : q 0 0 ≤ 64) :
    LoI q nk E r sc (P ||| bl c) ((W ||| I) &&& ((P ||| bl c) ^^^ (-1))) (Fd ||| v) (n + 1) := by
  obtain ⟨i1, i2, i3, i4, i5, i6⟩ := h
  have eP : ∀ x, bm (P ||| bl c) x = (bm P x || decide (x = c)) := fun x => by rw [bm_or, bm_bl hc]
  have eW : ∀ x, x < 64 → bm ((W ||| I) &&& ((P ||| bl c) ^^^ (-1))) x = ((bm W x || bm I x) && !(bm P x || decide (x = c))) := fun x hx => by rw [bm_and, bm_or, bm_no _ hx, eP]
  have l64 : ∀ (y : Int64) x, bm y x = true → x < 64 := fun y x h => by
    by_cases c : x < 64
    · exact c
    · rw [bm_64 (by omega)] at h
      cases h
  have pc := (i1 c hw).2
  have sc' : ∀ x, bm P x = true ∨ bm W x = true → bm (P ||| bl c) x = true ∨ bm ((W ||| I) &&& ((P ||| bl c) ^^^ (-1))) x = true := fun x hx => by
    have hx64 : x < 64 := by
      rcases hx with h | h
      · exact l64 _ x h
      · exact l64 _ x h
    rw [eP, eW x hx64]
    by_cases e : x = c
    · simp [e]
    · rcases hx with h | h
      · simp [h]
      · have := (i1 x h).2
        simp [h, this, e]
  have noH : ∀ u, bm I u = true → ∀ d, ¬ mH q nk r c d := fun u hu => by
    apply Classical.byContradiction
    intro hn
    rw [hI0 hn, bm_0] at hu
    cases hu
  refine ⟨fun x hx => ?_, fun x hx => ?_, fun s hs => sc' s (i3 s hs), fun x hx hno u hu => ?_, fun d => ?_, ?_⟩
  · rw [eW x (l64 _ x hx)] at hx
    rw [eP]
    simp only [Bool.and_eq_true, Bool.or_eq_true, Bool.not_eq_true'] at hx
    refine ⟨?_, hx.2⟩
    rcases hx.1 with h | h
    · exact (i1 x h).1
    · exact hE c x ((hI (noH x h) x (l64 _ x h)).mp h)
  · have : bm P x = true ∨ bm W x = true ∨ (bm I x = true) := by
      rcases hx with h | h
      · rw [eP] at h
        simp only [Bool.or_eq_true, decide_eq_true_eq] at h
        rcases h with h | h
        · exact Or.inl h
        · subst h
          exact Or.inr (Or.inl hw)
      · rw [eW x (l64 _ x h)] at h
        simp only [Bool.and_eq_true, Bool.or_eq_true] at h
        exact Or.inr h.1
    rcases this with h | h | h
    · exact i2 x (Or.inl h)
    · exact i2 x (Or.inr h)
    · obtain ⟨s0, k, a, p⟩ := i2 c (Or.inr hw)
      have e := (hI (noH x h) x (l64 _ x h)).mp h
      exact ⟨s0, k + 1, a, mRn_snoc (noH x h) e k s0 p⟩
  · rw [eP] at hx
    simp only [Bool.or_eq_true, decide_eq_true_eq] at hx
    rcases hx with h | h
    · exact sc' u (i4 x h hno u hu)
    · subst h
      have hu64 : u < 64 := by
        have := hE x u hu
        omega
      have iu := (hI hno u hu64).mpr hu
      rw [eP, eW u hu64]
      by_cases e : bm P u = true ∨ u = x
      · left
        simpa using e
      · right
        have e1 : bm P u = false := by
          cases e2 : bm P u
          · rfl
          · exact absurd (Or.inl e2) e
        have e3 : u ≠ x := fun e2 => e (Or.inr e2)
        simp [iu, e1, e3]
  · rw [bm_or, Bool.or_eq_true, i5, hv]
    constructor
    · rintro (⟨x, h1, h2⟩ | h)
      · exact ⟨x, by rw [eP, h1]; rfl, h2⟩
      · exact ⟨c, by rw [eP]; simp, h⟩
    · rintro ⟨x, h1, h2⟩
      rw [eP] at h1
      simp only [Bool.or_eq_true, decide_eq_true_eq] at h1
      rcases h1 with h | h
      · exact Or.inl ⟨x, h, h2⟩
      · subst h
        exact Or.inr h2
  · rw [bc_add pc eP 64 hc, i6]
end RES
section RES2
variable {pg mn F r : Nat} {m : gM} {q : Nat → Nat → Nat} {S : Nat → Nat} {H L : Nat → Int64} {nk : Nat → Nat → Bool}
theorem s_localL (hpg : pg = 5 ∨ pg = 25) (P : PR m.2.2 pg) (z : Rz m pg mn) (h : CPr pg m q S H L) (hq : mQ q) (hF : 5000 ≤ F) {b : Nat} (hb : b < 64) (hB : BRT q nk m b) {nm' sc : Int64} (hn : ∀ d, bm nm' d = true ↔ d < q 0 1 ∧ nk r d = true) (hn0 : nm' ≠ 0) : ∀ (k N n : Nat) (Ps W Fd : Int64), n + k = 64 → k < N → LoI q nk (mEc q nk b.testBit) r sc Ps W Fd n →
    ∃ R, l_X4_local_12 gSH F N 60 nm' (nI b) Ps W Fd (nI n) m = some (R, m) ∧ ∀ d, bm R d = true ↔ ∃ s, bm sc s = true ∧ mF q nk (mEc q nk b.testBit) r s d := by
  obtain ⟨o1, o2, o3, b2, b3, b4, b5, b7, b8, b9, b10, b11, b12, b13, b14, b15, b16, b17, b18, b19, l3, l8⟩ := gP hpg
  have r4 := P.2.2.2.2.1
  have l0 := hq.1.1.2.1
  have l1 := hq.1.1.2.2.1
  have done : ∀ (N n : Nat) (Ps Fd : Int64), LoI q nk (mEc q nk b.testBit) r sc Ps 0 Fd n → ∃ R, l_X4_local_12 gSH F (N + 1) 60 nm' (nI b) Ps 0 Fd (nI n) m = some (R, m) ∧ ∀ d, bm R d = true ↔ ∃ s, bm sc s = true ∧ mF q nk (mEc q nk b.testBit) r s d := by
    intro N n Ps Fd hI
    refine ⟨Fd, ?_, LoI_end hI⟩
    show b_X4_local_12 gSH F (l_X4_local_12 gSH F N) 60 nm' (nI b) Ps 0 Fd (nI n) m = _
    unfold b_X4_local_12
    rw [if_neg hn0, if_pos (rfl : (0 : Int64) = 0), ite_self]
  intro k
  induction k with
  | zero =>
    intro N n Ps W Fd hk hN hI
    obtain ⟨N, rfl⟩ : ∃ N', N = N' + 1 := ⟨N - 1, by omega⟩
    have hW : W = 0 := by
      apply Classical.byContradiction
      intro hne
      obtain ⟨c, c1, c2, c3⟩ := bm_ne hne
      have := bc_full (hI.1 c c2).2 64 c1
      have := hI.2.2.2.2.2
      omega
    subst hW
    exact done N n Ps Fd hI
  | succ k ih =>
    intro N n Ps W Fd hk hN hI
    obtain ⟨N, rfl⟩ : ∃ N', N = N' + 1 := ⟨N - 1, by omega⟩
    by_cases hW : W = 0
    · subst hW
      exact done N n Ps Fd hI
    obtain ⟨c, c1, c2, c3⟩ := bm_ne hW
    have cS := (hI.1 c c2).1
    have dec := (h.2.1 c cS).2.2.1
    have hv : ∀ d, bm (nm' &&& bs (q 0 1) (fun d => decide (q 3 d = c))) d = true ↔ mH q nk r c d := fun d => by
      rw [bm_and, Bool.and_eq_true, hn, bm_bs (by omega)]
      unfold mH
      simp only [Bool.and_eq_true, decide_eq_true_eq]
      constructor
      · rintro ⟨⟨a, e⟩, -, g⟩
        exact ⟨a, g, e⟩
      · rintro ⟨a, g, e⟩
        exact ⟨⟨a, e⟩, a, g⟩
    have eb : ∀ y, b_X4_local_90 gSH F (l_X4_local_12 gSH F N) 60 nm' (nI b) (Ps ||| bl c) (Fd ||| (nm' &&& bs (q 0 1) (fun d => decide (q 3 d = c)))) (nI n) y W m = l_X4_local_12 gSH F N 60 nm' (nI b) (Ps ||| bl c) ((W ||| y) &&& ((Ps ||| bl c) ^^^ (-1))) (Fd ||| (nm' &&& bs (q 0 1) (fun d => decide (q 3 d = c)))) (nI (n + 1)) m := fun y => by
      unfold b_X4_local_90
      rw [g_nmb, g_nmb, g_nmb, nI_a1]
    have hE : ∀ s u, mEc q nk b.testBit s u → u < q 0 0 := fun s u h => (mEc_ok hq h).1
    have e : l_X4_local_12 gSH F (N + 1) 60 nm' (nI b) Ps W Fd (nI n) m = if nm' &&& bs (q 0 1) (fun d => decide (q 3 d = c)) = 0 then (f_X4_importedBy gSH F 60 (nI c) (nI b) m).bind (fun q18 => nm q18.1 (fun r17 => nm q18.2 (fun m16 => b_X4_local_90 gSH F (l_X4_local_12 gSH F N) 60 nm' (nI b) (Ps ||| bl c) (Fd ||| (nm' &&& bs (q 0 1) (fun d => decide (q 3 d = c)))) (nI n) r17 W m16))) else b_X4_local_90 gSH F (l_X4_local_12 gSH F N) 60 nm' (nI b) (Ps ||| bl c) (Fd ||| (nm' &&& bs (q 0 1) (fun d => decide (q 3 d = c)))) (nI n) 0 W m := by
      show b_X4_local_12 gSH F (l_X4_local_12 gSH F N) 60 nm' (nI b) Ps W Fd (nI n) m = _
      unfold b_X4_local_12
      rw [if_neg (show ¬ (64 : Int32) ≤ nI n from nI_ge (b := 64) (by omega) (by decide)), if_neg hn0, if_neg hW, s_lowest c1 c2 c3, g_bs, g_nmb, g_nmb, g_nmb, ob_60, g_ift, z.2.1, g_bs, o1, g_ift, r4, g_bs, b13, g_inI c1 (by decide), g_ift, nI_clamp (by omega), dec, g_nmb, g_nmb]
      rfl
    rw [e]
    by_cases hz : nm' &&& bs (q 0 1) (fun d => decide (q 3 d = c)) = 0
    · rw [if_pos hz]
      obtain ⟨I, g1, g2⟩ := s_importedBy (F := F) hpg P z h hq.1 hF hb cS hB
      rw [g1, g_bs, g_nmb, g_nmb, eb]
      refine ih N (n + 1) _ _ _ (by omega) (by omega) (LoI_step hI c1 c2 hv (fun _ => g2) (fun hno => ?_) hE l0)
      refine absurd (fun d hd => ?_) hno
      have := (hv d).mpr hd
      rw [hz, bm_0] at this
      cases this
    · rw [if_neg hz, eb]
      refine ih N (n + 1) _ _ _ (by omega) (by omega) (LoI_step hI c1 c2 hv (fun hno => ?_) (fun _ => rfl) hE l0)
      refine absurd ?_ hz
      apply bm_ext
      intro d _
      rw [bm_0]
      cases e : bm (nm' &&& bs (q 0 1) (fun d => decide (q 3 d = c))) d with
      | false => rfl
      | true => exact absurd ((hv d).mp e) (hno d)
theorem s_local (hpg : pg = 5 ∨ pg = 25) (P : PR m.2.2 pg) (z : Rz m pg mn) (h : CPr pg m q S H L) (hq : mQ q) (hF : 5000 ≤ F) {b : Nat} (hb : b < 64) (hB : BRT q nk m b) {nm' sc : Int64} (hn : ∀ d, bm nm' d = true ↔ d < q 0 1 ∧ nk r d = true) (hsc : ∀ s, bm sc s = true → s < q 0 0) :
    ∃ R, f_X4_local gSH F 60 nm' sc (nI b) m = some (R, m) ∧ ∀ d, bm R d = true ↔ ∃ s, bm sc s = true ∧ mF q nk (mEc q nk b.testBit) r s d := by
  by_cases hn0 : nm' = 0
  · subst hn0
    refine ⟨0, ?_, fun d => ⟨fun h => ?_, fun ⟨s, _, k, t, _, h2⟩ => ?_⟩⟩
    · unfold f_X4_local
      obtain ⟨N, hN⟩ : ∃ N', F = N' + 1 := ⟨F - 1, by omega⟩
      have e : l_X4_local_12 gSH F F = l_X4_local_12 gSH F (N + 1) := by rw [← hN]
      rw [e]
      show b_X4_local_12 gSH F (l_X4_local_12 gSH F N) 60 0 (nI b) 0 sc 0 0 m = _
      unfold b_X4_local_12
      rw [if_neg (by decide), if_pos rfl]
    · rw [bm_0] at h
      cases h
    · have := (hn d).mpr ⟨h2.1, h2.2.2⟩
      rw [bm_0] at this
      cases this
  · refine s_localL hpg P z h hq hF hb hB hn hn0 64 F 0 0 sc 0 rfl (by omega) ⟨fun x hx => ⟨hsc x hx, bm_0 x⟩, fun x hx => ?_, fun s hs => Or.inr hs, fun x hx => ?_, fun d => ?_, ?_⟩
    · rcases hx with hx | hx
      · rw [bm_0] at hx
        cases hx
      · exact ⟨x, 0, hx, rfl⟩
    · rw [bm_0] at hx
      cases hx
    · rw [bm_0]
      constructor
      · intro h; cases h
      · rintro ⟨x, hx, -⟩
        rw [bm_0] at hx
        cases hx
    · rw [bc_cong (p' := fun _ => false) 64 (fun d _ => bm_0 d), bc_F]
end RES2
