/-! THE CLASS'S READER: a token -/
theorem nI_m1 {n : Nat} (h : n < 2 ^ 31) : ¬ nI n = -1 := by
  intro e
  have e2 := congrArg Int32.toInt e
  rw [nI_toInt h] at e2
  have : (-1 : Int32).toInt = -1 := by decide
  omega
def CP (pg : Nat) (S : Nat → Nat) (H L : Nat → Int64) (m : gM) (q : Nat → Nat → Nat) : Prop := CPr pg m q S H L ∧ CRd m q ∧ (topF q = 10 → m.1 55 9 = nI (q 0 8)) ∧ PR m.2.2 pg ∧ RR m.2.2 pg
def stZ (pg k : Nat) : Prop := (k < pg ∨ pg + 19 < k) ∧ ¬ rdC k
def Kp (pg : Nat) (m m' : gM) : Prop := gKeep (stZ pg) m m' ∧ m'.2.2 = m.2.2
theorem Kp.refl {pg : Nat} (m : gM) : Kp pg m m := ⟨gKeep.refl m, rfl⟩
theorem Kp.trans {pg : Nat} {a b c : gM} (h : Kp pg a b) (k : Kp pg b c) : Kp pg a c := ⟨h.1.trans k.1, k.2.trans h.2⟩
def cStp (pg : Nat) (S : Nat → Nat) (H L : Nat → Int64) (m : gM) (o : Option (Int32 × gM)) (a : Nat × (Nat → Nat → Nat)) : Prop := ∃ m', o = some (nI a.1, m') ∧ (a.1 = 0 → CP pg S H L m' a.2) ∧ Kp pg m m'
def cTk (S : Nat → Nat) (H L : Nat → Int64) (m : gM) (i : Nat) : Prop := m.1 56 1 = nI (S i) ∧ m.2.1 56 3 = H i ∧ m.2.1 56 4 = L i
section STEPS
variable {pg F : Nat} {m m' : gM} {q q' : Nat → Nat → Nat} {S : Nat → Nat} {H L : Nat → Int64}
theorem cTk.k {i : Nat} (hpg : pg = 5 ∨ pg = 25) (h : cTk S H L m i) (k : Kp pg m m') : cTk S H L m' i := by
  have e := k.1 56 ⟨by omega, by unfold rdC; omega⟩
  obtain ⟨t1, t2, t3⟩ := h
  unfold cTk
  rw [e.1, e.2.1]
  exact ⟨t1, t2, t3⟩
theorem CP.rd (h : CP pg S H L m q) (hpg : pg = 5 ∨ pg = 25) (r : CRd m' q') (k : Rk m m') (e : ∀ a b, a ≠ 9 → a ≠ 10 → a ≠ 11 → (a ≠ 0 ∨ b < 4) → q' a b = q a b) (t : topF q' = 10 → topF q = 10 ∧ q' 0 8 = q 0 8) : CP pg S H L m' q' ∧ Kp pg m m' := by
  obtain ⟨h1, h2, h3, h4, h5⟩ := h
  have e2 : m'.2.2 = m.2.2 := by rw [k.2.1]
  have k1 : gKeep (fun k => pg ≤ k ∧ k ≤ pg + 19) m m' := fun c hc => ⟨k.1 c (by unfold rdC; omega), by rw [k.2.1], by rw [k.2.1]⟩
  refine ⟨⟨(h1.keep k1).eq e, r, fun ht => ?_, by rw [e2]; exact h4, by rw [e2]; exact h5⟩, fun c hc => ⟨k.1 c hc.2, by rw [k.2.1], by rw [k.2.1]⟩, e2⟩
  obtain ⟨t1, t2⟩ := t ht
  rw [k.2.2, t2]
  exact h3 t1
theorem CP.pr (h : CP pg S H L m q) (hpg : pg = 5 ∨ pg = 25) (p : CPr pg m' q' S H L) (k : gKeep (pgZ pg) m m') (k2 : m'.2.2 = m.2.2) (e : ∀ a b, a = 9 ∨ a = 10 ∨ a = 11 ∨ (a = 0 ∧ 4 ≤ b) → q' a b = q a b) : CP pg S H L m' q' ∧ Kp pg m m' := by
  obtain ⟨h1, h2, h3, h4, h5⟩ := h
  have c5 := (k 55 (by unfold pgZ; omega)).1
  refine ⟨⟨p, h2.keep c5 (k 57 (by unfold pgZ; omega)).1 (k 58 (by unfold pgZ; omega)).1 (k 59 (by unfold pgZ; omega)).1 (fun a b hab => e a b (by omega)), fun ht => ?_, by rw [k2]; exact h4, by rw [k2]; exact h5⟩, fun c hc => k c (by unfold pgZ; exact hc.1), k2⟩
  have et : topF q' = topF q := by
    unfold topF
    rw [e 0 4 (by omega), e 9 _ (by omega)]
  rw [c5, e 0 8 (by omega)]
  exact h3 (et ▸ ht)
theorem st_turn (h : CP pg S H L m q) (hpg : pg = 5 ∨ pg = 25) (s : Nat) : cStp pg S H L m (f_X3_turnTo gSH F 55 (nI s) m) (0, aTurn q s) := by
  have r := h.rd hpg (m' := gsI m 55 8 (nI s)) (q' := aTurn q s) (r_turnR h.2.1 s) ((Rk.refl m).i (by unfold rdC; omega) (by omega)) (fun a b h1 h2 h3 h4 => by
    simp only [aTurn, uq]
    rw [if_neg (by omega)]) (fun ht => ⟨by rw [tF_turn] at ht; exact ht, by simp [aTurn, uq]⟩)
  exact ⟨_, r_turn _, fun _ => r.1, r.2⟩
theorem st_open (h : CP pg S H L m q) (hpg : pg = 5 ∨ pg = 25) (hq : q 0 5 ≤ 120) (s : Nat) : cStp pg S H L m (f_X3_openTo gSH F 55 (nI s) m) (aOpen q s) := by
  obtain ⟨m', e1, e2, e3⟩ := r_open (F := F) h.2.1 hq s
  refine ⟨m', e1, fun h0 => ?_, fun c hc => ⟨e3.1 c hc.2, by rw [e3.2.1], by rw [e3.2.1]⟩, by rw [e3.2.1]⟩
  refine (h.rd hpg (e2 h0) e3 (fun a b h1 h2 h3 h4 => ?_) (fun ht => ?_)).1
  · unfold aOpen
    split
    · rfl
    · simp only [aTurn, uq]
      rw [if_neg (by omega), if_neg (by omega)]
  · unfold aOpen at ht ⊢
    split at ht
    · rename_i hc
      rw [if_pos hc]
      exact ⟨ht, rfl⟩
    · rename_i hc
      rw [if_neg hc]
      rw [tF_turn, tF_u5] at ht
      exact ⟨ht, by simp [aTurn, uq]⟩
theorem st_pop (h : CP pg S H L m q) (hpg : pg = 5 ∨ pg = 25) (hd : q 0 4 ≤ 96) (hp : 0 < q 0 4) (hj : ∀ j, j + 1 < q 0 4 → q 9 j ≠ 10) (s : Nat) : cStp pg S H L m (f_X3_popTo gSH F 55 (nI s) m) (0, aPop q s) := by
  obtain ⟨m', e1, e2, e3⟩ := r_pop (F := F) h.2.2.2.2 h.2.1 hd hp s
  have r := h.rd hpg e2 e3 (fun a b h1 h2 h3 h4 => by
    simp only [aPop, aTurn, uq]
    rw [if_neg (by omega), if_neg (by omega), if_neg (by omega)]) (fun ht => absurd ht (tF_pop s hj))
  exact ⟨m', e1, fun _ => r.1, r.2⟩
theorem st_close (h : CP pg S H L m q) (hpg : pg = 5 ∨ pg = 25) (hd : q 0 4 ≤ 96) (hp : 0 < q 0 4) (h5 : 0 < q 0 5) (hj : ∀ j, j + 1 < q 0 4 → q 9 j ≠ 10) (s : Nat) : cStp pg S H L m (f_X3_closeTo gSH F 55 (nI s) m) (0, aClose q s) := by
  obtain ⟨m', e1, e2, e3⟩ := r_close (F := F) h.2.2.2.2 h.2.1 hd hp h5 s
  have r := h.rd hpg e2 e3 (fun a b h1 h2 h3 h4 => by
    simp only [aClose, aPop, aTurn, uq]
    rw [if_neg (by omega), if_neg (by omega), if_neg (by omega), if_neg (by omega)]) (fun ht => absurd ht (tF_pop s (by simpa [uq] using hj)))
  exact ⟨m', e1, fun _ => r.1, r.2⟩
theorem cp_push (h : CP pg S H L m q) (hpg : pg = 5 ∨ pg = 25) (hd : q 0 4 < 96) (f a : Nat) (hf : f ≠ 10) : ∃ m', f_X3_push gSH F 55 (nI f) (nI a) m = some m' ∧ CP pg S H L m' (aPush q f a) ∧ Kp pg m m' := by
  obtain ⟨m', e1, e2, e3⟩ := r_push (F := F) h.2.2.2.2 h.2.1 hd f a
  have r := h.rd hpg e2 e3 (fun a b h1 h2 h3 h4 => by
    simp only [aPush, uq]
    rw [if_neg (by omega), if_neg (by omega), if_neg (by omega), if_neg (by omega)]) (fun ht => absurd ((tF_push _ _ _).symm.trans ht) hf)
  exact ⟨m', e1, r.1, r.2⟩
theorem cp_top (h : CP pg S H L m q) (hpg : pg = 5 ∨ pg = 25) (hd : q 0 4 ≤ 96) (hp : 0 < q 0 4) (f a : Nat) (hf : f ≠ 10) : ∃ m', f_X3_setTop gSH F 55 (nI f) (nI a) m = some m' ∧ CP pg S H L m' (aTop q f a) ∧ Kp pg m m' := by
  obtain ⟨m', e1, e2, e3⟩ := r_top (F := F) h.2.2.2.2 h.2.1 hd hp f a
  have r := h.rd hpg e2 e3 (fun a b h1 h2 h3 h4 => by
    simp only [aTop, uq]
    rw [if_neg (by omega), if_neg (by omega)]) (fun ht => absurd ((tF_top _ _ hp).symm.trans ht) hf)
  exact ⟨m', e1, r.1, r.2⟩
theorem cp_here (h : CP pg S H L m q) (hpg : pg = 5 ∨ pg = 25) (s : Nat) : CP pg S H L (gsI m 55 7 (nI s)) (uq q 0 6 s) ∧ Kp pg m (gsI m 55 7 (nI s)) :=
  h.rd hpg (r_here h.2.1 s) ((Rk.refl m).i (by unfold rdC; omega) (by omega)) (fun a b h1 h2 h3 h4 => by
    simp only [uq]
    rw [if_neg (by omega)]) (fun ht => ⟨by rw [tF_u6] at ht; exact ht, by simp [uq]⟩)
theorem cp_scope (h : CP pg S H L m q) (hpg : pg = 5 ∨ pg = 25) (hS : aS q) (hn : q 0 0 < 64) (k p : Nat) : ∃ m', f_X2_makeScope gSH F pg (nI k) (nI p - 1) m = some (nI (q 0 0), m') ∧ CP pg S H L m' (aScope q k p) ∧ Kp pg m m' := by
  obtain ⟨m', e1, e2, e3, e4⟩ := p_scope (F := F) hpg h.2.2.2.1 h.1 hS hn k p
  have r := h.pr hpg e2 e3 e4 (fun a b hab => by
    simp only [aScope, uq]
    rw [if_neg (by omega), if_neg (by omega), if_neg (by omega)])
  exact ⟨m', e1, r.1, r.2⟩
theorem cp_decl (h : CP pg S H L m q) (hpg : pg = 5 ∨ pg = 25) (hS : aS q) (hn : q 0 1 < 60) {sc i : Nat} (hsc : sc < q 0 0) (t : cTk S H L m i) : ∃ m', f_X2_declare gSH F pg (nI sc) 56 m = some (nI (q 0 1), m') ∧ CP pg S H L m' (aDecl q sc i 0) ∧ Kp pg m m' := by
  obtain ⟨m', e1, e2, e3, e4⟩ := p_decl (F := F) hpg h.2.2.2.1 h.1 hS hn hsc t.1 t.2.1 t.2.2
  have r := h.pr hpg e2 e3 e4 (fun a b hab => by
    simp only [aDecl, uq]
    rw [if_neg (by omega), if_neg (by omega), if_neg (by omega), if_neg (by omega)])
  exact ⟨m', e1, r.1, r.2⟩
theorem cp_ref (h : CP pg S H L m q) (hpg : pg = 5 ∨ pg = 25) (hn : q 0 2 < 100) {sc i : Nat} (t : cTk S H L m i) : ∃ m', f_X2_refer gSH F pg (nI sc) 56 m = some (nI (q 0 2), m') ∧ CP pg S H L m' (aRef q sc i) ∧ Kp pg m m' := by
  obtain ⟨m', e1, e2, e3, e4⟩ := p_ref (F := F) (sc := sc) hpg h.2.2.2.1 h.1 hn t.1 t.2.1 t.2.2
  have r := h.pr hpg e2 e3 e4 (fun a b hab => by
    simp only [aRef, uq]
    rw [if_neg (by omega), if_neg (by omega), if_neg (by omega), if_neg (by omega), if_neg (by omega)])
  exact ⟨m', e1, r.1, r.2⟩
theorem cStp.of {m0 : gM} {o : Option (Int32 × gM)} {a : Nat × (Nat → Nat → Nat)} (h : cStp pg S H L m o a) (k : Kp pg m0 m) : cStp pg S H L m0 o a := by
  obtain ⟨m', e1, e2, e3⟩ := h
  exact ⟨m', e1, e2, k.trans e3⟩
theorem st_code (h : CP pg S H L m q) {c : Nat} (hc : c ≠ 0) : cStp pg S H L m (some (nI c, m)) (c, q) := ⟨m, rfl, fun e => absurd e hc, Kp.refl m⟩
theorem st_sw (h : CP pg S H L m q) (hpg : pg = 5 ∨ pg = 25) (hS : aS q) (hd : q 0 4 < 96) (k n : Nat) (hk : k ≠ 10) : cStp pg S H L m (f_X3_takeScopeWord gSH F 55 (nI k) (nI n) m) (aSW q k n) := by
  obtain ⟨o1, -⟩ := gP hpg
  have hR := h.2.2.2.2.2.2.2.2
  have a3 := h.2.1.1.2.2.1
  have hq := hS.1.2.1
  have hh := hS.1.2.2.2.2.2.1
  unfold f_X3_takeScopeWord aSW
  rw [ob_55, g_ift, hR, g_bs, o1, g_ift, a3]
  by_cases c : 64 ≤ q 0 0
  · rw [if_pos c, p_scopeF hpg h.1 c hq, g_bs, g_nmb, g_nmb, if_pos rfl]
    exact st_code h (by decide)
  · rw [if_neg c]
    obtain ⟨m1, e1, c1, k1⟩ := cp_scope (F := F) h hpg hS (by omega) k (q 0 6 + 1)
    rw [nI_pred] at e1
    rw [e1, g_bs, g_nmb, g_nmb, if_neg (show ¬ nI (q 0 0) = -1 from nI_m1 (by omega))]
    obtain ⟨m2, e2, c2, k2⟩ := cp_push (F := F) c1 hpg (by simpa [aScope, uq] using hd) k (q 0 0) hk
    rw [e2, g_bs, g_id]
    exact (st_turn c2 hpg n).of (k1.trans k2)
theorem st_first (h : CP pg S H L m q) (hpg : pg = 5 ∨ pg = 25) (hq : q 0 2 ≤ 100) {i : Nat} (t : cTk S H L m i) : cStp pg S H L m (f_X3_takeFirstOfLong gSH F 55 m) (aFirst i q) := by
  obtain ⟨o1, -⟩ := gP hpg
  have hR := h.2.2.2.2.2.2.2.2
  have hR0 := h.2.2.2.2.1
  have a3 := h.2.1.1.2.2.1
  unfold f_X3_takeFirstOfLong aFirst
  rw [ob_55, g_ift, hR, g_bs, hR0, g_bs, o1, g_ift, a3]
  by_cases c : 100 ≤ q 0 2
  · rw [if_pos c, p_refF hpg h.2.2.2.1 h.1 c hq, g_bs, g_nmb, g_nmb, if_pos rfl]
    exact st_code h (by decide)
  · rw [if_neg c]
    obtain ⟨m1, e1, c1, k1⟩ := cp_ref (F := F) (sc := q 0 6) h hpg (by omega) t
    rw [e1, g_bs, g_nmb, g_nmb, if_neg (show ¬ nI (q 0 2) = -1 from nI_m1 (by omega)), g_id]
    exact (st_turn c1 hpg 11).of k1
theorem st_declIn (h : CP pg S H L m q) (hpg : pg = 5 ∨ pg = 25) (hS : aS q) {i sc : Nat} (hsc : sc < q 0 0) (n : Nat) (t : cTk S H L m i) : cStp pg S H L m (f_X3_declareIn gSH F 55 (nI sc) (nI n) m) (aDeclIn i q sc n) := by
  obtain ⟨o1, -⟩ := gP hpg
  have hR := h.2.2.2.2.2.2.2.2
  have hR0 := h.2.2.2.2.1
  have hq := hS.1.2.2.1
  unfold f_X3_declareIn aDeclIn
  rw [ob_55, g_ift, hR, g_bs, hR0, g_bs, o1, g_ift]
  by_cases c : 60 ≤ q 0 1
  · rw [if_pos c, p_declF hpg h.2.2.2.1 h.1 c hq, g_bs, g_nmb, g_nmb, if_pos rfl]
    exact st_code h (by decide)
  · rw [if_neg c]
    obtain ⟨m1, e1, c1, k1⟩ := cp_decl (F := F) h hpg hS (by omega) hsc t
    rw [e1, g_bs, g_nmb, g_nmb, if_neg (show ¬ nI (q 0 1) = -1 from nI_m1 (by omega)), g_id]
    exact (st_turn c1 hpg n).of k1
theorem k_lit {k v : Nat} (hk : k < 300) (hv : v < 300) : (nI k = nI v ↔ k = v) := nI_eq (by omega) (by omega)
theorem st_atom (h : CP pg S H L m q) (hpg : pg = 5 ∨ pg = 25) (hS : aS q) (hd : q 0 4 < 96) {i k : Nat} (hk : k < 300) (t : k = 264 → cTk S H L m i) : cStp pg S H L m (f_X3_takeAtom gSH F 55 (nI k) m) (aAtom i k q) := by
  have a3 := h.2.1.1.2.2.1
  have hq5 := hS.1.2.2.2.2.2.2
  unfold f_X3_takeAtom aAtom
  rw [ob_55, g_ift, g_ift, g_ift, g_ift, g_ift, g_ift, g_ift, a3]
  by_cases c1 : k = 40
  · rw [if_pos (show nI k = 40 from (k_lit hk (by decide)).mpr c1), if_pos c1]
    obtain ⟨m1, e1, p1, k1⟩ := cp_push (F := F) h hpg hd 12 (q 0 6) (by decide)
    rw [show (12 : Int32) = nI 12 from rfl, e1, g_bs, g_id]
    exact (st_open p1 hpg (by simpa [aPush, uq] using hq5) 10).of k1
  rw [if_neg (show ¬ nI k = 40 from fun e => c1 ((k_lit hk (by decide)).mp e)), if_neg c1]
  by_cases c2 : k = 259
  · rw [if_pos (show nI k = 259 from (k_lit hk (by decide)).mpr c2), if_pos c2, g_id]
    exact st_sw h hpg hS hd 2 4 (by decide)
  rw [if_neg (show ¬ nI k = 259 from fun e => c2 ((k_lit hk (by decide)).mp e)), if_neg c2]
  by_cases c3 : k = 260
  · rw [if_pos (show nI k = 260 from (k_lit hk (by decide)).mpr c3), if_pos c3]
    obtain ⟨m1, e1, p1, k1⟩ := cp_push (F := F) h hpg hd 3 (q 0 6) (by decide)
    rw [show (3 : Int32) = nI 3 from rfl, e1, g_bs, g_id]
    exact (st_turn p1 hpg 5).of k1
  rw [if_neg (show ¬ nI k = 260 from fun e => c3 ((k_lit hk (by decide)).mp e)), if_neg c3]
  by_cases c4 : k = 261
  · rw [if_pos (show nI k = 261 from (k_lit hk (by decide)).mpr c4), if_pos c4, g_id]
    exact st_sw h hpg hS hd 4 5 (by decide)
  rw [if_neg (show ¬ nI k = 261 from fun e => c4 ((k_lit hk (by decide)).mp e)), if_neg c4]
  by_cases c5 : k = 262
  · rw [if_pos (show nI k = 262 from (k_lit hk (by decide)).mpr c5), if_pos c5, g_id]
    exact st_sw h hpg hS hd 5 5 (by decide)
  rw [if_neg (show ¬ nI k = 262 from fun e => c5 ((k_lit hk (by decide)).mp e)), if_neg c5]
  by_cases c6 : k = 264
  · rw [if_pos (show nI k = 264 from (k_lit hk (by decide)).mpr c6), if_pos c6, g_id]
    exact st_first h hpg hS.1.2.2.2.1 (t c6)
  rw [if_neg (show ¬ nI k = 264 from fun e => c6 ((k_lit hk (by decide)).mp e)), if_neg c6]
  by_cases c7 : k = 265
  · rw [if_pos (show nI k = 265 from (k_lit hk (by decide)).mpr c7), if_pos c7, g_id]
    exact st_turn h hpg 12
  rw [if_neg (show ¬ nI k = 265 from fun e => c7 ((k_lit hk (by decide)).mp e)), if_neg c7]
  exact st_code h (by decide)
theorem r_hasB {f : Nat} (hf : f < 300) : f_X3_hasBinds gSH F (nI f) m = some (b2 (hasB f), m) := by
  unfold f_X3_hasBinds b_X3_hasBinds_15 hasB
  by_cases c1 : f = 3
  · rw [if_pos (show nI f = 3 from (k_lit hf (by decide)).mpr c1), c1]
    rfl
  rw [if_neg (show ¬ nI f = 3 from fun e => c1 ((k_lit hf (by decide)).mp e))]
  by_cases c2 : f = 4
  · rw [if_pos (show nI f = 4 from (k_lit hf (by decide)).mpr c2), c2]
    rfl
  rw [if_neg (show ¬ nI f = 4 from fun e => c2 ((k_lit hf (by decide)).mp e))]
  by_cases c3 : f = 5
  · rw [if_pos (show nI f = 5 from (k_lit hf (by decide)).mpr c3), c3]
    rfl
  rw [if_neg (show ¬ nI f = 5 from fun e => c3 ((k_lit hf (by decide)).mp e))]
  simp [c1, c2, c3, b2]
theorem st_in (h : CP pg S H L m q) (hpg : pg = 5 ∨ pg = 25) (hd : q 0 4 ≤ 96) (hp : 0 < q 0 4) : cStp pg S H L m (f_X3_takeIn gSH F 55 m) (0, aIn q) := by
  unfold f_X3_takeIn aIn
  obtain ⟨p1, k1⟩ := cp_here h hpg (topI q)
  obtain ⟨m2, e2, p2, k2⟩ := cp_top (F := F) p1 hpg (by simpa [uq] using hd) (by simpa [uq] using hp) 13 (topI q) (by decide)
  rw [ob_55, g_ift, r_topI h.2.2.2.2 h.2.1 hd, g_bs, g_nmb, g_nmb, g_nmb, show (gsI m 55 7 (nI (topI q))).1 55 7 = nI (topI q) by rw [gI_1, if_pos ⟨rfl, rfl⟩], show (13 : Int32) = nI 13 from rfl, e2, g_bs, g_id]
  exact (st_turn p2 hpg 9).of (k1.trans k2)
theorem st_impEnd (h : CP pg S H L m q) (hpg : pg = 5 ∨ pg = 25) (hW : aW q) (hF : 5000 ≤ F) (ht : topF q = 10) : cStp pg S H L m (f_X3_takeImportEnd gSH F 55 m) (0, aPop (aImp q) 0) := by
  obtain ⟨o1, -⟩ := gP hpg
  have hR := h.2.2.2.2.2.2.2.2
  have a3 := h.2.1.1.2.2.1
  have a9 := h.2.2.1 ht
  have hZ := hW.2.1
  have hd := aZs_d hZ hW.1.1.2.2.2.2.2.2 hW.1.1.2.2.1
  have hp := tF_pos (show topF q ≠ 14 by omega)
  unfold aZs at hZ
  unfold f_X3_takeImportEnd
  obtain ⟨m1, e1, e2, e3, e4⟩ := p_import (F := F) hpg h.2.2.2.1 h.1 hW.1 (by omega) (by omega) hF
  have r := h.pr hpg e2 e3 e4 (fun a b hab => by
    simp only [aImp]
    rw [if_neg (by omega), if_neg (by omega), if_neg (by omega), if_neg (by omega), if_neg (by omega), if_neg (by omega)])
  rw [ob_55, g_ift, hR, g_bs, o1, g_ift, a3, a9, e1, g_bs, g_id]
  exact (st_pop r.1 hpg (by simp [aImp]; omega) (by simpa [aImp] using hp) (by simpa [aImp] using hW.2.2) 0).of r.2
theorem st_beh (h : CP pg S H L m q) (hpg : pg = 5 ∨ pg = 25) (hW : aW q) (hF : 5000 ≤ F) {i k : Nat} (hk : k < 300) (t : k = 264 → cTk S H L m i) : cStp pg S H L m (f_X3_takeBehindAtom gSH F 55 (nI k) m) (aBeh i k q) := by
  have hS := hW.1
  have hZ := hW.2.1
  have hj := hW.2.2
  have hd := aZs_d hZ hS.1.2.2.2.2.2.2 hS.1.2.2.1
  have hf : topF q ≤ 14 := by
    have a := hS.2.2.2.2.1 (q 0 4 - 1)
    unfold topF
    split <;> omega
  have fl : ∀ v : Nat, v < 300 → (nI (topF q) = nI v ↔ topF q = v) := fun v hv => k_lit (by omega) hv
  unfold f_X3_takeBehindAtom aBeh b_X3_takeBehindAtom_135
  rw [ob_55, g_ift, r_topF h.2.2.2.2 h.2.1 (by omega), g_bs, g_nmb, g_nmb]
  by_cases t0 : topF q = 10
  · rw [if_pos (show nI (topF q) = 10 from (fl 10 (by decide)).mpr t0), if_pos t0]
    by_cases c : k = 59
    · rw [if_pos (show nI k = 59 from (k_lit hk (by decide)).mpr c), if_pos c, g_id]
      exact st_impEnd h hpg hW hF t0
    · rw [if_neg (show ¬ nI k = 59 from fun e => c ((k_lit hk (by decide)).mp e)), if_neg c]
      exact st_code h (by decide)
  rw [if_neg (show ¬ nI (topF q) = 10 from fun e => t0 ((fl 10 (by decide)).mp e)), if_neg t0]
  by_cases c1 : k = 41
  · rw [if_pos (show nI k = 41 from (k_lit hk (by decide)).mpr c1), if_pos c1]
    by_cases c : topF q = 12
    · rw [if_pos (show nI (topF q) = 12 from (fl 12 (by decide)).mpr c), if_pos c, g_id]
      have hp := tF_pos (show topF q ≠ 14 by omega)
      exact st_close h hpg (by omega) hp (by omega) hj 12
    · rw [if_neg (show ¬ nI (topF q) = 12 from fun e => c ((fl 12 (by decide)).mp e)), if_neg c]
      exact st_code h (by decide)
  rw [if_neg (show ¬ nI k = 41 from fun e => c1 ((k_lit hk (by decide)).mp e)), if_neg c1]
  by_cases c2 : k = 43
  · rw [if_pos (show nI k = 43 from (k_lit hk (by decide)).mpr c2), if_pos c2, g_id]
    exact st_turn h hpg 10
  rw [if_neg (show ¬ nI k = 43 from fun e => c2 ((k_lit hk (by decide)).mp e)), if_neg c2]
  by_cases c3 : k = 44
  · rw [if_pos (show nI k = 44 from (k_lit hk (by decide)).mpr c3), if_pos c3, r_hasB (by omega), g_bs, g_nmb, g_nmb]
    cases hb : hasB (topF q)
    · rw [if_pos (show b2 false = 0 by decide), if_neg (by decide)]
      exact st_code h (by decide)
    · rw [if_neg (show ¬ b2 true = 0 by decide), if_pos rfl, g_id]
      exact st_turn h hpg 5
  rw [if_neg (show ¬ nI k = 44 from fun e => c3 ((k_lit hk (by decide)).mp e)), if_neg c3]
  by_cases c4 : k = 59
  · rw [if_pos (show nI k = 59 from (k_lit hk (by decide)).mpr c4), if_pos c4]
    by_cases c : topF q = 11
    · rw [if_pos (show nI (topF q) = 11 from (fl 11 (by decide)).mpr c), if_pos c, g_id]
      have hp := tF_pos (show topF q ≠ 14 by omega)
      exact st_pop h hpg (by omega) hp hj 0
    · rw [if_neg (show ¬ nI (topF q) = 11 from fun e => c ((fl 11 (by decide)).mp e)), if_neg c]
      exact st_code h (by decide)
  rw [if_neg (show ¬ nI k = 59 from fun e => c4 ((k_lit hk (by decide)).mp e)), if_neg c4]
  by_cases c5 : k = 125
  · rw [if_pos (show nI k = 125 from (k_lit hk (by decide)).mpr c5), if_pos c5]
    by_cases c : topF q = 2
    · rw [if_pos (show nI (topF q) = 2 from (fl 2 (by decide)).mpr c), if_pos c, g_ift, g_id]
      have hp := tF_pos (show topF q ≠ 14 by omega)
      exact st_close h hpg (by omega) hp (by omega) hj 12
    rw [if_neg (show ¬ nI (topF q) = 2 from fun e => c ((fl 2 (by decide)).mp e)), if_neg c]
    by_cases c : topF q = 13
    · rw [if_pos (show nI (topF q) = 13 from (fl 13 (by decide)).mpr c), if_pos c, g_ift, g_id]
      have hp := tF_pos (show topF q ≠ 14 by omega)
      exact st_close h hpg (by omega) hp (by omega) hj 12
    rw [if_neg (show ¬ nI (topF q) = 13 from fun e => c ((fl 13 (by decide)).mp e)), if_neg c]
    exact st_code h (by decide)
  rw [if_neg (show ¬ nI k = 125 from fun e => c5 ((k_lit hk (by decide)).mp e)), if_neg c5]
  by_cases c6 : k = 263
  · rw [if_pos (show nI k = 263 from (k_lit hk (by decide)).mpr c6), if_pos c6, r_hasB (by omega), g_bs, g_nmb, g_nmb]
    cases hb : hasB (topF q)
    · rw [if_pos (show b2 false = 0 by decide), if_neg (by decide)]
      exact st_code h (by decide)
    · rw [if_neg (show ¬ b2 true = 0 by decide), if_pos rfl, g_id]
      have hb' := hasB_ne hb
      exact st_in h hpg (by omega) (tF_pos (show topF q ≠ 14 by omega))
  rw [if_neg (show ¬ nI k = 263 from fun e => c6 ((k_lit hk (by decide)).mp e)), if_neg c6, g_id]
  exact st_atom h hpg hS (by omega) hk t
end STEPS
