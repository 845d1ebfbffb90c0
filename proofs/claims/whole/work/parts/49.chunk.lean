/-! THE REFERENCE'S READER: between two brackets of its loop -/
def isE (f : Nat) : Prop := f = 2 ∨ f = 3 ∨ f = 4 ∨ f = 5 ∨ f = 12 ∨ f = 13
def shp (d : Nat) (f : Nat → Nat) : Prop := (0 < d → f 0 = 1 ∨ f 0 = 11) ∧ ∀ j, j + 1 < d → ((f (j + 1) = 1 ∨ f (j + 1) = 11) → f j = 1) ∧ (isE (f (j + 1)) → f j = 11 ∨ isE (f j))
theorem shp.pop {d : Nat} {f : Nat → Nat} (h : shp d f) : shp (d - 1) f := ⟨fun hd => h.1 (by omega), fun j hj => h.2 j (by omega)⟩
theorem shp.cong {d : Nat} {f g : Nat → Nat} (h : shp d f) (e : ∀ j, j < d → g j = f j) : shp d g := by
  refine ⟨fun hd => by rw [e 0 hd]; exact h.1 hd, fun j hj => ?_⟩
  rw [e (j + 1) hj, e j (by omega)]
  exact h.2 j hj
theorem shp.push {d : Nat} {f g : Nat → Nat} (h : shp d f) (e : ∀ j, j < d → g j = f j) (hc : ((g d = 1 ∨ g d = 11) ∧ (0 < d → f (d - 1) = 1)) ∨ (isE (g d) ∧ 0 < d ∧ (f (d - 1) = 11 ∨ isE (f (d - 1))))) : shp (d + 1) g := by
  refine ⟨fun _ => ?_, fun j hj => ?_⟩
  · by_cases hd : 0 < d
    · rw [e 0 hd]; exact h.1 hd
    · have hd0 : d = 0 := by omega
      subst hd0
      rcases hc with hc | hc
      · exact hc.1
      · omega
  · by_cases hd : j + 1 < d
    · rw [e (j + 1) hd, e j (by omega)]
      exact h.2 j hd
    · have hjd : d = j + 1 := by omega
      subst hjd
      rw [e j (by omega)]
      unfold isE at *
      rcases hc with ⟨h1, h2⟩ | ⟨h1, h2, h3⟩
      · have := h2 (by omega)
        refine ⟨fun _ => this, fun h => by omega⟩
      · refine ⟨fun h => by omega, fun _ => h3⟩
theorem shp.under {d : Nat} {f : Nat → Nat} (h : shp d f) (hd : 0 < d) : ((f (d - 1) = 1 ∨ f (d - 1) = 11) → 0 < d - 1 → f (d - 1 - 1) = 1) ∧ (isE (f (d - 1)) → 0 < d - 1 ∧ (f (d - 1 - 1) = 11 ∨ isE (f (d - 1 - 1)))) := by
  by_cases h1 : d = 1
  · subst h1
    have := h.1 (by omega)
    unfold isE
    refine ⟨fun _ h => by omega, fun h => ?_⟩
    simp at h this
    omega
  · have := h.2 (d - 1 - 1) (by omega)
    rw [show d - 1 - 1 + 1 = d - 1 by omega] at this
    exact ⟨fun h _ => this.1 h, fun h => ⟨by omega, this.2 h⟩⟩
/-- a def's scope comes back -/
def dSc (d h : Nat) (f o : Nat → Nat) : Prop := ∀ j, j < d → f j = 11 → (j + 1 = d → h = o j) ∧ (j + 1 < d → o (j + 1) = o j)
theorem dSc.push {d h h' : Nat} {f o g o' : Nat → Nat} (H : dSc d h f o) (e : ∀ j, j < d → g j = f j) (e' : ∀ j, j < d → o' j = o j) (ed : o' d = h) (hg : g d = 11 → h' = o' d) : dSc (d + 1) h' g o' := by
  intro j hj hf
  by_cases hd : j = d
  · subst hd
    exact ⟨fun _ => hg hf, fun h => by omega⟩
  · rw [e j (by omega)] at hf
    obtain ⟨a, c⟩ := H j (by omega) hf
    refine ⟨fun h => by omega, fun _ => ?_⟩
    by_cases h1 : j + 1 = d
    · rw [h1, ed, e' j (by omega)]
      exact a h1
    · rw [e' (j + 1) (by omega), e' j (by omega)]
      exact c (by omega)
theorem dSc.pop {d h h' : Nat} {f o g o' : Nat → Nat} (H : dSc d h f o) (hd : 0 < d) (e : ∀ j, j < d → g j = f j) (e' : ∀ j, j < d → o' j = o j) (hh : h' = o (d - 1)) : dSc (d - 1) h' g o' := by
  intro j hj hf
  rw [e j (by omega)] at hf
  obtain ⟨a, c⟩ := H j (by omega) hf
  refine ⟨fun h => ?_, fun h => ?_⟩
  · rw [hh, e' j (by omega), ← h]
    rw [← h] at *
    exact c (by omega)
  · rw [e' (j + 1) (by omega), e' j (by omega)]
    exact c (by omega)
theorem dSc.here {d h h' : Nat} {f o g o' : Nat → Nat} (H : dSc d h f o) (e : ∀ j, j + 1 < d → g j = f j) (e' : ∀ j, j < d → o' j = o j) (hg : 0 < d → g (d - 1) ≠ 11) : dSc d h' g o' := by
  intro j hj hf
  by_cases hd : j + 1 = d
  · exact absurd (by rw [← hd]; exact hf) (hg (by omega))
  · rw [e j (by omega)] at hf
    obtain ⟨a, c⟩ := H j (by omega) hf
    refine ⟨fun h => absurd h hd, fun h => ?_⟩
    rw [e' (j + 1) (by omega), e' j (by omega)]
    exact c (by omega)
/-- at a bracket of the loop -/
def aBd (q : Nat → Nat → Nat) : Prop := ((q 0 7 = 0 ∧ (0 < q 0 4 → q 9 (q 0 4 - 1) = 1)) ∨ ((q 0 7 = 10 ∨ q 0 7 = 11 ∨ q 0 7 = 12) ∧ 0 < q 0 4 ∧ (q 9 (q 0 4 - 1) = 11 ∨ isE (q 9 (q 0 4 - 1))))) ∧ shp (q 0 4) (q 9) ∧ dSc (q 0 4) (q 0 6) (q 9) (q 10)
section REF
variable {b : Nat → Nat} {n F : Nat} {m0 m : gM} {q qa : Nat → Nat → Nat} {x21 x50 x51 : Int32} {i j : Nat}
def RB (b : Nat → Nat) (n : Nat) (m0 m : gM) (i : Nat) (q : Nat → Nat → Nat) : Prop := ∃ x50 x51, RM b n m0 m q (nI (q 0 3)) x50 x51 ∧ TKn b n m i ∧ aW q ∧ aBd q ∧ (0 < q 0 2 → x50 = 0) ∧ (q 0 7 = 10 → x51 = 0) ∧ (q 0 7 = 11 ∨ q 0 7 = 12 → ∃ a, x51 = nI a ∧ 1 ≤ a ∧ a ≤ i) ∧ (q 0 7 = 11 → kK b n i ≠ 46)
def eOut (b : Nat → Nat) (n : Nat) (m0 : gM) (i : Nat) (q : Nat → Nat → Nat) (r : Int32) (m' : gM) : Prop := (r = 1 ∧ ∃ i' q', aGo (kK b n) i q i' q' ∧ i < i' ∧ RB b n m0 m' i' q') ∨ (r = 0 ∧ ∃ c i', c ≠ 0 ∧ c < 2 ^ 31 ∧ aEnd (kK b n) i q c i' ∧ FLt b n m0 m' c i')
theorem eOut.z {r : Int32} (h : eOut b n m0 i q r m) : r = 0 ∨ r = 1 := by
  rcases h with h | h
  · exact Or.inr h.1
  · exact Or.inl h.1
theorem out_bad {m' : gM} (g : aGo (kK b n) i q j qa) (h : kK b n j = 267) (f : FLt b n m0 m' 1 j) : eOut b n m0 i q 0 m' := Or.inr ⟨rfl, 1, j, by decide, by decide, g.stop (.bad h), f⟩
theorem out_hit {m' : gM} {c : Nat} {qx : Nat → Nat → Nat} (g : aGo (kK b n) i q j qa) (h : kK b n j ≠ 267) (e : aT j (kK b n j) qa = (c, qx)) (hc : c ≠ 0) (f : FLt b n m0 m' c j) : eOut b n m0 i q 0 m' := Or.inr ⟨rfl, c, j, hc, by
  have := aT_lt j (kK b n j) qa
  rw [e] at this
  exact this, g.stop (.hit h e hc), f⟩
theorem aW_go {k : Nat} {q' : Nat → Nat → Nat} (h : aW q) (e : aT i k q = (0, q')) : aW q' := by
  have := aW_T (i := i) (k := k) h (by rw [e])
  rw [e] at this
  exact this
theorem fin_next (hM : MadeR m0 b n) (hW : WdR m0) (hF : 5000 ≤ F) (h : RM b n m0 m qa (nI (qa 0 3)) x50 x51) (t : TKn b n m j) (hk : kK b n j ≠ 266) (g : aGo (kK b n) i q (j + 1) qa) (hi : i ≤ j) (w : aW qa) (bd : aBd qa) (h50 : 0 < qa 0 2 → x50 = 0) (h51 : qa 0 7 = 10 → x51 = 0) (h12 : qa 0 7 = 12 → ∃ a, x51 = nI a ∧ 1 ≤ a ∧ a ≤ j + 1) (h11 : qa 0 7 ≠ 11) : eWp (f_X8_next gSH F 62 m) (eOut b n m0 i q) := by
  refine (e_next hM hW hF h t hk).mono (fun r m' h => ?_)
  rcases h with ⟨rfl, h1, h2⟩ | ⟨rfl, h1, h2⟩
  · exact out_bad g h1 h2
  · exact Or.inl ⟨rfl, j + 1, qa, g, by omega, x50, x51, h1, h2, w, bd, h50, h51, fun h => h12 (by omega), fun h => absurd h h11⟩
theorem one0 : ¬ (1 : Int32) = 0 := by decide
/-- the small steps with what follows -/
theorem x_nx {g : gM → Option (Int32 × gM)} {P : Int32 → gM → Prop} (hM : MadeR m0 b n) (hW : WdR m0) (hF : 5000 ≤ F) (R : RM b n m0 m qa x21 x50 x51) (T : TKn b n m j) (hk : kK b n j ≠ 266) (h0 : ∀ m', kK b n (j + 1) = 267 → FLt b n m0 m' 1 (j + 1) → P 0 m') (h1 : ∀ m', RM b n m0 m' qa x21 x50 x51 → TKn b n m' (j + 1) → eWp (g m') P) : eWp ((f_X8_next gSH F 62 m).bind (fun x => nm x.1 (fun r => nm x.2 (fun m => if r = 0 then some (0, m) else g m)))) P := by
  refine (e_next hM hW hF R T hk).bn ?_
  rintro r m' (⟨rfl, a, c⟩ | ⟨rfl, a, c⟩)
  · rw [if_pos rfl]; exact .so (h0 m' a c)
  · rw [if_neg one0]; exact h1 m' a c
theorem x_is {g : Int32 → gM → Option (Int32 × gM)} {P : Int32 → gM → Prop} (hb : ∀ i, i < n → b i < 256) (T : TKn b n m j) {c : Nat} (hc : c < 256) (h1 : kK b n j = c → eWp (g 1 m) P) (h0 : kK b n j ≠ c → eWp (g 0 m) P) : eWp ((f_X8_is gSH F 62 (nI c) m).bind (fun x => nm x.1 (fun r => nm x.2 (fun m => g r m)))) P := by
  rw [e_is hb T hc]
  by_cases h : kK b n j = c
  · rw [if_pos h]; exact h1 h
  · rw [if_neg h]; exact h0 h
theorem x_od {P : Int32 → gM → Prop} (R : RM b n m0 m qa x21 x50 x51) (T : TKn b n m j) (h : ∀ m', FLt b n m0 m' 2 j → P 0 m') : eWp ((f_X8_odd gSH F 62 m).bind (fun x => nm x.1 (fun r => nm x.2 (fun m => g_if (zB r) (some (r, m)))))) P := by
  refine (e_odd R T).bn ?_
  rintro r m' ⟨rfl, hf⟩
  exact .so (h m' hf)
theorem x_bl {P : Int32 → gM → Prop} {c : Nat} (R : RM b n m0 m qa x21 x50 x51) (T : TKn b n m j) (h : ∀ m', FLt b n m0 m' c j → P 0 m') : eWp ((f_X8_blame gSH F 62 (nI c) (m.1 62 40) m).bind (fun x => nm x.1 (fun r => nm x.2 (fun m => g_if (zB r) (some (r, m)))))) P := by
  refine (e_blame R T).bn ?_
  rintro r m' ⟨rfl, hf⟩
  exact .so (h m' hf)
theorem x_dc {g : gM → Option (Int32 × gM)} {P : Int32 → gM → Prop} (hR : RPt m0) (R : RM b n m0 m qa x21 x50 x51) (T : TKn b n m j) (hk : kK b n j = 264) (hq : qa 0 1 ≤ 60) {p v : Int32} {sc has : Nat} (hp : p = nI sc) (hv : v = nI has - 1) (h0 : 60 ≤ qa 0 1 → ∀ m', FLt b n m0 m' 4 j → P 0 m') (h1 : ¬ 60 ≤ qa 0 1 → ∀ m', RM b n m0 m' (aDecl qa sc j has) x21 x50 x51 → TKn b n m' j → eWp (g m') P) : eWp ((f_X8_declare gSH F 62 p v m).bind (fun x => nm x.1 (fun r => nm x.2 (fun m => if r = 0 then some (0, m) else g m)))) P := by
  by_cases h : 60 ≤ qa 0 1
  · refine (e_declF R T h hq p v).bn ?_
    rintro r m' ⟨rfl, hf⟩
    rw [if_pos rfl]; exact .so (h0 h m' hf)
  · refine (e_decl hR R T hk (by omega) hp hv).bn ?_
    rintro r m' ⟨rfl, a, c⟩
    rw [if_neg one0]; exact h1 h m' a c
theorem x_sc {g : gM → Option (Int32 × gM)} {P : Int32 → gM → Prop} (hR : RPt m0) (R : RM b n m0 m qa x21 x50 x51) (T : TKn b n m j) (hq : qa 0 0 ≤ 64) {p v : Int32} {par kd : Nat} (hp : p = nI par - 1) (hv : v = nI kd) (h0 : 64 ≤ qa 0 0 → ∀ m', FLt b n m0 m' 5 j → P 0 m') (h1 : ¬ 64 ≤ qa 0 0 → ∀ m', RM b n m0 m' (aScope qa kd par) x21 x50 x51 → TKn b n m' j → eWp (g m') P) : eWp ((f_X8_newScope gSH F 62 p v (m.1 62 40) m).bind (fun x => nm x.1 (fun r => nm x.2 (fun m => if r = 0 then some (0, m) else g m)))) P := by
  subst hv
  by_cases h : 64 ≤ qa 0 0
  · refine (e_scopeF R T h hq p _).bn ?_
    rintro r m' ⟨rfl, hf⟩
    rw [if_pos rfl]; exact .so (h0 h m' hf)
  · refine (e_scope hR R T (by omega) hp).bn ?_
    rintro r m' ⟨rfl, a, c⟩
    rw [if_neg one0]; exact h1 h m' a c
theorem x_br {g : gM → Option (Int32 × gM)} {P : Int32 → gM → Prop} (R : RM b n m0 m qa x21 x50 x51) (T : TKn b n m j) (hq : qa 0 5 ≤ 120) (h0 : 120 ≤ qa 0 5 → ∀ m', FLt b n m0 m' 3 j → P 0 m') (h1 : ¬ 120 ≤ qa 0 5 → ∀ m', RM b n m0 m' (uq qa 0 5 (qa 0 5 + 1)) x21 x50 x51 → TKn b n m' j → eWp (g m') P) : eWp ((f_X8_bracket gSH F 62 m).bind (fun x => nm x.1 (fun r => nm x.2 (fun m => if r = 0 then some (0, m) else g m)))) P := by
  by_cases h : 120 ≤ qa 0 5
  · refine (e_brackF R T h hq).bn ?_
    rintro r m' ⟨rfl, hf⟩
    rw [if_pos rfl]; exact .so (h0 h m' hf)
  · refine (e_brack R T (by omega)).bn ?_
    rintro r m' ⟨rfl, a, c⟩
    rw [if_neg one0]; exact h1 h m' a c
theorem x_op {g : gM → Option (Int32 × gM)} {P : Int32 → gM → Prop} (hR : RPt m0) (R : RM b n m0 m qa x21 x50 x51) (T : TKn b n m j) (hn : qa 0 4 < 300) (fr inn : Nat) {v : Int32} (hv : v = nI (fk fr)) (hB : hasB fr = false) (h1 : ∀ m', RM b n m0 m' (aPush qa fr inn) x21 x50 x51 → TKn b n m' j → eWp (g m') P) : eWp ((f_X8_open gSH F 62 v m).bind g) P := by
  subst hv
  obtain ⟨m', e, a, c⟩ := e_open (F := F) hR R T hn inn rfl hB
  rw [e]
  exact h1 m' a c
theorem RM.e2 {q' : Nat → Nat → Nat} (h : RM b n m0 m q x21 x50 x51) (e0 : q' 0 0 = q 0 0 ∧ q' 0 1 = q 0 1 ∧ q' 0 2 = q 0 2 ∧ q' 0 4 = q 0 4 ∧ q' 0 5 = q 0 5 ∧ q' 0 6 = q 0 6) (e1 : ∀ r, q' 1 r = q 1 r ∧ q' 2 r = q 2 r ∧ q' 3 r = q 3 r ∧ q' 4 r = q 4 r ∧ q' 5 r = q 5 r ∧ q' 6 r = q 6 r ∧ q' 7 r = q 7 r ∧ q' 8 r = q 8 r ∧ q' 9 r = q 9 r ∧ q' 10 r = q 10 r ∧ q' 11 r = q 11 r) : RM b n m0 m q' x21 x50 x51 := by
  refine h.eq (fun c r hc h0 => ?_)
  obtain ⟨a1, a2, a3, a4, a5, a6⟩ := e0
  obtain ⟨b1, b2, b3, b4, b5, b6, b7, b8, b9, b10, b11⟩ := e1 r
  have : c = 0 ∨ c = 1 ∨ c = 2 ∨ c = 3 ∨ c = 4 ∨ c = 5 ∨ c = 6 ∨ c = 7 ∨ c = 8 ∨ c = 9 ∨ c = 10 ∨ c = 11 := by omega
  rcases this with rfl | rfl | rfl | rfl | rfl | rfl | rfl | rfl | rfl | rfl | rfl | rfl
  · have : r = 0 ∨ r = 1 ∨ r = 2 ∨ r = 4 ∨ r = 5 ∨ r = 6 := by omega
    rcases this with rfl | rfl | rfl | rfl | rfl | rfl <;> assumption
  all_goals assumption
/-- module NAME { -/
theorem c_mod (hM : MadeR m0 b n) (hW : WdR m0) (hR : RPt m0) (hF : 5000 ≤ F) (h : RB b n m0 m i q) (hst : q 0 7 = 0) (hk : kK b n i = 256) : eWp (f_X8_dec gSH F 62 m) (eOut b n m0 i q) := by
  have hb : ∀ i, i < n → b i < 256 := fun i hi => (hM.2.2.2 i hi).1
  obtain ⟨x50, x51, R, T, w, bd, h50, -, -, -⟩ := h
  have e1 : aT i 256 q = (0, aTurn q 1) := by simp [aT, aDec, hst]
  have g1 : aGo (kK b n) i q (i + 1) (aTurn q 1) := .step hk e1 (by decide) (by decide)
  have w1 := aW_go w e1
  have s7 : (aTurn q 1) 0 7 = 1 := by simp [aTurn, uq]
  have f0 : (aTurn q 1) 0 0 = q 0 0 := by simp [aTurn, uq]
  have f1 : (aTurn q 1) 0 1 = q 0 1 := by simp [aTurn, uq]
  have f6 : (aTurn q 1) 0 6 = q 0 6 := by simp [aTurn, uq]
  have hS := w.1
  have l0 := hS.1.2.1
  have l1 := hS.1.2.2.1
  have l5 := hS.1.2.2.2.2.2.2
  have hdp := (aZs_d w.2.1 l5 l1).1
  unfold f_X8_dec
  rw [ob_62, g_ift, if_pos (show m.1 62 38 = 10 from (tk_w hb T (w := 10) (by omega) (by omega)).mpr hk)]
  refine (e_next hM hW hF R T (by omega)).bn ?_
  rintro r m1 (⟨rfl, hbad, hf⟩ | ⟨rfl, R1, T1⟩)
  · rw [if_pos rfl]
    unfold b_X8_dec_24
    rw [ob_62, g_ift, hf.2.1, if_neg (by decide)]
    exact .so (out_bad g1 hbad hf)
  rw [if_neg one0]
  by_cases hn : kK b n (i + 1) = 264
  rotate_left
  · rw [if_neg (fun e => hn ((tk_1 hb T1).mp e))]
    unfold b_X8_dec_24
    rw [ob_62, g_ift, R1.2.1, if_pos (by decide)]
    exact x_od R1 T1 (fun m' hf => out_hit g1 T1.2.2.2.2.2.2 (show aT (i + 1) (kK b n (i + 1)) (aTurn q 1) = (2, aTurn q 1) by simp [aT, s7, hn]) (by decide) hf)
  rw [if_pos ((tk_1 hb T1).mpr hn)]
  have eN : aT (i + 1) (kK b n (i + 1)) (aTurn q 1) = aMod (i + 1) (aTurn q 1) := by simp [aT, aName, s7, hn]
  refine x_dc hR R1 T1 hn l1 R1.2.2.2.1.1.2.2 (has := q 0 0 + 1) (by rw [nI_pred]; exact R1.2.2.1.1.1) (fun hd m' hf => ?_) (fun hd m2 R2 T2 => ?_)
  · exact out_hit (c := 4) (qx := aTurn q 1) g1 T1.2.2.2.2.2.2 (by rw [eN]; unfold aMod; rw [f1, if_pos hd]) (by decide) hf
  have e2a : (aDecl q (q 0 6) (i + 1) (q 0 0 + 1)) 0 0 = q 0 0 := by simp [aDecl, uq]
  have e2b : m2.1 62 49 = nI (q 0 6 + 1) - 1 := by
    rw [nI_pred]
    have := R2.2.2.2.1.1.2.2
    simpa [aDecl, uq] using this
  refine x_sc hR R2 T2 (by rw [e2a]; exact l0) e2b (kd := 1) rfl (fun hs m' hf => ?_) (fun hs m3 R3 T3 => ?_)
  · rw [e2a] at hs
    exact out_hit (c := 5) (qx := aTurn q 1) g1 T1.2.2.2.2.2.2 (by rw [eN]; unfold aMod; rw [f1, f0, if_neg hd, if_pos hs]) (by decide) hf
  rw [e2a] at hs
  generalize hq2 : aTurn (uq (aPush (aDecl (aScope (aTurn q 1) 1 (q 0 6 + 1)) (q 0 6) (i + 1) (q 0 0 + 1)) 1 (q 0 0)) 0 6 (q 0 0)) 8 = q2
  have e2 : aT (i + 1) (kK b n (i + 1)) (aTurn q 1) = (0, q2) := by
    rw [eN]
    unfold aMod
    rw [f1, f0, f6, if_neg hd, if_neg hs, hq2]
  have g2 : aGo (kK b n) i q (i + 1 + 1) q2 := g1.trans (.step rfl e2 T1.2.2.2.2.2.2 (by omega))
  have w2 := aW_go w1 e2
  have s8 : q2 0 7 = 8 := by rw [← hq2]; simp [aTurn, uq]
  have f5 : q2 0 5 = q 0 5 := by rw [← hq2]; simp [aTurn, uq, aPush, aDecl, aScope]
  refine x_nx hM hW hF R3 T3 (by omega) (fun m' hbad hf => out_bad g2 hbad hf) (fun m4 R4 T4 => ?_)
  have t4 := T4.2.2.2.2.2.2
  refine x_is hb T4 (c := 123) (by decide) (fun hc => ?_) (fun hc => ?_)
  rotate_left
  · rw [if_pos rfl]
    exact x_od R4 T4 (fun m' hf => out_hit g2 t4 (show aT (i + 1 + 1) (kK b n (i + 1 + 1)) q2 = (2, q2) by simp [aT, s8, hc]) (by decide) hf)
  rw [if_neg one0]
  have f45 : (aScope (aDecl q (q 0 6) (i + 1) (q 0 0 + 1)) 1 (q 0 6 + 1)) 0 5 = q 0 5 := by simp [aScope, aDecl, uq]
  have eO : aT (i + 1 + 1) (kK b n (i + 1 + 1)) q2 = aOpen q2 0 := by simp [aT, s8, hc]
  refine x_br R4 T4 (by rw [f45]; exact l5) (fun ho m' hf => ?_) (fun ho m5 R5 T5 => ?_)
  · rw [f45] at ho
    exact out_hit (c := 3) (qx := q2) g2 t4 (by rw [eO]; unfold aOpen; rw [f5, if_pos ho]) (by decide) hf
  rw [f45] at ho
  refine x_op hR R5 T5 (by simp [aScope, aDecl, uq]; omega) 1 (q 0 0) rfl rfl (fun m6 R6 T6 => ?_)
  rw [g_nmb]
  have R7 := e_here R6 (v := m6.1 62 10 - 1) (s := q 0 0) (by
    rw [R6.2.2.1.1.1]
    simp [aPush, aScope, aDecl, uq]
    exact nI_pred _)
  have e3 : aT (i + 1 + 1) (kK b n (i + 1 + 1)) q2 = (0, aTurn (uq q2 0 5 (q2 0 5 + 1)) 0) := by
    rw [eO]
    unfold aOpen
    rw [f5, if_neg ho]
  have z3 : (aTurn (uq q2 0 5 (q2 0 5 + 1)) 0) 0 3 = q 0 3 := by rw [← hq2]; simp [aTurn, uq, aPush, aDecl, aScope]
  have z2 : (aTurn (uq q2 0 5 (q2 0 5 + 1)) 0) 0 2 = q 0 2 := by rw [← hq2]; simp [aTurn, uq, aPush, aDecl, aScope]
  have z4 : (aTurn (uq q2 0 5 (q2 0 5 + 1)) 0) 0 4 = q 0 4 + 1 := by rw [← hq2]; simp [aTurn, uq, aPush, aDecl, aScope]
  have z7 : (aTurn (uq q2 0 5 (q2 0 5 + 1)) 0) 0 7 = 0 := by simp [aTurn, uq]
  have z9 : ∀ j, (aTurn (uq q2 0 5 (q2 0 5 + 1)) 0) 9 j = if j = q 0 4 then 1 else q 9 j := by rw [← hq2]; intro j; simp [aTurn, uq, aPush, aDecl, aScope]
  have z10 : ∀ j, (aTurn (uq q2 0 5 (q2 0 5 + 1)) 0) 10 j = if j = q 0 4 then q 0 6 else q 10 j := by rw [← hq2]; intro j; simp [aTurn, uq, aPush, aDecl, aScope]
  have R8 := R7.e2 (q' := aTurn (uq q2 0 5 (q2 0 5 + 1)) 0) (by rw [← hq2]; simp [aTurn, uq, aPush, aDecl, aScope]) (fun r => by
    rw [← hq2]
    simp [aTurn, uq, aPush, aDecl, aScope])
  refine (fin_next hM hW hF (by rw [z3]; exact R8) (T6.x (by omega)) (by omega) (g2.trans (.step rfl e3 t4 (by omega))) (by omega) (aW_go w2 e3) ⟨?_, ?_, ?_⟩ (by rw [z2]; exact h50) (fun h => by omega) (fun h => by omega) (fun h => by omega)).tl (fun r m h => h.z)
  · rw [z7, z4, z9]
    exact Or.inl ⟨rfl, fun _ => if_pos (by omega)⟩
  · rw [z4]
    have hs0 : 0 < q 0 4 → q 9 (q 0 4 - 1) = 1 := by
      rcases bd.1 with h | h
      · exact h.2
      · omega
    refine bd.2.1.push (fun j hj => by rw [z9, if_neg (by omega)]) (Or.inl ⟨Or.inl (by rw [z9, if_pos rfl]), hs0⟩)
  · rw [z4]
    refine bd.2.2.push (fun j hj => by rw [z9, if_neg (by omega)]) (fun j hj => by rw [z10, if_neg (by omega)]) (by rw [z10, if_pos rfl]) (fun h => ?_)
    rw [z9, if_pos rfl] at h
    omega
end REF
