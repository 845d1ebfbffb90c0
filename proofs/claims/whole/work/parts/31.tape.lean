/-! PURE PART. Reading and writing the flat memory; the tapes -/
theorem gI_1 (m : gM) (k j : Nat) (v : Int32) (a b : Nat) : (gsI m k j v).1 a b = if a = k ∧ b = j then v else m.1 a b := rfl
theorem gI_2 (m : gM) (k j : Nat) (v : Int32) : (gsI m k j v).2 = m.2 := rfl
theorem gL_1 (m : gM) (k j : Nat) (v : Int64) : (gsL m k j v).1 = m.1 := rfl
theorem gL_2 (m : gM) (k j : Nat) (v : Int64) (a b : Nat) : (gsL m k j v).2.1 a b = if a = k ∧ b = j then v else m.2.1 a b := rfl
theorem gL_3 (m : gM) (k j : Nat) (v : Int64) : (gsL m k j v).2.2 = m.2.2 := rfl
theorem g_ift {α : Type} (a : Option α) : g_if true a = a := rfl
theorem g_nmb {α β : Type} (a : α) (f : α → β) : nm a f = f a := rfl
theorem g_bs {α β : Type} (a : α) (f : α → Option β) : (some a).bind f = f a := rfl
theorem g_inI {n N : Nat} (h : n < N) (hN : N < 2 ^ 31) : inB (nI n) N = true := by
  have h1 : ¬ nI n < 0 := nI_pos (by omega)
  have h2 : (nI n).toNatClampNeg = n := nI_clamp (by omega)
  simp [inB, h1, h2, h]
/-- cells that a run leaves alone -/
def gKeep (Z : Nat → Prop) (m m' : gM) : Prop := ∀ k, Z k → m'.1 k = m.1 k ∧ m'.2.1 k = m.2.1 k ∧ m'.2.2 k = m.2.2 k
theorem gKeep.refl {Z : Nat → Prop} (m : gM) : gKeep Z m m := fun _ _ => ⟨rfl, rfl, rfl⟩
theorem gKeep.trans {Z : Nat → Prop} {a b c : gM} (h : gKeep Z a b) (k : gKeep Z b c) : gKeep Z a c := fun i hi => ⟨(k i hi).1.trans (h i hi).1, (k i hi).2.1.trans (h i hi).2.1, (k i hi).2.2.trans (h i hi).2.2⟩
theorem gKeep.i {Z : Nat → Prop} {m : gM} {k j : Nat} {v : Int32} (h : ¬ Z k) : gKeep Z m (gsI m k j v) := fun i hi => ⟨gsI_ne (fun e => h (e ▸ hi)), rfl, rfl⟩
theorem gKeep.l {Z : Nat → Prop} {m : gM} {k j : Nat} {v : Int64} (h : ¬ Z k) : gKeep Z m (gsL m k j v) := fun i hi => ⟨rfl, gsL_ne (fun e => h (e ▸ hi)), rfl⟩
theorem gKeep.r {Z : Nat → Prop} {m : gM} {k j : Nat} {v : Option Nat} (h : ¬ Z k) : gKeep Z m (gsR m k j v) := fun i hi => ⟨rfl, rfl, gsR_ne (fun e => h (e ▸ hi))⟩
/-- a byte as the class holds it -/
def bx (x : Int32) : Nat := x.toBitVec.toNat % 256
theorem bx_lt (x : Int32) : bx x < 256 := Nat.mod_lt _ (by decide)
theorem bx_sb (x : Int32) : x.toInt8.toInt32 = sb_b (bx x) := by
  unfold sb_b
  congr 1
  apply Int8.toBitVec_inj.mp
  rw [Int32.toBitVec_toInt8, Int32.toBitVec_toInt8]
  apply BitVec.eq_of_toNat_eq
  rw [BitVec.signExtend_eq_setWidth_of_le _ (by decide), BitVec.signExtend_eq_setWidth_of_le _ (by decide), BitVec.toNat_setWidth, BitVec.toNat_setWidth, pk_tn (by have := bx_lt x; omega)]
  unfold bx
  omega
/-- a class's tape t: its row is t + 1 -/
def TapC (m : gM) (t : Nat) (b : Nat → Nat) (n : Nat) : Prop := (t = 1 ∨ t = 3) ∧ m.2.2 t 0 = some (t + 1) ∧ m.1 t 1 = nI n ∧ n ≤ 4000 ∧ ∀ i, i < n → b i < 256 ∧ m.1 (t + 1) i = sb_b (b i)
theorem ob_tape {t : Nat} (h : t = 1 ∨ t = 3) : oB gSH t 5 = true ∧ ∀ x, aB gSH (t + 1) .byte x = inB x 4000 := by
  rcases h with rfl | rfl
  · exact ⟨by decide +kernel, fun x => rfl⟩
  · exact ⟨by decide +kernel, fun x => rfl⟩
def upB (b : Nat → Nat) (k v : Nat) : Nat → Nat := fun i => if i = k then v else b i
theorem s_add {m : gM} {t n F : Nat} {b : Nat → Nat} {x : Int32} (h : TapC m t b n) (hn : n < 4000) : ∃ m', f_X5_add gSH F t x m = some m' ∧ TapC m' t (upB b n (bx x)) (n + 1) ∧ gKeep (fun k => k ≠ t ∧ k ≠ t + 1) m m' ∧ m'.2.2 = m.2.2 := by
  obtain ⟨ht, hr, hs, hle, hb⟩ := h
  obtain ⟨o1, o2⟩ := ob_tape ht
  have c1 : ¬ m.1 t 1 < 0 := by rw [hs]; exact nI_pos (by omega)
  have c2 : ¬ (4000 : Int32) ≤ m.1 t 1 := by rw [hs]; exact nI_ge hn (by decide)
  have hcl : (nI n).toNatClampNeg = n := nI_clamp (by omega)
  refine ⟨gsI (gsI m (t + 1) n (sb_b (bx x))) t 1 (nI (n + 1)), ?_, ⟨ht, hr, ?_, by omega, fun i hi => ?_⟩, ?_, rfl⟩
  · unfold f_X5_add
    rw [o1, g_ift, if_neg c1, if_neg c2, hr, g_bs, o2, hs, g_inI hn (by decide), g_ift, hcl, g_nmb, g_nmb, pk_vb, bx_sb]
    have e1 : (gsI m (t + 1) n (sb_b (bx x))).1 t 1 + 1 = nI (n + 1) := by
      rw [gI_1, if_neg (by omega), hs, nI_1]
    rw [e1]
  · rw [gI_1, if_pos ⟨rfl, rfl⟩]
  · unfold upB
    rw [gI_1, if_neg (show ¬ (t + 1 = t ∧ i = 1) by omega), gI_1]
    by_cases hi2 : i = n
    · subst hi2
      simp [bx_lt]
    · simp only [hi2, and_false, if_false]
      exact hb i (by omega)
  · exact (gKeep.i (by simp)).trans (gKeep.i (by simp))
