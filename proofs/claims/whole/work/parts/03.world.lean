/-! THE WORLD: one flat memory of all cells that the system and the reference made. A cell has a number k (the order of making); its places hold whole numbers (ints, bytes, truth values), longs, or references. -/
abbrev gM : Type := (Nat → Nat → Int32) × (Nat → Nat → Int64) × (Nat → Nat → Option Nat)
/-- what a cell is: an object of the class of that number in vwCl, or an array of that element type and length -/
abbrev gS : Type := Nat ⊕ (FieldType × Nat)
def gsI (μ : gM) (k j : Nat) (v : Int32) : gM := (fun a b => if a = k ∧ b = j then v else μ.1 a b, μ.2.1, μ.2.2)
def gsL (μ : gM) (k j : Nat) (v : Int64) : gM := (μ.1, fun a b => if a = k ∧ b = j then v else μ.2.1 a b, μ.2.2)
def gsR (μ : gM) (k j : Nat) (v : Option Nat) : gM := (μ.1, μ.2.1, fun a b => if a = k ∧ b = j then v else μ.2.2 a b)
def gN : Nat → Nat
  | 0 => 5
  | 1 => 4
  | 2 => 13
  | 3 => 10
  | 4 => 5
  | 5 => 2
  | 6 => 5
  | 7 => 9
  | _ => 74
def gT : Nat → Nat → FieldType
  | 0 => tyX0
  | 1 => tyX1
  | 2 => tyX2
  | 3 => tyX3
  | 4 => tyX4
  | 5 => tyX5
  | 6 => tyX6
  | 7 => tyX7
  | _ => tyX8
def g_fv (ad : Nat → Nat) (μ : gM) (k j : Nat) (ty : FieldType) : Value := match ty with
  | .long => .long (μ.2.1 k j)
  | .object _ => va_rf ((μ.2.2 k j).map ad)
  | .array _ => va_rf ((μ.2.2 k j).map ad)
  | _ => .int (μ.1 k j)
def g_ar (μ : gM) (k : Nat) (ty : FieldType) : (Nat → Int32) ⊕ (Nat → Int64) ⊕ (Nat → UInt32) ⊕ (Nat → UInt64) ⊕ (Nat → Option Nat) := match ty with
  | .long => .inr (.inl (μ.2.1 k))
  | _ => .inl (μ.1 k)
def g_ce (ad : Nat → Nat) (cA : FieldType → ClassId) (μ : gM) (k : Nat) (x : gS) : va_E := match x with
  | .inl ci => .inr (ci, (List.range (gN ci)).map (fun j => g_fv ad μ k j (gT ci j)))
  | .inr q => .inl (cA q.1, q.2, g_ar μ k q.1)
def g_wl (ad : Nat → Nat) (cA : FieldType → ClassId) (sh : List gS) (μ : gM) : va_W := (List.range sh.length).map (fun k => (ad k, g_ce ad cA μ k (sh.getD k (.inl 0))))
theorem g_wl_at {ad : Nat → Nat} {cA : FieldType → ClassId} {sh : List gS} {μ : gM} {k : Nat} {x : gS} (h : sh[k]? = some x) : (g_wl ad cA sh μ)[k]? = some (ad k, g_ce ad cA μ k x) := by
  have hk : k < sh.length := (List.getElem?_eq_some_iff.mp h).1
  simp [g_wl, hk]
  rw [(List.getElem?_eq_some_iff.mp h).2]
theorem g_wl_len {ad : Nat → Nat} {cA : FieldType → ClassId} {sh : List gS} {μ : gM} : (g_wl ad cA sh μ).length = sh.length := by simp [g_wl]
/-- a store into one cell -/
theorem g_wl_set {ad : Nat → Nat} {cA : FieldType → ClassId} {sh : List gS} {μ μ' : gM} {k : Nat} {x : gS} {e : va_E} (h : sh[k]? = some x) (he : g_ce ad cA μ' k x = e) (ho : ∀ j, j ≠ k → ∀ y, g_ce ad cA μ' j y = g_ce ad cA μ j y) : (g_wl ad cA sh μ).set k (ad k, e) = g_wl ad cA sh μ' := by
  apply List.ext_getElem?
  intro i
  by_cases hi : i = k
  · subst hi
    have hk : i < sh.length := (List.getElem?_eq_some_iff.mp h).1
    rw [g_wl_at h, List.getElem?_set_self (by rw [g_wl_len]; exact hk), he]
  · rw [List.getElem?_set_ne (fun q => hi q.symm)]
    by_cases hl : i < sh.length
    · have h1 : sh[i]? = some sh[i] := List.getElem?_eq_getElem hl
      rw [g_wl_at h1, g_wl_at h1, ho i hi]
    · rw [List.getElem?_eq_none (by rw [g_wl_len]; omega), List.getElem?_eq_none (by rw [g_wl_len]; omega)]
theorem g_ce_ne {ad : Nat → Nat} {cA : FieldType → ClassId} {μ μ' : gM} {j : Nat} (h1 : μ'.1 j = μ.1 j) (h2 : μ'.2.1 j = μ.2.1 j) (h3 : μ'.2.2 j = μ.2.2 j) (y : gS) : g_ce ad cA μ' j y = g_ce ad cA μ j y := by
  have hf : ∀ i ty, g_fv ad μ' j i ty = g_fv ad μ j i ty := by
    intro i ty
    cases ty <;> simp [g_fv, h1, h2, h3]
  have ha : ∀ ty, g_ar μ' j ty = g_ar μ j ty := by
    intro ty
    cases ty <;> simp [g_ar, h1, h2]
  cases y with
  | inl ci => simp [g_ce, hf]
  | inr q => simp [g_ce, ha]
theorem gsI_ne {μ : gM} {k j : Nat} {v : Int32} {a : Nat} (h : a ≠ k) : (gsI μ k j v).1 a = μ.1 a := by
  funext b
  simp [gsI, h]
theorem gsL_ne {μ : gM} {k j : Nat} {v : Int64} {a : Nat} (h : a ≠ k) : (gsL μ k j v).2.1 a = μ.2.1 a := by
  funext b
  simp [gsL, h]
theorem gsR_ne {μ : gM} {k j : Nat} {v : Option Nat} {a : Nat} (h : a ≠ k) : (gsR μ k j v).2.2 a = μ.2.2 a := by
  funext b
  simp [gsR, h]
theorem g_oI {ad : Nat → Nat} {cA : FieldType → ClassId} {μ : gM} {k j : Nat} {v : Int32} : ∀ i, i ≠ k → ∀ y, g_ce ad cA (gsI μ k j v) i y = g_ce ad cA μ i y := fun _ h y => g_ce_ne (gsI_ne h) rfl rfl y
theorem g_oL {ad : Nat → Nat} {cA : FieldType → ClassId} {μ : gM} {k j : Nat} {v : Int64} : ∀ i, i ≠ k → ∀ y, g_ce ad cA (gsL μ k j v) i y = g_ce ad cA μ i y := fun i h y => g_ce_ne (μ := μ) (μ' := gsL μ k j v) (j := i) rfl (gsL_ne h) rfl y
theorem g_oR {ad : Nat → Nat} {cA : FieldType → ClassId} {μ : gM} {k j : Nat} {v : Option Nat} : ∀ i, i ≠ k → ∀ y, g_ce ad cA (gsR μ k j v) i y = g_ce ad cA μ i y := fun i h y => g_ce_ne (μ := μ) (μ' := gsR μ k j v) (j := i) rfl rfl (gsR_ne h) y
/-- a field's value changed -/
theorem g_fs_set {ad : Nat → Nat} {μ μ' : gM} {k ci j : Nat} {v : Value} (hj : j < gN ci) (hv : g_fv ad μ' k j (gT ci j) = v) (ho : ∀ i, i ≠ j → g_fv ad μ' k i (gT ci i) = g_fv ad μ k i (gT ci i)) :
    ((List.range (gN ci)).map (fun i => g_fv ad μ k i (gT ci i))).set j v = (List.range (gN ci)).map (fun i => g_fv ad μ' k i (gT ci i)) := by
  apply List.ext_getElem?
  intro i
  by_cases hi : i = j
  · subst hi
    rw [List.getElem?_set_self (by simp [hj])]
    simp [hj, hv]
  · rw [List.getElem?_set_ne (fun q => hi q.symm)]
    by_cases hl : i < gN ci
    · simp [hl, ho i hi]
    · simp [hl]
theorem g_fsI {ad : Nat → Nat} {μ : gM} {k ci j : Nat} {v : Int32} (hj : j < gN ci) (ht : g_fv ad (gsI μ k j v) k j (gT ci j) = .int v) : ((List.range (gN ci)).map (fun i => g_fv ad μ k i (gT ci i))).set j (.int v) = (List.range (gN ci)).map (fun i => g_fv ad (gsI μ k j v) k i (gT ci i)) := by
  refine g_fs_set hj ht (fun i hi => ?_)
  generalize gT ci i = ty
  cases ty <;> simp [g_fv, gsI, hi]
theorem g_fsL {ad : Nat → Nat} {μ : gM} {k ci j : Nat} {v : Int64} (hj : j < gN ci) (ht : g_fv ad (gsL μ k j v) k j (gT ci j) = .long v) : ((List.range (gN ci)).map (fun i => g_fv ad μ k i (gT ci i))).set j (.long v) = (List.range (gN ci)).map (fun i => g_fv ad (gsL μ k j v) k i (gT ci i)) := by
  refine g_fs_set hj ht (fun i hi => ?_)
  generalize gT ci i = ty
  cases ty <;> simp [g_fv, gsL, hi]
theorem g_fsR {ad : Nat → Nat} {μ : gM} {k ci j : Nat} {v : Option Nat} {w : Value} (hj : j < gN ci) (ht : g_fv ad (gsR μ k j v) k j (gT ci j) = w) : ((List.range (gN ci)).map (fun i => g_fv ad μ k i (gT ci i))).set j w = (List.range (gN ci)).map (fun i => g_fv ad (gsR μ k j v) k i (gT ci i)) := by
  refine g_fs_set hj ht (fun i hi => ?_)
  generalize gT ci i = ty
  cases ty <;> simp [g_fv, gsR, hi]
