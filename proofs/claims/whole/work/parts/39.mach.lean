/-! THE ABSTRACT READER: a table q of numbers. Row 0: 0 scopes, 1 declarations, 2 references, 3 statements, 4 depth, 5 open + 100, 6 here, 7 state, 8 longStart. Rows: 1 parent + 1, 2 kind; 3 scope, 4 token, 5 has + 1 of a declaration; 6 scope, 7 token, 8 importer + 1, 15 statement + 1 of a reference; 9 frame, 10 outer, 11 inner; 12 scope, 13 first, 14 last of a statement -/
def uq (q : Nat → Nat → Nat) (r i v : Nat) : Nat → Nat → Nat := fun a b => if a = r ∧ b = i then v else q a b
theorem uq_e (q : Nat → Nat → Nat) (r i v a b : Nat) : uq q r i v a b = if a = r ∧ b = i then v else q a b := rfl
def aScope (q : Nat → Nat → Nat) (kind par : Nat) : Nat → Nat → Nat := uq (uq (uq q 2 (q 0 0) kind) 1 (q 0 0) par) 0 0 (q 0 0 + 1)
def aDecl (q : Nat → Nat → Nat) (sc tok has : Nat) : Nat → Nat → Nat := uq (uq (uq (uq q 3 (q 0 1) sc) 4 (q 0 1) tok) 5 (q 0 1) has) 0 1 (q 0 1 + 1)
def aRef (q : Nat → Nat → Nat) (sc tok : Nat) : Nat → Nat → Nat := uq (uq (uq (uq (uq q 6 (q 0 2) sc) 7 (q 0 2) tok) 8 (q 0 2) 0) 15 (q 0 2) 0) 0 2 (q 0 2 + 1)
def aPush (q : Nat → Nat → Nat) (fr inn : Nat) : Nat → Nat → Nat := uq (uq (uq (uq q 9 (q 0 4) fr) 10 (q 0 4) (q 0 6)) 11 (q 0 4) inn) 0 4 (q 0 4 + 1)
def aTop (q : Nat → Nat → Nat) (fr inn : Nat) : Nat → Nat → Nat := uq (uq q 9 (q 0 4 - 1) fr) 11 (q 0 4 - 1) inn
def aImp (q : Nat → Nat → Nat) : Nat → Nat → Nat := fun a b => if a = 8 ∧ b = q 0 2 - 1 then q 0 6 + 1 else if a = 15 ∧ q 0 8 ≤ b ∧ b ≤ q 0 2 - 1 then q 0 3 + 1 else if a = 12 ∧ b = q 0 3 then q 0 6 else if a = 13 ∧ b = q 0 3 then q 0 8 else if a = 14 ∧ b = q 0 3 then q 0 2 - 1 else if a = 0 ∧ b = 3 then q 0 3 + 1 else q a b
def topF (q : Nat → Nat → Nat) : Nat := if 0 < q 0 4 then q 9 (q 0 4 - 1) else 14
def topO (q : Nat → Nat → Nat) : Nat := if 0 < q 0 4 then q 10 (q 0 4 - 1) else 0
def topI (q : Nat → Nat → Nat) : Nat := if 0 < q 0 4 then q 11 (q 0 4 - 1) else 0
def aTurn (q : Nat → Nat → Nat) (s : Nat) : Nat → Nat → Nat := uq q 0 7 s
def aOpen (q : Nat → Nat → Nat) (s : Nat) : Nat × (Nat → Nat → Nat) := if 120 ≤ q 0 5 then (3, q) else (0, aTurn (uq q 0 5 (q 0 5 + 1)) s)
def aPop (q : Nat → Nat → Nat) (s : Nat) : Nat → Nat → Nat := aTurn (uq (uq q 0 6 (topO q)) 0 4 (q 0 4 - 1)) s
def aClose (q : Nat → Nat → Nat) (s : Nat) : Nat → Nat → Nat := aPop (uq q 0 5 (q 0 5 - 1)) s
def hasB (f : Nat) : Bool := decide (f = 3) || decide (f = 4) || decide (f = 5)
def aIn (q : Nat → Nat → Nat) : Nat → Nat → Nat := aTurn (aTop (uq q 0 6 (topI q)) 13 (topI q)) 9
def aSW (q : Nat → Nat → Nat) (kind next : Nat) : Nat × (Nat → Nat → Nat) := if 64 ≤ q 0 0 then (5, q) else (0, aTurn (aPush (aScope q kind (q 0 6 + 1)) kind (q 0 0)) next)
def aFirst (i : Nat) (q : Nat → Nat → Nat) : Nat × (Nat → Nat → Nat) := if 100 ≤ q 0 2 then (4, q) else (0, aTurn (aRef q (q 0 6) i) 11)
def aAtom (i k : Nat) (q : Nat → Nat → Nat) : Nat × (Nat → Nat → Nat) := if k = 40 then aOpen (aPush q 12 (q 0 6)) 10 else if k = 259 then aSW q 2 4 else if k = 260 then (0, aTurn (aPush q 3 (q 0 6)) 5) else if k = 261 then aSW q 4 5 else if k = 262 then aSW q 5 5 else if k = 264 then aFirst i q else if k = 265 then (0, aTurn q 12) else (2, q)
def aBeh (i k : Nat) (q : Nat → Nat → Nat) : Nat × (Nat → Nat → Nat) := if topF q = 10 then (if k = 59 then (0, aPop (aImp q) 0) else (2, q)) else if k = 41 then (if topF q = 12 then (0, aClose q 12) else (2, q)) else if k = 43 then (0, aTurn q 10) else if k = 44 then (if hasB (topF q) = true then (0, aTurn q 5) else (2, q)) else if k = 59 then (if topF q = 11 then (0, aPop q 0) else (2, q)) else if k = 125 then (if topF q = 2 then (0, aClose q 12) else if topF q = 13 then (0, aClose q 12) else (2, q)) else if k = 263 then (if hasB (topF q) = true then (0, aIn q) else (2, q)) else aAtom i k q
def aDec (k : Nat) (q : Nat → Nat → Nat) : Nat × (Nat → Nat → Nat) := if k = 125 then (if topF q = 1 then (0, aClose q 0) else (2, q)) else if k = 256 then (0, aTurn q 1) else if k = 257 then (0, aTurn q 2) else if k = 258 then (0, aTurn q 3) else if k = 266 then (if q 0 4 = 0 then (0, q) else (2, q)) else (2, q)
def aMod (i : Nat) (q : Nat → Nat → Nat) : Nat × (Nat → Nat → Nat) := if 60 ≤ q 0 1 then (4, q) else if 64 ≤ q 0 0 then (5, q) else (0, aTurn (uq (aPush (aDecl (aScope q 1 (q 0 6 + 1)) (q 0 6) i (q 0 0 + 1)) 1 (q 0 0)) 0 6 (q 0 0)) 8)
def aImpN (i : Nat) (q : Nat → Nat → Nat) : Nat × (Nat → Nat → Nat) := if 6 ≤ q 0 3 then (4, q) else aFirst i (uq (aPush q 10 (q 0 6)) 0 8 (q 0 2))
def aDeclIn (i : Nat) (q : Nat → Nat → Nat) (sc next : Nat) : Nat × (Nat → Nat → Nat) := if 60 ≤ q 0 1 then (4, q) else (0, aTurn (aDecl q sc i 0) next)
def aBind (i : Nat) (q : Nat → Nat → Nat) : Nat × (Nat → Nat → Nat) := if topF q = 3 then (if 60 ≤ q 0 1 then (4, q) else if 64 ≤ q 0 0 then (5, q) else aDeclIn i (aTop (uq (aScope q 3 (topI q + 1)) 0 6 (topI q)) 3 (q 0 0)) (q 0 0) 7) else if topF q = 4 then aDeclIn i (uq q 0 6 (topI q)) (topI q) 7 else aDeclIn i (uq q 0 6 (topO q)) (topI q) 7
def aNext (i : Nat) (q : Nat → Nat → Nat) : Nat × (Nat → Nat → Nat) := if q 0 2 = 0 then (4, q) else if 100 ≤ q 0 2 then (4, q) else if 64 ≤ q 0 0 then (5, q) else (0, aTurn (aRef (uq (aScope q 6 0) 8 (q 0 2 - 1) (q 0 0 + 1)) (q 0 0) i) 11)
def aName (i : Nat) (q : Nat → Nat → Nat) : Nat × (Nat → Nat → Nat) := if q 0 7 = 1 then aMod i q else if q 0 7 = 2 then aImpN i q else if q 0 7 = 3 then aDeclIn i (aPush q 11 (q 0 6)) (q 0 6) 7 else if q 0 7 = 4 then aDeclIn i (uq q 0 6 (topI q)) (topI q) 9 else if q 0 7 = 5 then aBind i q else aNext i q
def aT (i k : Nat) (q : Nat → Nat → Nat) : Nat × (Nat → Nat → Nat) := if q 0 7 = 0 then aDec k q else if q 0 7 = 7 then (if k = 61 then (0, aTurn q 10) else (2, q)) else if q 0 7 = 8 then (if k = 123 then aOpen q 0 else (2, q)) else if q 0 7 = 9 then (if k = 123 then aOpen q 10 else (2, q)) else if q 0 7 = 10 then aAtom i k q else if q 0 7 = 11 then (if k = 46 then (0, aTurn q 6) else aBeh i k q) else if q 0 7 = 12 then aBeh i k q else (if k = 264 then aName i q else (2, q))
/-- the first state -/
def aQ0 : Nat → Nat → Nat := fun a b => if a = 0 ∧ b = 0 then 1 else if a = 0 ∧ b = 5 then 100 else 0
/-- the run over the tokens' kinds: code, token, table -/
def aRun (K : Nat → Nat) : Nat → Nat → (Nat → Nat → Nat) → Nat × Nat × (Nat → Nat → Nat)
  | 0, i, q => (2, i, q)
  | n + 1, i, q => if K i = 267 then (1, i, q) else if (aT i (K i) q).1 = 0 then (if K i = 266 then (0, i, (aT i (K i) q).2) else aRun K n (i + 1) (aT i (K i) q).2) else ((aT i (K i) q).1, i, (aT i (K i) q).2)
/-- what always holds of the table -/
def aS (q : Nat → Nat → Nat) : Prop := (1 ≤ q 0 0 ∧ q 0 0 ≤ 64 ∧ q 0 1 ≤ 60 ∧ q 0 2 ≤ 100 ∧ q 0 3 ≤ 6 ∧ q 0 6 < q 0 0 ∧ q 0 5 ≤ 120) ∧
  (∀ i, i < q 0 0 → q 1 i ≤ i ∧ q 2 i ≤ 6) ∧ (∀ d, d < q 0 1 → q 3 d < q 0 0 ∧ q 5 d ≤ q 0 0) ∧ (∀ r, r < q 0 2 → q 6 r < q 0 0 ∧ q 8 r ≤ q 0 0 ∧ q 15 r ≤ q 0 3) ∧
  (∀ j, j < q 0 4 → q 9 j ≤ 13 ∧ q 10 j < q 0 0 ∧ q 11 j < q 0 0) ∧ (∀ j, j < q 0 3 → q 12 j < q 0 0 ∧ q 13 j ≤ q 14 j ∧ q 14 j < q 0 2)
def aZs (st d o nD nR nSt ls tf : Nat) : Prop := st ≤ 12 ∧ (st = 5 ∨ st = 4 ∨ tf = 10 → d + 100 ≤ o + nD + 1) ∧ (¬ (st = 5 ∨ st = 4 ∨ tf = 10) → d + 100 ≤ o + nD) ∧ (tf = 10 → ls < nR ∧ nSt < 6) ∧ (st = 6 ∨ st = 11 → 0 < nR) ∧ (tf = 10 → st = 6 ∨ st = 11) ∧ (st = 4 ∨ st = 5 → 0 < d)
def aZ (q : Nat → Nat → Nat) : Prop := aZs (q 0 7) (q 0 4) (q 0 5) (q 0 1) (q 0 2) (q 0 3) (q 0 8) (topF q) ∧ ∀ j, j + 1 < q 0 4 → q 9 j ≠ 10
def aW (q : Nat → Nat → Nat) : Prop := aS q ∧ aZ q
