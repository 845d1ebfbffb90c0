/-- what the law's end gives: with 1 on the stack it may return -/
def gLe (X : gX) (w : gW) (Q : State → Prop) : Prop := ∀ (kc ks pc : Nat) (lv : List (Nat × Value)) (m : gM) (i : Nat), K_L_law[i]? = some (pc, .ireturn, 1) → kc ≤ 601024 → ks ≤ 7293034 → gV X w kc ks Q 7 pc lv [.int 1] m
def b_law_785 (sh : List gS) (F L : Nat) (xs : Nat → Int32) (k23 : Nat → Nat → Nat → Nat → Int32 → gM → Option (Unit)) (x0 : Nat) (x1 : Nat) (x2 : Nat) (x3 : Nat) (x4 : Int32) (m : gM) : Option (Unit) :=
  nm (x4 + Int32.ofInt 6) (fun v1 => g_if (decide (v1.toNatClampNeg = x4.toNatClampNeg + 6)) (k23 x0 x1 x2 x3 v1 m))
set_option maxRecDepth 100000 in
set_option maxHeartbeats 4000000 in
theorem tb_law_785 {X : gX} {w : gW} {Q : State → Prop} {L : Nat} {xs : Nat → Int32} (C : gC X w K_L_law 7 RL 14) (hret : gLe X w Q) (hG : gJs w) (hl0 : X.2.1.stackTraces = false) (hE : gJx w) (hc : gSc X w L xs) (hR : X.2.2.2.1 = room_1) {F : Nat} {k23 : Nat → Nat → Nat → Nat → Int32 → gM → Option (Unit)} (hk23 : ∀ (z0 : Nat) (z1 : Nat) (z2 : Nat) (z3 : Nat) (z4 : Int32) (m : gM), k23 z0 z1 z2 z3 z4 m = some () → gV X w (1000 + z4.toNatClampNeg) (200000 + 10 * z4.toNatClampNeg) Q 7 23 [(0, .ref z0), (1, .ref z1), (2, .ref z2), (3, .ref z3), (4, .int z4)] [] m) {x0 : Nat} {x1 : Nat} {x2 : Nat} {x3 : Nat} {x4 : Int32} {m : gM} (h : b_law_785 w.2.2.2.2.1 F L xs k23 x0 x1 x2 x3 x4 m = some ()) : gV X w (1000 + x4.toNatClampNeg + 1) (200000 + 10 * x4.toNatClampNeg + 6) Q 7 785 [(0, .ref x0), (1, .ref x1), (2, .ref x2), (3, .ref x3), (4, .int x4)] [] m := by
  unfold b_law_785 at h
  refine v_iincN (pc := 785) C 469 4 (fun v1 => [(4, .int v1), (0, .ref x0), (1, .ref x1), (2, .ref x2), (3, .ref x3)]) rfl rfl (by decide) (fun _ => rfl) (fun v1 ev1 => ?_)
  replace h := g_nm h ev1
  obtain ⟨hst, h⟩ := g_okk h
  have hst := of_decide_eq_true hst
  refine v_goto (pc := 788) C 470 23 rfl (by decide) ?_
  refine gV_widen (kc := 1000 + v1.toNatClampNeg) (ks := 200000 + 10 * v1.toNatClampNeg) (by omega) (by omega) ?_
  refine v_sub [(0, .ref x0), (1, .ref x1), (2, .ref x2), (3, .ref x3), (4, .int v1)] [1, 2, 3, 4, 0] rfl ?_
  exact hk23 _ _ _ _ _ _ h
def b_law_205 (sh : List gS) (F L : Nat) (xs : Nat → Int32) (k23 : Nat → Nat → Nat → Nat → Int32 → gM → Option (Unit)) (x0 : Nat) (x1 : Nat) (x2 : Nat) (x3 : Nat) (x4 : Int32) (m : gM) : Option (Unit) :=
  b_law_785 sh F L xs k23 x0 x1 x2 x3 x4 m
set_option maxRecDepth 100000 in
set_option maxHeartbeats 4000000 in
theorem tb_law_205 {X : gX} {w : gW} {Q : State → Prop} {L : Nat} {xs : Nat → Int32} (C : gC X w K_L_law 7 RL 14) (hret : gLe X w Q) (hG : gJs w) (hl0 : X.2.1.stackTraces = false) (hE : gJx w) (hc : gSc X w L xs) (hR : X.2.2.2.1 = room_1) {F : Nat} {k23 : Nat → Nat → Nat → Nat → Int32 → gM → Option (Unit)} (hk23 : ∀ (z0 : Nat) (z1 : Nat) (z2 : Nat) (z3 : Nat) (z4 : Int32) (m : gM), k23 z0 z1 z2 z3 z4 m = some () → gV X w (1000 + z4.toNatClampNeg) (200000 + 10 * z4.toNatClampNeg) Q 7 23 [(0, .ref z0), (1, .ref z1), (2, .ref z2), (3, .ref z3), (4, .int z4)] [] m) {x0 : Nat} {x1 : Nat} {x2 : Nat} {x3 : Nat} {x4 : Int32} {m : gM} (h : b_law_205 w.2.2.2.2.1 F L xs k23 x0 x1 x2 x3 x4 m = some ()) : gV X w (1000 + x4.toNatClampNeg + 1) (200000 + 10 * x4.toNatClampNeg + 6) Q 7 205 [(0, .ref x0), (1, .ref x1), (2, .ref x2), (3, .ref x3), (4, .int x4)] [] m := by
  unfold b_law_205 at h
  refine v_goto (pc := 205) C 99 785 rfl (by decide) ?_
  refine gV_widen (kc := 1000 + x4.toNatClampNeg + 1) (ks := 200000 + 10 * x4.toNatClampNeg + 6) (by omega) (by omega) ?_
  refine v_sub [(0, .ref x0), (1, .ref x1), (2, .ref x2), (3, .ref x3), (4, .int x4)] [0, 1, 2, 3, 4] rfl ?_
  exact tb_law_785 (F := F) C hret hG hl0 hE hc hR hk23 h
def b_law_323 (sh : List gS) (F L : Nat) (xs : Nat → Int32) (k23 : Nat → Nat → Nat → Nat → Int32 → gM → Option (Unit)) (x0 : Nat) (x1 : Nat) (x2 : Nat) (x3 : Nat) (x4 : Int32) (m : gM) : Option (Unit) :=
  b_law_785 sh F L xs k23 x0 x1 x2 x3 x4 m
set_option maxRecDepth 100000 in
set_option maxHeartbeats 4000000 in
theorem tb_law_323 {X : gX} {w : gW} {Q : State → Prop} {L : Nat} {xs : Nat → Int32} (C : gC X w K_L_law 7 RL 14) (hret : gLe X w Q) (hG : gJs w) (hl0 : X.2.1.stackTraces = false) (hE : gJx w) (hc : gSc X w L xs) (hR : X.2.2.2.1 = room_1) {F : Nat} {k23 : Nat → Nat → Nat → Nat → Int32 → gM → Option (Unit)} (hk23 : ∀ (z0 : Nat) (z1 : Nat) (z2 : Nat) (z3 : Nat) (z4 : Int32) (m : gM), k23 z0 z1 z2 z3 z4 m = some () → gV X w (1000 + z4.toNatClampNeg) (200000 + 10 * z4.toNatClampNeg) Q 7 23 [(0, .ref z0), (1, .ref z1), (2, .ref z2), (3, .ref z3), (4, .int z4)] [] m) {x0 : Nat} {x1 : Nat} {x2 : Nat} {x3 : Nat} {x4 : Int32} {m : gM} (h : b_law_323 w.2.2.2.2.1 F L xs k23 x0 x1 x2 x3 x4 m = some ()) : gV X w (1000 + x4.toNatClampNeg + 1) (200000 + 10 * x4.toNatClampNeg + 6) Q 7 323 [(0, .ref x0), (1, .ref x1), (2, .ref x2), (3, .ref x3), (4, .int x4)] [] m := by
  unfold b_law_323 at h
  refine v_goto (pc := 323) C 170 785 rfl (by decide) ?_
  refine gV_widen (kc := 1000 + x4.toNatClampNeg + 1) (ks := 200000 + 10 * x4.toNatClampNeg + 6) (by omega) (by omega) ?_
  refine v_sub [(0, .ref x0), (1, .ref x1), (2, .ref x2), (3, .ref x3), (4, .int x4)] [0, 1, 2, 3, 4] rfl ?_
  exact tb_law_785 (F := F) C hret hG hl0 hE hc hR hk23 h
def b_law_391 (sh : List gS) (F L : Nat) (xs : Nat → Int32) (k23 : Nat → Nat → Nat → Nat → Int32 → gM → Option (Unit)) (x0 : Nat) (x1 : Nat) (x2 : Nat) (x3 : Nat) (x4 : Int32) (m : gM) : Option (Unit) :=
  b_law_785 sh F L xs k23 x0 x1 x2 x3 x4 m
set_option maxRecDepth 100000 in
set_option maxHeartbeats 4000000 in
theorem tb_law_391 {X : gX} {w : gW} {Q : State → Prop} {L : Nat} {xs : Nat → Int32} (C : gC X w K_L_law 7 RL 14) (hret : gLe X w Q) (hG : gJs w) (hl0 : X.2.1.stackTraces = false) (hE : gJx w) (hc : gSc X w L xs) (hR : X.2.2.2.1 = room_1) {F : Nat} {k23 : Nat → Nat → Nat → Nat → Int32 → gM → Option (Unit)} (hk23 : ∀ (z0 : Nat) (z1 : Nat) (z2 : Nat) (z3 : Nat) (z4 : Int32) (m : gM), k23 z0 z1 z2 z3 z4 m = some () → gV X w (1000 + z4.toNatClampNeg) (200000 + 10 * z4.toNatClampNeg) Q 7 23 [(0, .ref z0), (1, .ref z1), (2, .ref z2), (3, .ref z3), (4, .int z4)] [] m) {x0 : Nat} {x1 : Nat} {x2 : Nat} {x3 : Nat} {x4 : Int32} {m : gM} (h : b_law_391 w.2.2.2.2.1 F L xs k23 x0 x1 x2 x3 x4 m = some ()) : gV X w (1000 + x4.toNatClampNeg + 1) (200000 + 10 * x4.toNatClampNeg + 6) Q 7 391 [(0, .ref x0), (1, .ref x1), (2, .ref x2), (3, .ref x3), (4, .int x4)] [] m := by
  unfold b_law_391 at h
  refine v_goto (pc := 391) C 215 785 rfl (by decide) ?_
  refine gV_widen (kc := 1000 + x4.toNatClampNeg + 1) (ks := 200000 + 10 * x4.toNatClampNeg + 6) (by omega) (by omega) ?_
  refine v_sub [(0, .ref x0), (1, .ref x1), (2, .ref x2), (3, .ref x3), (4, .int x4)] [0, 1, 2, 3, 4] rfl ?_
  exact tb_law_785 (F := F) C hret hG hl0 hE hc hR hk23 h
def b_law_459 (sh : List gS) (F L : Nat) (xs : Nat → Int32) (k23 : Nat → Nat → Nat → Nat → Int32 → gM → Option (Unit)) (x0 : Nat) (x1 : Nat) (x2 : Nat) (x3 : Nat) (x4 : Int32) (m : gM) : Option (Unit) :=
  b_law_785 sh F L xs k23 x0 x1 x2 x3 x4 m
set_option maxRecDepth 100000 in
set_option maxHeartbeats 4000000 in
theorem tb_law_459 {X : gX} {w : gW} {Q : State → Prop} {L : Nat} {xs : Nat → Int32} (C : gC X w K_L_law 7 RL 14) (hret : gLe X w Q) (hG : gJs w) (hl0 : X.2.1.stackTraces = false) (hE : gJx w) (hc : gSc X w L xs) (hR : X.2.2.2.1 = room_1) {F : Nat} {k23 : Nat → Nat → Nat → Nat → Int32 → gM → Option (Unit)} (hk23 : ∀ (z0 : Nat) (z1 : Nat) (z2 : Nat) (z3 : Nat) (z4 : Int32) (m : gM), k23 z0 z1 z2 z3 z4 m = some () → gV X w (1000 + z4.toNatClampNeg) (200000 + 10 * z4.toNatClampNeg) Q 7 23 [(0, .ref z0), (1, .ref z1), (2, .ref z2), (3, .ref z3), (4, .int z4)] [] m) {x0 : Nat} {x1 : Nat} {x2 : Nat} {x3 : Nat} {x4 : Int32} {m : gM} (h : b_law_459 w.2.2.2.2.1 F L xs k23 x0 x1 x2 x3 x4 m = some ()) : gV X w (1000 + x4.toNatClampNeg + 1) (200000 + 10 * x4.toNatClampNeg + 6) Q 7 459 [(0, .ref x0), (1, .ref x1), (2, .ref x2), (3, .ref x3), (4, .int x4)] [] m := by
  unfold b_law_459 at h
  refine v_goto (pc := 459) C 260 785 rfl (by decide) ?_
  refine gV_widen (kc := 1000 + x4.toNatClampNeg + 1) (ks := 200000 + 10 * x4.toNatClampNeg + 6) (by omega) (by omega) ?_
  refine v_sub [(0, .ref x0), (1, .ref x1), (2, .ref x2), (3, .ref x3), (4, .int x4)] [0, 1, 2, 3, 4] rfl ?_
  exact tb_law_785 (F := F) C hret hG hl0 hE hc hR hk23 h
def b_law_527 (sh : List gS) (F L : Nat) (xs : Nat → Int32) (k23 : Nat → Nat → Nat → Nat → Int32 → gM → Option (Unit)) (x0 : Nat) (x1 : Nat) (x2 : Nat) (x3 : Nat) (x4 : Int32) (m : gM) : Option (Unit) :=
  b_law_785 sh F L xs k23 x0 x1 x2 x3 x4 m
set_option maxRecDepth 100000 in
set_option maxHeartbeats 4000000 in
theorem tb_law_527 {X : gX} {w : gW} {Q : State → Prop} {L : Nat} {xs : Nat → Int32} (C : gC X w K_L_law 7 RL 14) (hret : gLe X w Q) (hG : gJs w) (hl0 : X.2.1.stackTraces = false) (hE : gJx w) (hc : gSc X w L xs) (hR : X.2.2.2.1 = room_1) {F : Nat} {k23 : Nat → Nat → Nat → Nat → Int32 → gM → Option (Unit)} (hk23 : ∀ (z0 : Nat) (z1 : Nat) (z2 : Nat) (z3 : Nat) (z4 : Int32) (m : gM), k23 z0 z1 z2 z3 z4 m = some () → gV X w (1000 + z4.toNatClampNeg) (200000 + 10 * z4.toNatClampNeg) Q 7 23 [(0, .ref z0), (1, .ref z1), (2, .ref z2), (3, .ref z3), (4, .int z4)] [] m) {x0 : Nat} {x1 : Nat} {x2 : Nat} {x3 : Nat} {x4 : Int32} {m : gM} (h : b_law_527 w.2.2.2.2.1 F L xs k23 x0 x1 x2 x3 x4 m = some ()) : gV X w (1000 + x4.toNatClampNeg + 1) (200000 + 10 * x4.toNatClampNeg + 6) Q 7 527 [(0, .ref x0), (1, .ref x1), (2, .ref x2), (3, .ref x3), (4, .int x4)] [] m := by
  unfold b_law_527 at h
  refine v_goto (pc := 527) C 305 785 rfl (by decide) ?_
  refine gV_widen (kc := 1000 + x4.toNatClampNeg + 1) (ks := 200000 + 10 * x4.toNatClampNeg + 6) (by omega) (by omega) ?_
  refine v_sub [(0, .ref x0), (1, .ref x1), (2, .ref x2), (3, .ref x3), (4, .int x4)] [0, 1, 2, 3, 4] rfl ?_
  exact tb_law_785 (F := F) C hret hG hl0 hE hc hR hk23 h
def b_law_595 (sh : List gS) (F L : Nat) (xs : Nat → Int32) (k23 : Nat → Nat → Nat → Nat → Int32 → gM → Option (Unit)) (x0 : Nat) (x1 : Nat) (x2 : Nat) (x3 : Nat) (x4 : Int32) (m : gM) : Option (Unit) :=
  b_law_785 sh F L xs k23 x0 x1 x2 x3 x4 m
set_option maxRecDepth 100000 in
set_option maxHeartbeats 4000000 in
theorem tb_law_595 {X : gX} {w : gW} {Q : State → Prop} {L : Nat} {xs : Nat → Int32} (C : gC X w K_L_law 7 RL 14) (hret : gLe X w Q) (hG : gJs w) (hl0 : X.2.1.stackTraces = false) (hE : gJx w) (hc : gSc X w L xs) (hR : X.2.2.2.1 = room_1) {F : Nat} {k23 : Nat → Nat → Nat → Nat → Int32 → gM → Option (Unit)} (hk23 : ∀ (z0 : Nat) (z1 : Nat) (z2 : Nat) (z3 : Nat) (z4 : Int32) (m : gM), k23 z0 z1 z2 z3 z4 m = some () → gV X w (1000 + z4.toNatClampNeg) (200000 + 10 * z4.toNatClampNeg) Q 7 23 [(0, .ref z0), (1, .ref z1), (2, .ref z2), (3, .ref z3), (4, .int z4)] [] m) {x0 : Nat} {x1 : Nat} {x2 : Nat} {x3 : Nat} {x4 : Int32} {m : gM} (h : b_law_595 w.2.2.2.2.1 F L xs k23 x0 x1 x2 x3 x4 m = some ()) : gV X w (1000 + x4.toNatClampNeg + 1) (200000 + 10 * x4.toNatClampNeg + 6) Q 7 595 [(0, .ref x0), (1, .ref x1), (2, .ref x2), (3, .ref x3), (4, .int x4)] [] m := by
  unfold b_law_595 at h
  refine v_goto (pc := 595) C 350 785 rfl (by decide) ?_
  refine gV_widen (kc := 1000 + x4.toNatClampNeg + 1) (ks := 200000 + 10 * x4.toNatClampNeg + 6) (by omega) (by omega) ?_
  refine v_sub [(0, .ref x0), (1, .ref x1), (2, .ref x2), (3, .ref x3), (4, .int x4)] [0, 1, 2, 3, 4] rfl ?_
  exact tb_law_785 (F := F) C hret hG hl0 hE hc hR hk23 h
def b_law_670 (sh : List gS) (F L : Nat) (xs : Nat → Int32) (k23 : Nat → Nat → Nat → Nat → Int32 → gM → Option (Unit)) (x0 : Nat) (x1 : Nat) (x2 : Nat) (x3 : Nat) (x4 : Int32) (m : gM) : Option (Unit) :=
  b_law_785 sh F L xs k23 x0 x1 x2 x3 x4 m
set_option maxRecDepth 100000 in
set_option maxHeartbeats 4000000 in
theorem tb_law_670 {X : gX} {w : gW} {Q : State → Prop} {L : Nat} {xs : Nat → Int32} (C : gC X w K_L_law 7 RL 14) (hret : gLe X w Q) (hG : gJs w) (hl0 : X.2.1.stackTraces = false) (hE : gJx w) (hc : gSc X w L xs) (hR : X.2.2.2.1 = room_1) {F : Nat} {k23 : Nat → Nat → Nat → Nat → Int32 → gM → Option (Unit)} (hk23 : ∀ (z0 : Nat) (z1 : Nat) (z2 : Nat) (z3 : Nat) (z4 : Int32) (m : gM), k23 z0 z1 z2 z3 z4 m = some () → gV X w (1000 + z4.toNatClampNeg) (200000 + 10 * z4.toNatClampNeg) Q 7 23 [(0, .ref z0), (1, .ref z1), (2, .ref z2), (3, .ref z3), (4, .int z4)] [] m) {x0 : Nat} {x1 : Nat} {x2 : Nat} {x3 : Nat} {x4 : Int32} {m : gM} (h : b_law_670 w.2.2.2.2.1 F L xs k23 x0 x1 x2 x3 x4 m = some ()) : gV X w (1000 + x4.toNatClampNeg + 1) (200000 + 10 * x4.toNatClampNeg + 6) Q 7 670 [(0, .ref x0), (1, .ref x1), (2, .ref x2), (3, .ref x3), (4, .int x4)] [] m := by
  unfold b_law_670 at h
  refine v_goto (pc := 670) C 398 785 rfl (by decide) ?_
  refine gV_widen (kc := 1000 + x4.toNatClampNeg + 1) (ks := 200000 + 10 * x4.toNatClampNeg + 6) (by omega) (by omega) ?_
  refine v_sub [(0, .ref x0), (1, .ref x1), (2, .ref x2), (3, .ref x3), (4, .int x4)] [0, 1, 2, 3, 4] rfl ?_
  exact tb_law_785 (F := F) C hret hG hl0 hE hc hR hk23 h
def b_law_664 (sh : List gS) (F L : Nat) (xs : Nat → Int32) (k23 : Nat → Nat → Nat → Nat → Int32 → gM → Option (Unit)) (x0 : Nat) (x1 : Nat) (x2 : Nat) (x3 : Nat) (x4 : Int32) (y0 : Int64) (y1 : Int64) (m : gM) : Option (Unit) :=
  if y1 = y0 then (b_law_670 sh F L xs k23 x0 x1 x2 x3 x4 m) else (none)
set_option maxRecDepth 100000 in
set_option maxHeartbeats 4000000 in
theorem tb_law_664 {X : gX} {w : gW} {Q : State → Prop} {L : Nat} {xs : Nat → Int32} (C : gC X w K_L_law 7 RL 14) (hret : gLe X w Q) (hG : gJs w) (hl0 : X.2.1.stackTraces = false) (hE : gJx w) (hc : gSc X w L xs) (hR : X.2.2.2.1 = room_1) {F : Nat} {k23 : Nat → Nat → Nat → Nat → Int32 → gM → Option (Unit)} (hk23 : ∀ (z0 : Nat) (z1 : Nat) (z2 : Nat) (z3 : Nat) (z4 : Int32) (m : gM), k23 z0 z1 z2 z3 z4 m = some () → gV X w (1000 + z4.toNatClampNeg) (200000 + 10 * z4.toNatClampNeg) Q 7 23 [(0, .ref z0), (1, .ref z1), (2, .ref z2), (3, .ref z3), (4, .int z4)] [] m) {x0 : Nat} {x1 : Nat} {x2 : Nat} {x3 : Nat} {x4 : Int32} {y0 : Int64} {y1 : Int64} {m : gM} (h : b_law_664 w.2.2.2.2.1 F L xs k23 x0 x1 x2 x3 x4 y0 y1 m = some ()) : gV X w (1000 + x4.toNatClampNeg + 1) (200000 + 10 * x4.toNatClampNeg + 6) Q 7 664 [(0, .ref x0), (1, .ref x1), (2, .ref x2), (3, .ref x3), (4, .int x4)] [.long y0, .long y1] m := by
  unfold b_law_664 at h
  refine v_lcmp (pc := 664) C 394 rfl ?_
  refine v_lif_eq (pc := 665) C 395 670 rfl (by decide) (fun c1 => ?_) (fun c1 => ?_)
  · replace h := g_ifT c1 h
    refine gV_widen (kc := 1000 + x4.toNatClampNeg + 1) (ks := 200000 + 10 * x4.toNatClampNeg + 6) (by omega) (by omega) ?_
    refine v_sub [(0, .ref x0), (1, .ref x1), (2, .ref x2), (3, .ref x3), (4, .int x4)] [0, 1, 2, 3, 4] rfl ?_
    exact tb_law_670 (F := F) C hret hG hl0 hE hc hR hk23 h
  · replace h := g_ifF c1 h
    refine v_iconst (pc := 668) C 396 0 rfl (by decide) ?_
    cases h
def b_law_726 (sh : List gS) (F L : Nat) (xs : Nat → Int32) (k23 : Nat → Nat → Nat → Nat → Int32 → gM → Option (Unit)) (x0 : Nat) (x1 : Nat) (x2 : Nat) (x3 : Nat) (x4 : Int32) (m : gM) : Option (Unit) :=
  b_law_785 sh F L xs k23 x0 x1 x2 x3 x4 m
set_option maxRecDepth 100000 in
set_option maxHeartbeats 4000000 in
theorem tb_law_726 {X : gX} {w : gW} {Q : State → Prop} {L : Nat} {xs : Nat → Int32} (C : gC X w K_L_law 7 RL 14) (hret : gLe X w Q) (hG : gJs w) (hl0 : X.2.1.stackTraces = false) (hE : gJx w) (hc : gSc X w L xs) (hR : X.2.2.2.1 = room_1) {F : Nat} {k23 : Nat → Nat → Nat → Nat → Int32 → gM → Option (Unit)} (hk23 : ∀ (z0 : Nat) (z1 : Nat) (z2 : Nat) (z3 : Nat) (z4 : Int32) (m : gM), k23 z0 z1 z2 z3 z4 m = some () → gV X w (1000 + z4.toNatClampNeg) (200000 + 10 * z4.toNatClampNeg) Q 7 23 [(0, .ref z0), (1, .ref z1), (2, .ref z2), (3, .ref z3), (4, .int z4)] [] m) {x0 : Nat} {x1 : Nat} {x2 : Nat} {x3 : Nat} {x4 : Int32} {m : gM} (h : b_law_726 w.2.2.2.2.1 F L xs k23 x0 x1 x2 x3 x4 m = some ()) : gV X w (1000 + x4.toNatClampNeg + 1) (200000 + 10 * x4.toNatClampNeg + 6) Q 7 726 [(0, .ref x0), (1, .ref x1), (2, .ref x2), (3, .ref x3), (4, .int x4)] [] m := by
  unfold b_law_726 at h
  refine v_goto (pc := 726) C 433 785 rfl (by decide) ?_
  refine gV_widen (kc := 1000 + x4.toNatClampNeg + 1) (ks := 200000 + 10 * x4.toNatClampNeg + 6) (by omega) (by omega) ?_
  refine v_sub [(0, .ref x0), (1, .ref x1), (2, .ref x2), (3, .ref x3), (4, .int x4)] [0, 1, 2, 3, 4] rfl ?_
  exact tb_law_785 (F := F) C hret hG hl0 hE hc hR hk23 h
def b_law_782 (sh : List gS) (F L : Nat) (xs : Nat → Int32) (k23 : Nat → Nat → Nat → Nat → Int32 → gM → Option (Unit)) (x0 : Nat) (x1 : Nat) (x2 : Nat) (x3 : Nat) (x4 : Int32) (m : gM) : Option (Unit) :=
  b_law_785 sh F L xs k23 x0 x1 x2 x3 x4 m
set_option maxRecDepth 100000 in
set_option maxHeartbeats 4000000 in
theorem tb_law_782 {X : gX} {w : gW} {Q : State → Prop} {L : Nat} {xs : Nat → Int32} (C : gC X w K_L_law 7 RL 14) (hret : gLe X w Q) (hG : gJs w) (hl0 : X.2.1.stackTraces = false) (hE : gJx w) (hc : gSc X w L xs) (hR : X.2.2.2.1 = room_1) {F : Nat} {k23 : Nat → Nat → Nat → Nat → Int32 → gM → Option (Unit)} (hk23 : ∀ (z0 : Nat) (z1 : Nat) (z2 : Nat) (z3 : Nat) (z4 : Int32) (m : gM), k23 z0 z1 z2 z3 z4 m = some () → gV X w (1000 + z4.toNatClampNeg) (200000 + 10 * z4.toNatClampNeg) Q 7 23 [(0, .ref z0), (1, .ref z1), (2, .ref z2), (3, .ref z3), (4, .int z4)] [] m) {x0 : Nat} {x1 : Nat} {x2 : Nat} {x3 : Nat} {x4 : Int32} {m : gM} (h : b_law_782 w.2.2.2.2.1 F L xs k23 x0 x1 x2 x3 x4 m = some ()) : gV X w (1000 + x4.toNatClampNeg + 1) (200000 + 10 * x4.toNatClampNeg + 6) Q 7 782 [(0, .ref x0), (1, .ref x1), (2, .ref x2), (3, .ref x3), (4, .int x4)] [] m := by
  unfold b_law_782 at h
  refine v_goto (pc := 782) C 468 785 rfl (by decide) ?_
  refine gV_widen (kc := 1000 + x4.toNatClampNeg + 1) (ks := 200000 + 10 * x4.toNatClampNeg + 6) (by omega) (by omega) ?_
  refine v_sub [(0, .ref x0), (1, .ref x1), (2, .ref x2), (3, .ref x3), (4, .int x4)] [0, 1, 2, 3, 4] rfl ?_
  exact tb_law_785 (F := F) C hret hG hl0 hE hc hR hk23 h
def b_law_23 (sh : List gS) (F L : Nat) (xs : Nat → Int32) (k23 : Nat → Nat → Nat → Nat → Int32 → gM → Option (Unit)) (x0 : Nat) (x1 : Nat) (x2 : Nat) (x3 : Nat) (x4 : Int32) (m : gM) : Option (Unit) :=
  g_if (decide (x4.toNatClampNeg ≤ 4000)) (g_if (decide (x0 = 2000000)) (if ((Int32.ofNat L) - (6 : Int32)) < x4 then (some ()) else (g_if (inB x4 L) (if ((xs (x4).toNatClampNeg) &&& (15 : Int32)) = 0 then (g_if (inB (x4 + (1 : Int32)) L) (g_if (inB (x4 + (2 : Int32)) L) (g_if (inB (x4 + (3 : Int32)) L) (g_if (inB (x4 + (4 : Int32)) L) (g_if (inB (x4 + (5 : Int32)) L) ((f_L_feed sh F x1 (xs (x4 + (1 : Int32)).toNatClampNeg) (xs (x4 + (2 : Int32)).toNatClampNeg) (xs (x4 + (3 : Int32)).toNatClampNeg) (xs (x4 + (4 : Int32)).toNatClampNeg) (xs (x4 + (5 : Int32)).toNatClampNeg) x3 m).bind (fun q11 => nm q11.1 (fun r10 => nm q11.2 (fun m9 => g_if (inB (x4 + (1 : Int32)) L) (g_if (inB (x4 + (2 : Int32)) L) (g_if (inB (x4 + (3 : Int32)) L) (g_if (inB (x4 + (4 : Int32)) L) (g_if (inB (x4 + (5 : Int32)) L) (g_if (oB sh x2 8) ((f_X8_feed sh F x2 (xs (x4 + (1 : Int32)).toNatClampNeg) (xs (x4 + (2 : Int32)).toNatClampNeg) (xs (x4 + (3 : Int32)).toNatClampNeg) (xs (x4 + (4 : Int32)).toNatClampNeg) (xs (x4 + (5 : Int32)).toNatClampNeg) m9).bind (fun q20 => nm q20.1 (fun r19 => nm q20.2 (fun m18 => (f_X8_thrown sh F x2 m18).bind (fun q23 => nm q23.1 (fun r22 => nm q23.2 (fun m21 => if r22 = r10 then (if r10 = 0 then (g_if (aB sh x3 .long 0) (if (m21.2.1 x3 (0 : Int32).toNatClampNeg) = (r19.toInt64) then (b_law_205 sh F L xs k23 x0 x1 x2 x3 x4 m21) else (none))) else (b_law_205 sh F L xs k23 x0 x1 x2 x3 x4 m21)) else (none)))))))))))))))))))))) else (if ((xs (x4).toNatClampNeg) &&& (15 : Int32)) = 1 then (g_if (inB (x4 + (1 : Int32)) L) ((f_L_end sh F x1 (xs (x4 + (1 : Int32)).toNatClampNeg) m).bind (fun q32 => nm q32.1 (fun r31 => nm q32.2 (fun m30 => g_if (inB (x4 + (1 : Int32)) L) (g_if (oB sh x2 8) ((f_X8_end sh F x2 (xs (x4 + (1 : Int32)).toNatClampNeg) m30).bind (fun m35 => (f_X8_thrown sh F x2 m35).bind (fun q39 => nm q39.1 (fun r38 => nm q39.2 (fun m37 => if r38 = r31 then (b_law_785 sh F L xs k23 x0 x1 x2 x3 x4 m37) else (none)))))))))))) else (if ((xs (x4).toNatClampNeg) &&& (15 : Int32)) = 2 then (g_if (oB sh x1 7) ((f_X7_read sh F x1 m).bind (fun q45 => nm q45.1 (fun r44 => nm q45.2 (fun m43 => g_if (oB sh x2 8) ((f_X8_read sh F x2 m43).bind (fun q49 => nm q49.1 (fun r48 => nm q49.2 (fun m47 => if r44 = r48 then (b_law_785 sh F L xs k23 x0 x1 x2 x3 x4 m47) else (none)))))))))) else (if ((xs (x4).toNatClampNeg) &&& (15 : Int32)) = 3 then (g_if (oB sh x1 7) ((f_X7_fault sh F x1 m).bind (fun q55 => nm q55.1 (fun r54 => nm q55.2 (fun m53 => g_if (oB sh x2 8) ((f_X8_fault sh F x2 m53).bind (fun q59 => nm q59.1 (fun r58 => nm q59.2 (fun m57 => if r54 = r58 then (b_law_785 sh F L xs k23 x0 x1 x2 x3 x4 m57) else (none)))))))))) else (if ((xs (x4).toNatClampNeg) &&& (15 : Int32)) = 4 then (g_if (inB (x4 + (1 : Int32)) L) ((f_L_count sh F x1 (xs (x4 + (1 : Int32)).toNatClampNeg) x3 m).bind (fun q65 => nm q65.1 (fun r64 => nm q65.2 (fun m63 => g_if (inB (x4 + (1 : Int32)) L) (g_if (oB sh x2 8) ((f_X8_count sh F x2 (xs (x4 + (1 : Int32)).toNatClampNeg) m63).bind (fun q70 => nm q70.1 (fun r69 => nm q70.2 (fun m68 => (f_X8_thrown sh F x2 m68).bind (fun q73 => nm q73.1 (fun r72 => nm q73.2 (fun m71 => if r72 = r64 then (if r64 = 0 then (g_if (aB sh x3 .long 0) (if (m71.2.1 x3 (0 : Int32).toNatClampNeg) = (r69.toInt64) then (b_law_323 sh F L xs k23 x0 x1 x2 x3 x4 m71) else (none))) else (b_law_323 sh F L xs k23 x0 x1 x2 x3 x4 m71)) else (none)))))))))))))) else (if ((xs (x4).toNatClampNeg) &&& (15 : Int32)) = 5 then (g_if (inB (x4 + (1 : Int32)) L) (g_if (inB (x4 + (2 : Int32)) L) ((f_L_scope sh F x1 (xs (x4 + (1 : Int32)).toNatClampNeg) (xs (x4 + (2 : Int32)).toNatClampNeg) x3 m).bind (fun q83 => nm q83.1 (fun r82 => nm q83.2 (fun m81 => g_if (inB (x4 + (1 : Int32)) L) (g_if (inB (x4 + (2 : Int32)) L) (g_if (oB sh x2 8) ((f_X8_scope sh F x2 (xs (x4 + (1 : Int32)).toNatClampNeg) (xs (x4 + (2 : Int32)).toNatClampNeg) m81).bind (fun q89 => nm q89.1 (fun r88 => nm q89.2 (fun m87 => (f_X8_thrown sh F x2 m87).bind (fun q92 => nm q92.1 (fun r91 => nm q92.2 (fun m90 => if r91 = r82 then (if r82 = 0 then (g_if (aB sh x3 .long 0) (if (m90.2.1 x3 (0 : Int32).toNatClampNeg) = (r88.toInt64) then (b_law_391 sh F L xs k23 x0 x1 x2 x3 x4 m90) else (none))) else (b_law_391 sh F L xs k23 x0 x1 x2 x3 x4 m90)) else (none)))))))))))))))) else (if ((xs (x4).toNatClampNeg) &&& (15 : Int32)) = 6 then (g_if (inB (x4 + (1 : Int32)) L) (g_if (inB (x4 + (2 : Int32)) L) ((f_L_declaration sh F x1 (xs (x4 + (1 : Int32)).toNatClampNeg) (xs (x4 + (2 : Int32)).toNatClampNeg) x3 m).bind (fun q102 => nm q102.1 (fun r101 => nm q102.2 (fun m100 => g_if (inB (x4 + (1 : Int32)) L) (g_if (inB (x4 + (2 : Int32)) L) (g_if (oB sh x2 8) ((f_X8_declaration sh F x2 (xs (x4 + (1 : Int32)).toNatClampNeg) (xs (x4 + (2 : Int32)).toNatClampNeg) m100).bind (fun q108 => nm q108.1 (fun r107 => nm q108.2 (fun m106 => (f_X8_thrown sh F x2 m106).bind (fun q111 => nm q111.1 (fun r110 => nm q111.2 (fun m109 => if r110 = r101 then (if r101 = 0 then (g_if (aB sh x3 .long 0) (if (m109.2.1 x3 (0 : Int32).toNatClampNeg) = (r107.toInt64) then (b_law_459 sh F L xs k23 x0 x1 x2 x3 x4 m109) else (none))) else (b_law_459 sh F L xs k23 x0 x1 x2 x3 x4 m109)) else (none)))))))))))))))) else (if ((xs (x4).toNatClampNeg) &&& (15 : Int32)) = 7 then (g_if (inB (x4 + (1 : Int32)) L) (g_if (inB (x4 + (2 : Int32)) L) ((f_L_reference sh F x1 (xs (x4 + (1 : Int32)).toNatClampNeg) (xs (x4 + (2 : Int32)).toNatClampNeg) x3 m).bind (fun q121 => nm q121.1 (fun r120 => nm q121.2 (fun m119 => g_if (inB (x4 + (1 : Int32)) L) (g_if (inB (x4 + (2 : Int32)) L) (g_if (oB sh x2 8) ((f_X8_reference sh F x2 (xs (x4 + (1 : Int32)).toNatClampNeg) (xs (x4 + (2 : Int32)).toNatClampNeg) m119).bind (fun q127 => nm q127.1 (fun r126 => nm q127.2 (fun m125 => (f_X8_thrown sh F x2 m125).bind (fun q130 => nm q130.1 (fun r129 => nm q130.2 (fun m128 => if r129 = r120 then (if r120 = 0 then (g_if (aB sh x3 .long 0) (if (m128.2.1 x3 (0 : Int32).toNatClampNeg) = (r126.toInt64) then (b_law_527 sh F L xs k23 x0 x1 x2 x3 x4 m128) else (none))) else (b_law_527 sh F L xs k23 x0 x1 x2 x3 x4 m128)) else (none)))))))))))))))) else (if ((xs (x4).toNatClampNeg) &&& (15 : Int32)) = 8 then (g_if (inB (x4 + (1 : Int32)) L) (g_if (inB (x4 + (2 : Int32)) L) ((f_L_meant sh F x1 (xs (x4 + (1 : Int32)).toNatClampNeg) (xs (x4 + (2 : Int32)).toNatClampNeg) x3 m).bind (fun q140 => nm q140.1 (fun r139 => nm q140.2 (fun m138 => g_if (inB (x4 + (1 : Int32)) L) (g_if (inB (x4 + (2 : Int32)) L) (g_if (oB sh x2 8) ((f_X8_meant sh F x2 (xs (x4 + (1 : Int32)).toNatClampNeg) (xs (x4 + (2 : Int32)).toNatClampNeg) m138).bind (fun q146 => nm q146.1 (fun r145 => nm q146.2 (fun m144 => (f_X8_thrown sh F x2 m144).bind (fun q149 => nm q149.1 (fun r148 => nm q149.2 (fun m147 => if r148 = r139 then (if r139 = 0 then (g_if (aB sh x3 .long 0) (if (m147.2.1 x3 (0 : Int32).toNatClampNeg) = (r145.toInt64) then (b_law_595 sh F L xs k23 x0 x1 x2 x3 x4 m147) else (none))) else (b_law_595 sh F L xs k23 x0 x1 x2 x3 x4 m147)) else (none)))))))))))))))) else (if ((xs (x4).toNatClampNeg) &&& (15 : Int32)) = 9 then (g_if (inB (x4 + (1 : Int32)) L) (g_if (inB (x4 + (2 : Int32)) L) ((f_L_friends sh F x1 (xs (x4 + (1 : Int32)).toNatClampNeg) (xs (x4 + (2 : Int32)).toNatClampNeg) x3 m).bind (fun q159 => nm q159.1 (fun r158 => nm q159.2 (fun m157 => g_if (inB (x4 + (1 : Int32)) L) (g_if (inB (x4 + (2 : Int32)) L) (g_if (oB sh x2 8) ((f_X8_friends sh F x2 (xs (x4 + (1 : Int32)).toNatClampNeg) (xs (x4 + (2 : Int32)).toNatClampNeg) m157).bind (fun q165 => nm q165.1 (fun r164 => nm q165.2 (fun m163 => (f_X8_thrown sh F x2 m163).bind (fun q168 => nm q168.1 (fun r167 => nm q168.2 (fun m166 => if r167 = r158 then (if r158 = 0 then (g_if (aB sh x3 .long 0) (if r164 = 0 then (b_law_664 sh F L xs k23 x0 x1 x2 x3 x4 0 (m166.2.1 x3 (0 : Int32).toNatClampNeg) m166) else (b_law_664 sh F L xs k23 x0 x1 x2 x3 x4 1 (m166.2.1 x3 (0 : Int32).toNatClampNeg) m166))) else (b_law_670 sh F L xs k23 x0 x1 x2 x3 x4 m166)) else (none)))))))))))))))) else (if ((xs (x4).toNatClampNeg) &&& (15 : Int32)) = 10 then (g_if (inB (x4 + (1 : Int32)) L) ((f_L_rename sh F x1 (xs (x4 + (1 : Int32)).toNatClampNeg) x3 m).bind (fun q177 => nm q177.1 (fun r176 => nm q177.2 (fun m175 => g_if (inB (x4 + (1 : Int32)) L) (g_if (oB sh x2 8) ((f_X8_rename sh F x2 (xs (x4 + (1 : Int32)).toNatClampNeg) m175).bind (fun q182 => nm q182.1 (fun r181 => nm q182.2 (fun m180 => (f_X8_thrown sh F x2 m180).bind (fun q185 => nm q185.1 (fun r184 => nm q185.2 (fun m183 => if r184 = r176 then (if r176 = 0 then (g_if (aB sh x3 .long 0) (if (m183.2.1 x3 (0 : Int32).toNatClampNeg) = (r181.toInt64) then (b_law_726 sh F L xs k23 x0 x1 x2 x3 x4 m183) else (none))) else (b_law_726 sh F L xs k23 x0 x1 x2 x3 x4 m183)) else (none)))))))))))))) else (if ((xs (x4).toNatClampNeg) &&& (15 : Int32)) = 11 then (g_if (inB (x4 + (1 : Int32)) L) ((f_L_letter sh F x1 (xs (x4 + (1 : Int32)).toNatClampNeg) x3 m).bind (fun q194 => nm q194.1 (fun r193 => nm q194.2 (fun m192 => g_if (inB (x4 + (1 : Int32)) L) (g_if (oB sh x2 8) ((f_X8_letter sh F x2 (xs (x4 + (1 : Int32)).toNatClampNeg) m192).bind (fun q199 => nm q199.1 (fun r198 => nm q199.2 (fun m197 => (f_X8_thrown sh F x2 m197).bind (fun q202 => nm q202.1 (fun r201 => nm q202.2 (fun m200 => if r201 = r193 then (if r193 = 0 then (g_if (aB sh x3 .long 0) (if (m200.2.1 x3 (0 : Int32).toNatClampNeg) = (r198.toInt64) then (b_law_782 sh F L xs k23 x0 x1 x2 x3 x4 m200) else (none))) else (b_law_782 sh F L xs k23 x0 x1 x2 x3 x4 m200)) else (none)))))))))))))) else (b_law_785 sh F L xs k23 x0 x1 x2 x3 x4 m))))))))))))))))
set_option maxRecDepth 100000 in
set_option maxHeartbeats 4000000 in
theorem tb_law_23 {X : gX} {w : gW} {Q : State → Prop} {L : Nat} {xs : Nat → Int32} (C : gC X w K_L_law 7 RL 14) (hret : gLe X w Q) (hG : gJs w) (hl0 : X.2.1.stackTraces = false) (hE : gJx w) (hc : gSc X w L xs) (hR : X.2.2.2.1 = room_1) {F : Nat} {k23 : Nat → Nat → Nat → Nat → Int32 → gM → Option (Unit)} (hk23 : ∀ (z0 : Nat) (z1 : Nat) (z2 : Nat) (z3 : Nat) (z4 : Int32) (m : gM), k23 z0 z1 z2 z3 z4 m = some () → gV X w (1000 + z4.toNatClampNeg) (200000 + 10 * z4.toNatClampNeg) Q 7 23 [(0, .ref z0), (1, .ref z1), (2, .ref z2), (3, .ref z3), (4, .int z4)] [] m) {x0 : Nat} {x1 : Nat} {x2 : Nat} {x3 : Nat} {x4 : Int32} {m : gM} (h : b_law_23 w.2.2.2.2.1 F L xs k23 x0 x1 x2 x3 x4 m = some ()) : gV X w (1000 + x4.toNatClampNeg) (200000 + 10 * x4.toNatClampNeg) Q 7 23 [(0, .ref x0), (1, .ref x1), (2, .ref x2), (3, .ref x3), (4, .int x4)] [] m := by
  unfold b_law_23 at h
  obtain ⟨hb4, h⟩ := g_okk h
  have hb4 := of_decide_eq_true hb4
  have hrm : 1000 + x4.toNatClampNeg + 1 ≤ 601024 ∧ 200000 + 10 * x4.toNatClampNeg + 6 ≤ 7293034 := ⟨by omega, by omega⟩
  obtain ⟨hi0, h⟩ := g_okk h
  have hi0 := of_decide_eq_true hi0
  refine v_iload (pc := 23) C 13 4 rfl rfl ?_
  refine v_aload_n (pc := 25) C 14 0 rfl rfl rfl ?_
  refine v_scl (pc := 26) C hc 15 hi0 rfl ?_
  refine v_bipush (pc := 27) C 16 6 rfl (by decide) ?_
  refine v_isub (pc := 29) C 17 rfl ?_
  refine v_icmp_gt (pc := 30) C 18 791 rfl (by decide) (fun c1 => ?_) (fun c1 => ?_)
  · replace h := g_ifT c1 h
    refine v_iconst (pc := 791) C 471 1 rfl (by decide) ?_
    exact hret _ _ _ _ _ 472 rfl (by omega) (by omega)
  · replace h := g_ifF c1 h
    refine v_aload_n (pc := 33) C 19 0 rfl rfl rfl ?_
    refine v_iload (pc := 34) C 20 4 rfl rfl ?_
    obtain ⟨b2, h⟩ := g_okk h
    refine v_scd (pc := 36) C hc 21 hi0 b2 rfl ?_
    refine v_bipush (pc := 37) C 22 15 rfl (by decide) ?_
    refine v_iand (pc := 39) C 23 rfl ?_
    by_cases c3 : ((xs (x4).toNatClampNeg) &&& (15 : Int32)) = 0
    · replace h := g_ifT c3 h
      refine v_tableIn (pc := 40) C 24 104 rfl (by rw [c3]; decide) (by rw [c3]; decide) (by rw [c3]; rfl) (by decide) ?_
      refine v_aload_n (pc := 104) C 25 1 rfl rfl rfl ?_
      refine v_aload_n (pc := 105) C 26 0 rfl rfl rfl ?_
      refine v_iload (pc := 106) C 27 4 rfl rfl ?_
      refine v_iconst (pc := 108) C 28 1 rfl (by decide) ?_
      refine v_iadd (pc := 109) C 29 rfl ?_
      obtain ⟨b4, h⟩ := g_okk h
      refine v_scd (pc := 110) C hc 30 hi0 b4 rfl ?_
      refine v_aload_n (pc := 111) C 31 0 rfl rfl rfl ?_
      refine v_iload (pc := 112) C 32 4 rfl rfl ?_
      refine v_iconst (pc := 114) C 33 2 rfl (by decide) ?_
      refine v_iadd (pc := 115) C 34 rfl ?_
      obtain ⟨b5, h⟩ := g_okk h
      refine v_scd (pc := 116) C hc 35 hi0 b5 rfl ?_
      refine v_aload_n (pc := 117) C 36 0 rfl rfl rfl ?_
      refine v_iload (pc := 118) C 37 4 rfl rfl ?_
      refine v_iconst (pc := 120) C 38 3 rfl (by decide) ?_
      refine v_iadd (pc := 121) C 39 rfl ?_
      obtain ⟨b6, h⟩ := g_okk h
      refine v_scd (pc := 122) C hc 40 hi0 b6 rfl ?_
      refine v_aload_n (pc := 123) C 41 0 rfl rfl rfl ?_
      refine v_iload (pc := 124) C 42 4 rfl rfl ?_
      refine v_iconst (pc := 126) C 43 4 rfl (by decide) ?_
      refine v_iadd (pc := 127) C 44 rfl ?_
      obtain ⟨b7, h⟩ := g_okk h
      refine v_scd (pc := 128) C hc 45 hi0 b7 rfl ?_
      refine v_aload_n (pc := 129) C 46 0 rfl rfl rfl ?_
      refine v_iload (pc := 130) C 47 4 rfl rfl ?_
      refine v_iconst (pc := 132) C 48 5 rfl (by decide) ?_
      refine v_iadd (pc := 133) C 49 rfl ?_
      obtain ⟨b8, h⟩ := g_okk h
      refine v_scd (pc := 134) C hc 50 hi0 b8 rfl ?_
      refine v_aload_n (pc := 135) C 51 3 rfl rfl rfl ?_
      obtain ⟨⟨r10, m9⟩, qm9, h⟩ := g_bd h
      replace h := g_nm (y := m9) (g_nm (y := r10) h rfl) rfl
      refine v_callSA (pc := 136) C 52 rfl mw_L_feed (g_tb 722 (by decide +kernel) rfl) (g_tb 721 (by decide +kernel) rfl) (c_L_feed C.2.2.2.2.2.2.2.2.2.2.2 hG hl0 hE qm9) (by decide) rfl (Nat.le_of_ble_eq_true rfl) ⟨by rw [hR]; show _ ≤ 601024; omega, by rw [hR]; show _ ≤ 7293034; omega⟩ rfl ?_
      change gV X w (1000 + x4.toNatClampNeg + 1) (200000 + 10 * x4.toNatClampNeg + 6) Q 7 139 [(0, .ref x0), (1, .ref x1), (2, .ref x2), (3, .ref x3), (4, .int x4)] [.int r10] m9
      refine v_istore (pc := 139) (lv' := [(5, .int r10), (0, .ref x0), (1, .ref x1), (2, .ref x2), (3, .ref x3), (4, .int x4)]) C 53 rfl (by decide) rfl ?_
      refine v_aload_n (pc := 141) C 54 3 rfl rfl rfl ?_
      refine v_aload_n (pc := 142) C 55 1 rfl rfl rfl ?_
      refine v_iload (pc := 143) C 56 5 rfl rfl ?_
      refine v_iconst (pc := 145) C 57 1 rfl (by decide) ?_
      refine v_iadd (pc := 146) C 58 rfl ?_
      obtain ⟨b12, h⟩ := g_okk h
      refine v_scd (pc := 147) C hc 59 hi0 b12 rfl ?_
      refine v_aload_n (pc := 148) C 60 1 rfl rfl rfl ?_
      refine v_iload (pc := 149) C 61 5 rfl rfl ?_
      refine v_iconst (pc := 151) C 62 2 rfl (by decide) ?_
      refine v_iadd (pc := 152) C 63 rfl ?_
      obtain ⟨b13, h⟩ := g_okk h
      refine v_scd (pc := 153) C hc 64 hi0 b13 rfl ?_
      refine v_aload_n (pc := 154) C 65 1 rfl rfl rfl ?_
      refine v_iload (pc := 155) C 66 5 rfl rfl ?_
      refine v_iconst (pc := 157) C 67 3 rfl (by decide) ?_
      refine v_iadd (pc := 158) C 68 rfl ?_
      obtain ⟨b14, h⟩ := g_okk h
      refine v_scd (pc := 159) C hc 69 hi0 b14 rfl ?_
      refine v_aload_n (pc := 160) C 70 1 rfl rfl rfl ?_
      refine v_iload (pc := 161) C 71 5 rfl rfl ?_
      refine v_iconst (pc := 163) C 72 4 rfl (by decide) ?_
      refine v_iadd (pc := 164) C 73 rfl ?_
      obtain ⟨b15, h⟩ := g_okk h
      refine v_scd (pc := 165) C hc 74 hi0 b15 rfl ?_
      refine v_aload_n (pc := 166) C 75 1 rfl rfl rfl ?_
      refine v_iload (pc := 167) C 76 5 rfl rfl ?_
      refine v_iconst (pc := 169) C 77 5 rfl (by decide) ?_
      refine v_iadd (pc := 170) C 78 rfl ?_
      obtain ⟨b16, h⟩ := g_okk h
      refine v_scd (pc := 171) C hc 79 hi0 b16 rfl ?_
      obtain ⟨o17, h⟩ := g_okk h
      obtain ⟨⟨r19, m18⟩, qm18, h⟩ := g_bd h
      replace h := g_nm (y := m18) (g_nm (y := r19) h rfl) rfl
      refine v_callV (pc := 172) C 80 rfl mf_X8_feed clX8 rfl im_X8_feed lm_ScopeGraphLaw_59 (c_X8_feed C.2.2.2.2.2.2.2.2.2.2.2 qm18) (by decide) rfl (g_oB o17) (Nat.le_of_ble_eq_true rfl) ⟨by rw [hR]; show _ ≤ 601024; omega, by rw [hR]; show _ ≤ 7293034; omega⟩ rfl ?_
      change gV X w (1000 + x4.toNatClampNeg + 1) (200000 + 10 * x4.toNatClampNeg + 6) Q 7 175 [(5, .int r10), (0, .ref x0), (1, .ref x1), (2, .ref x2), (3, .ref x3), (4, .int x4)] [.int r19] m18
      refine v_istore (pc := 175) (lv' := [(6, .int r19), (5, .int r10), (0, .ref x0), (1, .ref x1), (2, .ref x2), (3, .ref x3), (4, .int x4)]) C 81 rfl (by decide) rfl ?_
      refine v_aload_n (pc := 177) C 82 4 rfl rfl rfl ?_
      obtain ⟨⟨r22, m21⟩, qm21, h⟩ := g_bd h
      replace h := g_nm (y := m21) (g_nm (y := r22) h rfl) rfl
      refine v_callV (pc := 178) C 83 rfl mf_X8_thrown clX8 rfl im_X8_thrown lm_ScopeGraphLaw_60 (c_X8_thrown C.2.2.2.2.2.2.2.2.2.2.2 qm21) (by decide) rfl (g_oB o17) (Nat.le_of_ble_eq_true rfl) ⟨by rw [hR]; show _ ≤ 601024; omega, by rw [hR]; show _ ≤ 7293034; omega⟩ rfl ?_
      change gV X w (1000 + x4.toNatClampNeg + 1) (200000 + 10 * x4.toNatClampNeg + 6) Q 7 181 [(6, .int r19), (5, .int r10), (0, .ref x0), (1, .ref x1), (2, .ref x2), (3, .ref x3), (4, .int x4)] [.int r22] m21
      refine v_iload (pc := 181) C 84 1 rfl rfl ?_
      refine v_icmp_eq (pc := 183) C 85 188 rfl (by decide) (fun c24 => ?_) (fun c24 => ?_)
      · replace h := g_ifT c24 h
        refine v_iload (pc := 188) C 88 1 rfl rfl ?_
        refine v_if_ne (pc := 190) C 89 205 rfl (by decide) (fun c25 => ?_) (fun c25 => ?_)
        · replace h := g_ifF c25 h
          refine v_sub [(0, .ref x0), (1, .ref x1), (2, .ref x2), (3, .ref x3), (4, .int x4)] [2, 3, 4, 5, 6] rfl ?_
          exact tb_law_205 (F := F) C hret hG hl0 hE hc hR hk23 h
        · replace h := g_ifT c25 h
          refine v_aload_n (pc := 193) C 90 5 rfl rfl rfl ?_
          refine v_iconst (pc := 194) C 91 0 rfl (by decide) ?_
          obtain ⟨b26, h⟩ := g_okk h
          refine v_lald' (pc := 195) C 92 rfl b26 ?_
          refine v_iload (pc := 196) C 93 0 rfl rfl ?_
          refine v_i2l (pc := 198) C 94 rfl ?_
          refine v_lcmp (pc := 199) C 95 rfl ?_
          refine v_lif_eq (pc := 200) C 96 205 rfl (by decide) (fun c27 => ?_) (fun c27 => ?_)
          · replace h := g_ifT c27 h
            refine v_sub [(0, .ref x0), (1, .ref x1), (2, .ref x2), (3, .ref x3), (4, .int x4)] [2, 3, 4, 5, 6] rfl ?_
            exact tb_law_205 (F := F) C hret hG hl0 hE hc hR hk23 h
          · replace h := g_ifF c27 h
            refine v_iconst (pc := 203) C 97 0 rfl (by decide) ?_
            cases h
      · replace h := g_ifF c24 h
        refine v_iconst (pc := 186) C 86 0 rfl (by decide) ?_
        cases h
    · replace h := g_ifF c3 h
      have zc3 := g_tne (n := 0) (by decide) c3
      by_cases c28 : ((xs (x4).toNatClampNeg) &&& (15 : Int32)) = 1
      · replace h := g_ifT c28 h
        refine v_tableIn (pc := 40) C 24 208 rfl (by rw [c28]; decide) (by rw [c28]; decide) (by rw [c28]; rfl) (by decide) ?_
        refine v_aload_n (pc := 208) C 100 1 rfl rfl rfl ?_
        refine v_aload_n (pc := 209) C 101 0 rfl rfl rfl ?_
        refine v_iload (pc := 210) C 102 4 rfl rfl ?_
        refine v_iconst (pc := 212) C 103 1 rfl (by decide) ?_
        refine v_iadd (pc := 213) C 104 rfl ?_
        obtain ⟨b29, h⟩ := g_okk h
        refine v_scd (pc := 214) C hc 105 hi0 b29 rfl ?_
        obtain ⟨⟨r31, m30⟩, qm30, h⟩ := g_bd h
        replace h := g_nm (y := m30) (g_nm (y := r31) h rfl) rfl
        refine v_callSA (pc := 215) C 106 rfl mw_L_end (g_tb 805 (by decide +kernel) rfl) (g_tb 804 (by decide +kernel) rfl) (c_L_end C.2.2.2.2.2.2.2.2.2.2.2 hG hl0 hE qm30) (by decide) rfl (Nat.le_of_ble_eq_true rfl) ⟨by rw [hR]; show _ ≤ 601024; omega, by rw [hR]; show _ ≤ 7293034; omega⟩ rfl ?_
        change gV X w (1000 + x4.toNatClampNeg + 1) (200000 + 10 * x4.toNatClampNeg + 6) Q 7 218 [(0, .ref x0), (1, .ref x1), (2, .ref x2), (3, .ref x3), (4, .int x4)] [.int r31] m30
        refine v_istore (pc := 218) (lv' := [(5, .int r31), (0, .ref x0), (1, .ref x1), (2, .ref x2), (3, .ref x3), (4, .int x4)]) C 107 rfl (by decide) rfl ?_
        refine v_aload_n (pc := 220) C 108 3 rfl rfl rfl ?_
        refine v_aload_n (pc := 221) C 109 1 rfl rfl rfl ?_
        refine v_iload (pc := 222) C 110 5 rfl rfl ?_
        refine v_iconst (pc := 224) C 111 1 rfl (by decide) ?_
        refine v_iadd (pc := 225) C 112 rfl ?_
        obtain ⟨b33, h⟩ := g_okk h
        refine v_scd (pc := 226) C hc 113 hi0 b33 rfl ?_
        obtain ⟨o34, h⟩ := g_okk h
        obtain ⟨m35, qm35, h⟩ := g_bd h
        refine v_callV (pc := 227) C 114 rfl mf_X8_end clX8 rfl im_X8_end lm_ScopeGraphLaw_67 (c_X8_end C.2.2.2.2.2.2.2.2.2.2.2 qm35) (by decide) rfl (g_oB o34) (Nat.le_of_ble_eq_true rfl) ⟨by rw [hR]; show _ ≤ 601024; omega, by rw [hR]; show _ ≤ 7293034; omega⟩ rfl ?_
        change gV X w (1000 + x4.toNatClampNeg + 1) (200000 + 10 * x4.toNatClampNeg + 6) Q 7 230 [(5, .int r31), (0, .ref x0), (1, .ref x1), (2, .ref x2), (3, .ref x3), (4, .int x4)] [] m35
        refine v_aload_n (pc := 230) C 115 3 rfl rfl rfl ?_
        obtain ⟨⟨r38, m37⟩, qm37, h⟩ := g_bd h
        replace h := g_nm (y := m37) (g_nm (y := r38) h rfl) rfl
        refine v_callV (pc := 231) C 116 rfl mf_X8_thrown clX8 rfl im_X8_thrown lm_ScopeGraphLaw_60 (c_X8_thrown C.2.2.2.2.2.2.2.2.2.2.2 qm37) (by decide) rfl (g_oB o34) (Nat.le_of_ble_eq_true rfl) ⟨by rw [hR]; show _ ≤ 601024; omega, by rw [hR]; show _ ≤ 7293034; omega⟩ rfl ?_
        change gV X w (1000 + x4.toNatClampNeg + 1) (200000 + 10 * x4.toNatClampNeg + 6) Q 7 234 [(5, .int r31), (0, .ref x0), (1, .ref x1), (2, .ref x2), (3, .ref x3), (4, .int x4)] [.int r38] m37
        refine v_iload (pc := 234) C 117 0 rfl rfl ?_
        refine v_icmp_eq (pc := 236) C 118 241 rfl (by decide) (fun c40 => ?_) (fun c40 => ?_)
        · replace h := g_ifT c40 h
          refine v_goto (pc := 241) C 121 785 rfl (by decide) ?_
          refine v_sub [(0, .ref x0), (1, .ref x1), (2, .ref x2), (3, .ref x3), (4, .int x4)] [1, 2, 3, 4, 5] rfl ?_
          exact tb_law_785 (F := F) C hret hG hl0 hE hc hR hk23 h
        · replace h := g_ifF c40 h
          refine v_iconst (pc := 239) C 119 0 rfl (by decide) ?_
          cases h
      · replace h := g_ifF c28 h
        have zc28 := g_tne (n := 1) (by decide) c28
        by_cases c41 : ((xs (x4).toNatClampNeg) &&& (15 : Int32)) = 2
        · replace h := g_ifT c41 h
          refine v_tableIn (pc := 40) C 24 244 rfl (by rw [c41]; decide) (by rw [c41]; decide) (by rw [c41]; rfl) (by decide) ?_
          refine v_aload_n (pc := 244) C 122 1 rfl rfl rfl ?_
          obtain ⟨o42, h⟩ := g_okk h
          obtain ⟨⟨r44, m43⟩, qm43, h⟩ := g_bd h
          replace h := g_nm (y := m43) (g_nm (y := r44) h rfl) rfl
          refine v_callV (pc := 245) C 123 rfl mf_X7_read clX7 rfl im_X7_read lm_ScopeGraphLaw_68 (c_X7_read C.2.2.2.2.2.2.2.2.2.2.2 hG qm43) (by decide) rfl (g_oB o42) (Nat.le_of_ble_eq_true rfl) ⟨by rw [hR]; show _ ≤ 601024; omega, by rw [hR]; show _ ≤ 7293034; omega⟩ rfl ?_
          change gV X w (1000 + x4.toNatClampNeg) (200000 + 10 * x4.toNatClampNeg) Q 7 248 [(0, .ref x0), (1, .ref x1), (2, .ref x2), (3, .ref x3), (4, .int x4)] [.int r44] m43
          refine v_aload_n (pc := 248) C 124 2 rfl rfl rfl ?_
          obtain ⟨o46, h⟩ := g_okk h
          obtain ⟨⟨r48, m47⟩, qm47, h⟩ := g_bd h
          replace h := g_nm (y := m47) (g_nm (y := r48) h rfl) rfl
          refine v_callV (pc := 249) C 125 rfl mf_X8_read clX8 rfl im_X8_read lm_ScopeGraphLaw_71 (c_X8_read C.2.2.2.2.2.2.2.2.2.2.2 qm47) (by decide) rfl (g_oB o46) (Nat.le_of_ble_eq_true rfl) ⟨by rw [hR]; show _ ≤ 601024; omega, by rw [hR]; show _ ≤ 7293034; omega⟩ rfl ?_
          change gV X w (1000 + x4.toNatClampNeg) (200000 + 10 * x4.toNatClampNeg) Q 7 252 [(0, .ref x0), (1, .ref x1), (2, .ref x2), (3, .ref x3), (4, .int x4)] [.int r48, .int r44] m47
          refine v_icmp_eq (pc := 252) C 126 785 rfl (by decide) (fun c50 => ?_) (fun c50 => ?_)
          · replace h := g_ifT c50 h
            refine gV_widen (kc := 1000 + x4.toNatClampNeg + 1) (ks := 200000 + 10 * x4.toNatClampNeg + 6) (by omega) (by omega) ?_
            refine v_sub [(0, .ref x0), (1, .ref x1), (2, .ref x2), (3, .ref x3), (4, .int x4)] [0, 1, 2, 3, 4] rfl ?_
            exact tb_law_785 (F := F) C hret hG hl0 hE hc hR hk23 h
          · replace h := g_ifF c50 h
            refine v_iconst (pc := 255) C 127 0 rfl (by decide) ?_
            cases h
        · replace h := g_ifF c41 h
          have zc41 := g_tne (n := 2) (by decide) c41
          by_cases c51 : ((xs (x4).toNatClampNeg) &&& (15 : Int32)) = 3
          · replace h := g_ifT c51 h
            refine v_tableIn (pc := 40) C 24 257 rfl (by rw [c51]; decide) (by rw [c51]; decide) (by rw [c51]; rfl) (by decide) ?_
            refine v_aload_n (pc := 257) C 129 1 rfl rfl rfl ?_
            obtain ⟨o52, h⟩ := g_okk h
            obtain ⟨⟨r54, m53⟩, qm53, h⟩ := g_bd h
            replace h := g_nm (y := m53) (g_nm (y := r54) h rfl) rfl
            refine v_callV (pc := 258) C 130 rfl mf_X7_fault clX7 rfl im_X7_fault lm_ScopeGraphLaw_72 (c_X7_fault C.2.2.2.2.2.2.2.2.2.2.2 qm53) (by decide) rfl (g_oB o52) (Nat.le_of_ble_eq_true rfl) ⟨by rw [hR]; show _ ≤ 601024; omega, by rw [hR]; show _ ≤ 7293034; omega⟩ rfl ?_
            change gV X w (1000 + x4.toNatClampNeg) (200000 + 10 * x4.toNatClampNeg) Q 7 261 [(0, .ref x0), (1, .ref x1), (2, .ref x2), (3, .ref x3), (4, .int x4)] [.int r54] m53
            refine v_aload_n (pc := 261) C 131 2 rfl rfl rfl ?_
            obtain ⟨o56, h⟩ := g_okk h
            obtain ⟨⟨r58, m57⟩, qm57, h⟩ := g_bd h
            replace h := g_nm (y := m57) (g_nm (y := r58) h rfl) rfl
            refine v_callV (pc := 262) C 132 rfl mf_X8_fault clX8 rfl im_X8_fault lm_ScopeGraphLaw_75 (c_X8_fault C.2.2.2.2.2.2.2.2.2.2.2 qm57) (by decide) rfl (g_oB o56) (Nat.le_of_ble_eq_true rfl) ⟨by rw [hR]; show _ ≤ 601024; omega, by rw [hR]; show _ ≤ 7293034; omega⟩ rfl ?_
            change gV X w (1000 + x4.toNatClampNeg) (200000 + 10 * x4.toNatClampNeg) Q 7 265 [(0, .ref x0), (1, .ref x1), (2, .ref x2), (3, .ref x3), (4, .int x4)] [.int r58, .int r54] m57
            refine v_icmp_eq (pc := 265) C 133 785 rfl (by decide) (fun c60 => ?_) (fun c60 => ?_)
            · replace h := g_ifT c60 h
              refine gV_widen (kc := 1000 + x4.toNatClampNeg + 1) (ks := 200000 + 10 * x4.toNatClampNeg + 6) (by omega) (by omega) ?_
              refine v_sub [(0, .ref x0), (1, .ref x1), (2, .ref x2), (3, .ref x3), (4, .int x4)] [0, 1, 2, 3, 4] rfl ?_
              exact tb_law_785 (F := F) C hret hG hl0 hE hc hR hk23 h
            · replace h := g_ifF c60 h
              refine v_iconst (pc := 268) C 134 0 rfl (by decide) ?_
              cases h
          · replace h := g_ifF c51 h
            have zc51 := g_tne (n := 3) (by decide) c51
            by_cases c61 : ((xs (x4).toNatClampNeg) &&& (15 : Int32)) = 4
            · replace h := g_ifT c61 h
              refine v_tableIn (pc := 40) C 24 270 rfl (by rw [c61]; decide) (by rw [c61]; decide) (by rw [c61]; rfl) (by decide) ?_
              refine v_aload_n (pc := 270) C 136 1 rfl rfl rfl ?_
              refine v_aload_n (pc := 271) C 137 0 rfl rfl rfl ?_
              refine v_iload (pc := 272) C 138 4 rfl rfl ?_
              refine v_iconst (pc := 274) C 139 1 rfl (by decide) ?_
              refine v_iadd (pc := 275) C 140 rfl ?_
              obtain ⟨b62, h⟩ := g_okk h
              refine v_scd (pc := 276) C hc 141 hi0 b62 rfl ?_
              refine v_aload_n (pc := 277) C 142 3 rfl rfl rfl ?_
              obtain ⟨⟨r64, m63⟩, qm63, h⟩ := g_bd h
              replace h := g_nm (y := m63) (g_nm (y := r64) h rfl) rfl
              refine v_callSA (pc := 278) C 143 rfl mw_L_count (g_tb 829 (by decide +kernel) rfl) (g_tb 828 (by decide +kernel) rfl) (c_L_count C.2.2.2.2.2.2.2.2.2.2.2 hG hl0 hE qm63) (by decide) rfl (Nat.le_of_ble_eq_true rfl) ⟨by rw [hR]; show _ ≤ 601024; omega, by rw [hR]; show _ ≤ 7293034; omega⟩ rfl ?_
              change gV X w (1000 + x4.toNatClampNeg + 1) (200000 + 10 * x4.toNatClampNeg + 6) Q 7 281 [(0, .ref x0), (1, .ref x1), (2, .ref x2), (3, .ref x3), (4, .int x4)] [.int r64] m63
              refine v_istore (pc := 281) (lv' := [(5, .int r64), (0, .ref x0), (1, .ref x1), (2, .ref x2), (3, .ref x3), (4, .int x4)]) C 144 rfl (by decide) rfl ?_
              refine v_aload_n (pc := 283) C 145 3 rfl rfl rfl ?_
              refine v_aload_n (pc := 284) C 146 1 rfl rfl rfl ?_
              refine v_iload (pc := 285) C 147 5 rfl rfl ?_
              refine v_iconst (pc := 287) C 148 1 rfl (by decide) ?_
              refine v_iadd (pc := 288) C 149 rfl ?_
              obtain ⟨b66, h⟩ := g_okk h
              refine v_scd (pc := 289) C hc 150 hi0 b66 rfl ?_
              obtain ⟨o67, h⟩ := g_okk h
              obtain ⟨⟨r69, m68⟩, qm68, h⟩ := g_bd h
              replace h := g_nm (y := m68) (g_nm (y := r69) h rfl) rfl
              refine v_callV (pc := 290) C 151 rfl mf_X8_count clX8 rfl im_X8_count lm_ScopeGraphLaw_79 (c_X8_count C.2.2.2.2.2.2.2.2.2.2.2 qm68) (by decide) rfl (g_oB o67) (Nat.le_of_ble_eq_true rfl) ⟨by rw [hR]; show _ ≤ 601024; omega, by rw [hR]; show _ ≤ 7293034; omega⟩ rfl ?_
              change gV X w (1000 + x4.toNatClampNeg + 1) (200000 + 10 * x4.toNatClampNeg + 6) Q 7 293 [(5, .int r64), (0, .ref x0), (1, .ref x1), (2, .ref x2), (3, .ref x3), (4, .int x4)] [.int r69] m68
              refine v_istore (pc := 293) (lv' := [(6, .int r69), (5, .int r64), (0, .ref x0), (1, .ref x1), (2, .ref x2), (3, .ref x3), (4, .int x4)]) C 152 rfl (by decide) rfl ?_
              refine v_aload_n (pc := 295) C 153 4 rfl rfl rfl ?_
              obtain ⟨⟨r72, m71⟩, qm71, h⟩ := g_bd h
              replace h := g_nm (y := m71) (g_nm (y := r72) h rfl) rfl
              refine v_callV (pc := 296) C 154 rfl mf_X8_thrown clX8 rfl im_X8_thrown lm_ScopeGraphLaw_60 (c_X8_thrown C.2.2.2.2.2.2.2.2.2.2.2 qm71) (by decide) rfl (g_oB o67) (Nat.le_of_ble_eq_true rfl) ⟨by rw [hR]; show _ ≤ 601024; omega, by rw [hR]; show _ ≤ 7293034; omega⟩ rfl ?_
              change gV X w (1000 + x4.toNatClampNeg + 1) (200000 + 10 * x4.toNatClampNeg + 6) Q 7 299 [(6, .int r69), (5, .int r64), (0, .ref x0), (1, .ref x1), (2, .ref x2), (3, .ref x3), (4, .int x4)] [.int r72] m71
              refine v_iload (pc := 299) C 155 1 rfl rfl ?_
              refine v_icmp_eq (pc := 301) C 156 306 rfl (by decide) (fun c74 => ?_) (fun c74 => ?_)
              · replace h := g_ifT c74 h
                refine v_iload (pc := 306) C 159 1 rfl rfl ?_
                refine v_if_ne (pc := 308) C 160 323 rfl (by decide) (fun c75 => ?_) (fun c75 => ?_)
                · replace h := g_ifF c75 h
                  refine v_sub [(0, .ref x0), (1, .ref x1), (2, .ref x2), (3, .ref x3), (4, .int x4)] [2, 3, 4, 5, 6] rfl ?_
                  exact tb_law_323 (F := F) C hret hG hl0 hE hc hR hk23 h
                · replace h := g_ifT c75 h
                  refine v_aload_n (pc := 311) C 161 5 rfl rfl rfl ?_
                  refine v_iconst (pc := 312) C 162 0 rfl (by decide) ?_
                  obtain ⟨b76, h⟩ := g_okk h
                  refine v_lald' (pc := 313) C 163 rfl b76 ?_
                  refine v_iload (pc := 314) C 164 0 rfl rfl ?_
                  refine v_i2l (pc := 316) C 165 rfl ?_
                  refine v_lcmp (pc := 317) C 166 rfl ?_
                  refine v_lif_eq (pc := 318) C 167 323 rfl (by decide) (fun c77 => ?_) (fun c77 => ?_)
                  · replace h := g_ifT c77 h
                    refine v_sub [(0, .ref x0), (1, .ref x1), (2, .ref x2), (3, .ref x3), (4, .int x4)] [2, 3, 4, 5, 6] rfl ?_
                    exact tb_law_323 (F := F) C hret hG hl0 hE hc hR hk23 h
                  · replace h := g_ifF c77 h
                    refine v_iconst (pc := 321) C 168 0 rfl (by decide) ?_
                    cases h
              · replace h := g_ifF c74 h
                refine v_iconst (pc := 304) C 157 0 rfl (by decide) ?_
                cases h
            · replace h := g_ifF c61 h
              have zc61 := g_tne (n := 4) (by decide) c61
              by_cases c78 : ((xs (x4).toNatClampNeg) &&& (15 : Int32)) = 5
              · replace h := g_ifT c78 h
                refine v_tableIn (pc := 40) C 24 326 rfl (by rw [c78]; decide) (by rw [c78]; decide) (by rw [c78]; rfl) (by decide) ?_
                refine v_aload_n (pc := 326) C 171 1 rfl rfl rfl ?_
                refine v_aload_n (pc := 327) C 172 0 rfl rfl rfl ?_
                refine v_iload (pc := 328) C 173 4 rfl rfl ?_
                refine v_iconst (pc := 330) C 174 1 rfl (by decide) ?_
                refine v_iadd (pc := 331) C 175 rfl ?_
                obtain ⟨b79, h⟩ := g_okk h
                refine v_scd (pc := 332) C hc 176 hi0 b79 rfl ?_
                refine v_aload_n (pc := 333) C 177 0 rfl rfl rfl ?_
                refine v_iload (pc := 334) C 178 4 rfl rfl ?_
                refine v_iconst (pc := 336) C 179 2 rfl (by decide) ?_
                refine v_iadd (pc := 337) C 180 rfl ?_
                obtain ⟨b80, h⟩ := g_okk h
                refine v_scd (pc := 338) C hc 181 hi0 b80 rfl ?_
                refine v_aload_n (pc := 339) C 182 3 rfl rfl rfl ?_
                obtain ⟨⟨r82, m81⟩, qm81, h⟩ := g_bd h
                replace h := g_nm (y := m81) (g_nm (y := r82) h rfl) rfl
                refine v_callSA (pc := 340) C 183 rfl mw_L_scope (g_tb 862 (by decide +kernel) rfl) (g_tb 861 (by decide +kernel) rfl) (c_L_scope C.2.2.2.2.2.2.2.2.2.2.2 hG hl0 hE qm81) (by decide) rfl (Nat.le_of_ble_eq_true rfl) ⟨by rw [hR]; show _ ≤ 601024; omega, by rw [hR]; show _ ≤ 7293034; omega⟩ rfl ?_
                change gV X w (1000 + x4.toNatClampNeg + 1) (200000 + 10 * x4.toNatClampNeg + 6) Q 7 343 [(0, .ref x0), (1, .ref x1), (2, .ref x2), (3, .ref x3), (4, .int x4)] [.int r82] m81
                refine v_istore (pc := 343) (lv' := [(5, .int r82), (0, .ref x0), (1, .ref x1), (2, .ref x2), (3, .ref x3), (4, .int x4)]) C 184 rfl (by decide) rfl ?_
                refine v_aload_n (pc := 345) C 185 3 rfl rfl rfl ?_
                refine v_aload_n (pc := 346) C 186 1 rfl rfl rfl ?_
                refine v_iload (pc := 347) C 187 5 rfl rfl ?_
                refine v_iconst (pc := 349) C 188 1 rfl (by decide) ?_
                refine v_iadd (pc := 350) C 189 rfl ?_
                obtain ⟨b84, h⟩ := g_okk h
                refine v_scd (pc := 351) C hc 190 hi0 b84 rfl ?_
                refine v_aload_n (pc := 352) C 191 1 rfl rfl rfl ?_
                refine v_iload (pc := 353) C 192 5 rfl rfl ?_
                refine v_iconst (pc := 355) C 193 2 rfl (by decide) ?_
                refine v_iadd (pc := 356) C 194 rfl ?_
                obtain ⟨b85, h⟩ := g_okk h
                refine v_scd (pc := 357) C hc 195 hi0 b85 rfl ?_
                obtain ⟨o86, h⟩ := g_okk h
                obtain ⟨⟨r88, m87⟩, qm87, h⟩ := g_bd h
                replace h := g_nm (y := m87) (g_nm (y := r88) h rfl) rfl
                refine v_callV (pc := 358) C 196 rfl mf_X8_scope clX8 rfl im_X8_scope lm_ScopeGraphLaw_83 (c_X8_scope C.2.2.2.2.2.2.2.2.2.2.2 qm87) (by decide) rfl (g_oB o86) (Nat.le_of_ble_eq_true rfl) ⟨by rw [hR]; show _ ≤ 601024; omega, by rw [hR]; show _ ≤ 7293034; omega⟩ rfl ?_
                change gV X w (1000 + x4.toNatClampNeg + 1) (200000 + 10 * x4.toNatClampNeg + 6) Q 7 361 [(5, .int r82), (0, .ref x0), (1, .ref x1), (2, .ref x2), (3, .ref x3), (4, .int x4)] [.int r88] m87
                refine v_istore (pc := 361) (lv' := [(6, .int r88), (5, .int r82), (0, .ref x0), (1, .ref x1), (2, .ref x2), (3, .ref x3), (4, .int x4)]) C 197 rfl (by decide) rfl ?_
                refine v_aload_n (pc := 363) C 198 4 rfl rfl rfl ?_
                obtain ⟨⟨r91, m90⟩, qm90, h⟩ := g_bd h
                replace h := g_nm (y := m90) (g_nm (y := r91) h rfl) rfl
                refine v_callV (pc := 364) C 199 rfl mf_X8_thrown clX8 rfl im_X8_thrown lm_ScopeGraphLaw_60 (c_X8_thrown C.2.2.2.2.2.2.2.2.2.2.2 qm90) (by decide) rfl (g_oB o86) (Nat.le_of_ble_eq_true rfl) ⟨by rw [hR]; show _ ≤ 601024; omega, by rw [hR]; show _ ≤ 7293034; omega⟩ rfl ?_
                change gV X w (1000 + x4.toNatClampNeg + 1) (200000 + 10 * x4.toNatClampNeg + 6) Q 7 367 [(6, .int r88), (5, .int r82), (0, .ref x0), (1, .ref x1), (2, .ref x2), (3, .ref x3), (4, .int x4)] [.int r91] m90
                refine v_iload (pc := 367) C 200 1 rfl rfl ?_
                refine v_icmp_eq (pc := 369) C 201 374 rfl (by decide) (fun c93 => ?_) (fun c93 => ?_)
                · replace h := g_ifT c93 h
                  refine v_iload (pc := 374) C 204 1 rfl rfl ?_
                  refine v_if_ne (pc := 376) C 205 391 rfl (by decide) (fun c94 => ?_) (fun c94 => ?_)
                  · replace h := g_ifF c94 h
                    refine v_sub [(0, .ref x0), (1, .ref x1), (2, .ref x2), (3, .ref x3), (4, .int x4)] [2, 3, 4, 5, 6] rfl ?_
                    exact tb_law_391 (F := F) C hret hG hl0 hE hc hR hk23 h
                  · replace h := g_ifT c94 h
                    refine v_aload_n (pc := 379) C 206 5 rfl rfl rfl ?_
                    refine v_iconst (pc := 380) C 207 0 rfl (by decide) ?_
                    obtain ⟨b95, h⟩ := g_okk h
                    refine v_lald' (pc := 381) C 208 rfl b95 ?_
                    refine v_iload (pc := 382) C 209 0 rfl rfl ?_
                    refine v_i2l (pc := 384) C 210 rfl ?_
                    refine v_lcmp (pc := 385) C 211 rfl ?_
                    refine v_lif_eq (pc := 386) C 212 391 rfl (by decide) (fun c96 => ?_) (fun c96 => ?_)
                    · replace h := g_ifT c96 h
                      refine v_sub [(0, .ref x0), (1, .ref x1), (2, .ref x2), (3, .ref x3), (4, .int x4)] [2, 3, 4, 5, 6] rfl ?_
                      exact tb_law_391 (F := F) C hret hG hl0 hE hc hR hk23 h
                    · replace h := g_ifF c96 h
                      refine v_iconst (pc := 389) C 213 0 rfl (by decide) ?_
                      cases h
                · replace h := g_ifF c93 h
                  refine v_iconst (pc := 372) C 202 0 rfl (by decide) ?_
                  cases h
              · replace h := g_ifF c78 h
                have zc78 := g_tne (n := 5) (by decide) c78
                by_cases c97 : ((xs (x4).toNatClampNeg) &&& (15 : Int32)) = 6
                · replace h := g_ifT c97 h
                  refine v_tableIn (pc := 40) C 24 394 rfl (by rw [c97]; decide) (by rw [c97]; decide) (by rw [c97]; rfl) (by decide) ?_
                  refine v_aload_n (pc := 394) C 216 1 rfl rfl rfl ?_
                  refine v_aload_n (pc := 395) C 217 0 rfl rfl rfl ?_
                  refine v_iload (pc := 396) C 218 4 rfl rfl ?_
                  refine v_iconst (pc := 398) C 219 1 rfl (by decide) ?_
                  refine v_iadd (pc := 399) C 220 rfl ?_
                  obtain ⟨b98, h⟩ := g_okk h
                  refine v_scd (pc := 400) C hc 221 hi0 b98 rfl ?_
                  refine v_aload_n (pc := 401) C 222 0 rfl rfl rfl ?_
                  refine v_iload (pc := 402) C 223 4 rfl rfl ?_
                  refine v_iconst (pc := 404) C 224 2 rfl (by decide) ?_
                  refine v_iadd (pc := 405) C 225 rfl ?_
                  obtain ⟨b99, h⟩ := g_okk h
                  refine v_scd (pc := 406) C hc 226 hi0 b99 rfl ?_
                  refine v_aload_n (pc := 407) C 227 3 rfl rfl rfl ?_
                  obtain ⟨⟨r101, m100⟩, qm100, h⟩ := g_bd h
                  replace h := g_nm (y := m100) (g_nm (y := r101) h rfl) rfl
                  refine v_callSA (pc := 408) C 228 rfl mw_L_declaration (g_tb 878 (by decide +kernel) rfl) (g_tb 877 (by decide +kernel) rfl) (c_L_declaration C.2.2.2.2.2.2.2.2.2.2.2 hG hl0 hE qm100) (by decide) rfl (Nat.le_of_ble_eq_true rfl) ⟨by rw [hR]; show _ ≤ 601024; omega, by rw [hR]; show _ ≤ 7293034; omega⟩ rfl ?_
                  change gV X w (1000 + x4.toNatClampNeg + 1) (200000 + 10 * x4.toNatClampNeg + 6) Q 7 411 [(0, .ref x0), (1, .ref x1), (2, .ref x2), (3, .ref x3), (4, .int x4)] [.int r101] m100
                  refine v_istore (pc := 411) (lv' := [(5, .int r101), (0, .ref x0), (1, .ref x1), (2, .ref x2), (3, .ref x3), (4, .int x4)]) C 229 rfl (by decide) rfl ?_
                  refine v_aload_n (pc := 413) C 230 3 rfl rfl rfl ?_
                  refine v_aload_n (pc := 414) C 231 1 rfl rfl rfl ?_
                  refine v_iload (pc := 415) C 232 5 rfl rfl ?_
                  refine v_iconst (pc := 417) C 233 1 rfl (by decide) ?_
                  refine v_iadd (pc := 418) C 234 rfl ?_
                  obtain ⟨b103, h⟩ := g_okk h
                  refine v_scd (pc := 419) C hc 235 hi0 b103 rfl ?_
                  refine v_aload_n (pc := 420) C 236 1 rfl rfl rfl ?_
                  refine v_iload (pc := 421) C 237 5 rfl rfl ?_
                  refine v_iconst (pc := 423) C 238 2 rfl (by decide) ?_
                  refine v_iadd (pc := 424) C 239 rfl ?_
                  obtain ⟨b104, h⟩ := g_okk h
                  refine v_scd (pc := 425) C hc 240 hi0 b104 rfl ?_
                  obtain ⟨o105, h⟩ := g_okk h
                  obtain ⟨⟨r107, m106⟩, qm106, h⟩ := g_bd h
                  replace h := g_nm (y := m106) (g_nm (y := r107) h rfl) rfl
                  refine v_callV (pc := 426) C 241 rfl mf_X8_declaration clX8 rfl im_X8_declaration lm_ScopeGraphLaw_86 (c_X8_declaration C.2.2.2.2.2.2.2.2.2.2.2 qm106) (by decide) rfl (g_oB o105) (Nat.le_of_ble_eq_true rfl) ⟨by rw [hR]; show _ ≤ 601024; omega, by rw [hR]; show _ ≤ 7293034; omega⟩ rfl ?_
                  change gV X w (1000 + x4.toNatClampNeg + 1) (200000 + 10 * x4.toNatClampNeg + 6) Q 7 429 [(5, .int r101), (0, .ref x0), (1, .ref x1), (2, .ref x2), (3, .ref x3), (4, .int x4)] [.int r107] m106
                  refine v_istore (pc := 429) (lv' := [(6, .int r107), (5, .int r101), (0, .ref x0), (1, .ref x1), (2, .ref x2), (3, .ref x3), (4, .int x4)]) C 242 rfl (by decide) rfl ?_
                  refine v_aload_n (pc := 431) C 243 4 rfl rfl rfl ?_
                  obtain ⟨⟨r110, m109⟩, qm109, h⟩ := g_bd h
                  replace h := g_nm (y := m109) (g_nm (y := r110) h rfl) rfl
                  refine v_callV (pc := 432) C 244 rfl mf_X8_thrown clX8 rfl im_X8_thrown lm_ScopeGraphLaw_60 (c_X8_thrown C.2.2.2.2.2.2.2.2.2.2.2 qm109) (by decide) rfl (g_oB o105) (Nat.le_of_ble_eq_true rfl) ⟨by rw [hR]; show _ ≤ 601024; omega, by rw [hR]; show _ ≤ 7293034; omega⟩ rfl ?_
                  change gV X w (1000 + x4.toNatClampNeg + 1) (200000 + 10 * x4.toNatClampNeg + 6) Q 7 435 [(6, .int r107), (5, .int r101), (0, .ref x0), (1, .ref x1), (2, .ref x2), (3, .ref x3), (4, .int x4)] [.int r110] m109
                  refine v_iload (pc := 435) C 245 1 rfl rfl ?_
                  refine v_icmp_eq (pc := 437) C 246 442 rfl (by decide) (fun c112 => ?_) (fun c112 => ?_)
                  · replace h := g_ifT c112 h
                    refine v_iload (pc := 442) C 249 1 rfl rfl ?_
                    refine v_if_ne (pc := 444) C 250 459 rfl (by decide) (fun c113 => ?_) (fun c113 => ?_)
                    · replace h := g_ifF c113 h
                      refine v_sub [(0, .ref x0), (1, .ref x1), (2, .ref x2), (3, .ref x3), (4, .int x4)] [2, 3, 4, 5, 6] rfl ?_
                      exact tb_law_459 (F := F) C hret hG hl0 hE hc hR hk23 h
                    · replace h := g_ifT c113 h
                      refine v_aload_n (pc := 447) C 251 5 rfl rfl rfl ?_
                      refine v_iconst (pc := 448) C 252 0 rfl (by decide) ?_
                      obtain ⟨b114, h⟩ := g_okk h
                      refine v_lald' (pc := 449) C 253 rfl b114 ?_
                      refine v_iload (pc := 450) C 254 0 rfl rfl ?_
                      refine v_i2l (pc := 452) C 255 rfl ?_
                      refine v_lcmp (pc := 453) C 256 rfl ?_
                      refine v_lif_eq (pc := 454) C 257 459 rfl (by decide) (fun c115 => ?_) (fun c115 => ?_)
                      · replace h := g_ifT c115 h
                        refine v_sub [(0, .ref x0), (1, .ref x1), (2, .ref x2), (3, .ref x3), (4, .int x4)] [2, 3, 4, 5, 6] rfl ?_
                        exact tb_law_459 (F := F) C hret hG hl0 hE hc hR hk23 h
                      · replace h := g_ifF c115 h
                        refine v_iconst (pc := 457) C 258 0 rfl (by decide) ?_
                        cases h
                  · replace h := g_ifF c112 h
                    refine v_iconst (pc := 440) C 247 0 rfl (by decide) ?_
                    cases h
                · replace h := g_ifF c97 h
                  have zc97 := g_tne (n := 6) (by decide) c97
                  by_cases c116 : ((xs (x4).toNatClampNeg) &&& (15 : Int32)) = 7
                  · replace h := g_ifT c116 h
                    refine v_tableIn (pc := 40) C 24 462 rfl (by rw [c116]; decide) (by rw [c116]; decide) (by rw [c116]; rfl) (by decide) ?_
                    refine v_aload_n (pc := 462) C 261 1 rfl rfl rfl ?_
                    refine v_aload_n (pc := 463) C 262 0 rfl rfl rfl ?_
                    refine v_iload (pc := 464) C 263 4 rfl rfl ?_
                    refine v_iconst (pc := 466) C 264 1 rfl (by decide) ?_
                    refine v_iadd (pc := 467) C 265 rfl ?_
                    obtain ⟨b117, h⟩ := g_okk h
                    refine v_scd (pc := 468) C hc 266 hi0 b117 rfl ?_
                    refine v_aload_n (pc := 469) C 267 0 rfl rfl rfl ?_
                    refine v_iload (pc := 470) C 268 4 rfl rfl ?_
                    refine v_iconst (pc := 472) C 269 2 rfl (by decide) ?_
                    refine v_iadd (pc := 473) C 270 rfl ?_
                    obtain ⟨b118, h⟩ := g_okk h
                    refine v_scd (pc := 474) C hc 271 hi0 b118 rfl ?_
                    refine v_aload_n (pc := 475) C 272 3 rfl rfl rfl ?_
                    obtain ⟨⟨r120, m119⟩, qm119, h⟩ := g_bd h
                    replace h := g_nm (y := m119) (g_nm (y := r120) h rfl) rfl
                    refine v_callSA (pc := 476) C 273 rfl mw_L_reference (g_tb 898 (by decide +kernel) rfl) (g_tb 897 (by decide +kernel) rfl) (c_L_reference C.2.2.2.2.2.2.2.2.2.2.2 hG hl0 hE qm119) (by decide) rfl (Nat.le_of_ble_eq_true rfl) ⟨by rw [hR]; show _ ≤ 601024; omega, by rw [hR]; show _ ≤ 7293034; omega⟩ rfl ?_
                    change gV X w (1000 + x4.toNatClampNeg + 1) (200000 + 10 * x4.toNatClampNeg + 6) Q 7 479 [(0, .ref x0), (1, .ref x1), (2, .ref x2), (3, .ref x3), (4, .int x4)] [.int r120] m119
                    refine v_istore (pc := 479) (lv' := [(5, .int r120), (0, .ref x0), (1, .ref x1), (2, .ref x2), (3, .ref x3), (4, .int x4)]) C 274 rfl (by decide) rfl ?_
                    refine v_aload_n (pc := 481) C 275 3 rfl rfl rfl ?_
                    refine v_aload_n (pc := 482) C 276 1 rfl rfl rfl ?_
                    refine v_iload (pc := 483) C 277 5 rfl rfl ?_
                    refine v_iconst (pc := 485) C 278 1 rfl (by decide) ?_
                    refine v_iadd (pc := 486) C 279 rfl ?_
                    obtain ⟨b122, h⟩ := g_okk h
                    refine v_scd (pc := 487) C hc 280 hi0 b122 rfl ?_
                    refine v_aload_n (pc := 488) C 281 1 rfl rfl rfl ?_
                    refine v_iload (pc := 489) C 282 5 rfl rfl ?_
                    refine v_iconst (pc := 491) C 283 2 rfl (by decide) ?_
                    refine v_iadd (pc := 492) C 284 rfl ?_
                    obtain ⟨b123, h⟩ := g_okk h
                    refine v_scd (pc := 493) C hc 285 hi0 b123 rfl ?_
                    obtain ⟨o124, h⟩ := g_okk h
                    obtain ⟨⟨r126, m125⟩, qm125, h⟩ := g_bd h
                    replace h := g_nm (y := m125) (g_nm (y := r126) h rfl) rfl
                    refine v_callV (pc := 494) C 286 rfl mf_X8_reference clX8 rfl im_X8_reference lm_ScopeGraphLaw_89 (c_X8_reference C.2.2.2.2.2.2.2.2.2.2.2 qm125) (by decide) rfl (g_oB o124) (Nat.le_of_ble_eq_true rfl) ⟨by rw [hR]; show _ ≤ 601024; omega, by rw [hR]; show _ ≤ 7293034; omega⟩ rfl ?_
                    change gV X w (1000 + x4.toNatClampNeg + 1) (200000 + 10 * x4.toNatClampNeg + 6) Q 7 497 [(5, .int r120), (0, .ref x0), (1, .ref x1), (2, .ref x2), (3, .ref x3), (4, .int x4)] [.int r126] m125
                    refine v_istore (pc := 497) (lv' := [(6, .int r126), (5, .int r120), (0, .ref x0), (1, .ref x1), (2, .ref x2), (3, .ref x3), (4, .int x4)]) C 287 rfl (by decide) rfl ?_
                    refine v_aload_n (pc := 499) C 288 4 rfl rfl rfl ?_
                    obtain ⟨⟨r129, m128⟩, qm128, h⟩ := g_bd h
                    replace h := g_nm (y := m128) (g_nm (y := r129) h rfl) rfl
                    refine v_callV (pc := 500) C 289 rfl mf_X8_thrown clX8 rfl im_X8_thrown lm_ScopeGraphLaw_60 (c_X8_thrown C.2.2.2.2.2.2.2.2.2.2.2 qm128) (by decide) rfl (g_oB o124) (Nat.le_of_ble_eq_true rfl) ⟨by rw [hR]; show _ ≤ 601024; omega, by rw [hR]; show _ ≤ 7293034; omega⟩ rfl ?_
                    change gV X w (1000 + x4.toNatClampNeg + 1) (200000 + 10 * x4.toNatClampNeg + 6) Q 7 503 [(6, .int r126), (5, .int r120), (0, .ref x0), (1, .ref x1), (2, .ref x2), (3, .ref x3), (4, .int x4)] [.int r129] m128
                    refine v_iload (pc := 503) C 290 1 rfl rfl ?_
                    refine v_icmp_eq (pc := 505) C 291 510 rfl (by decide) (fun c131 => ?_) (fun c131 => ?_)
                    · replace h := g_ifT c131 h
                      refine v_iload (pc := 510) C 294 1 rfl rfl ?_
                      refine v_if_ne (pc := 512) C 295 527 rfl (by decide) (fun c132 => ?_) (fun c132 => ?_)
                      · replace h := g_ifF c132 h
                        refine v_sub [(0, .ref x0), (1, .ref x1), (2, .ref x2), (3, .ref x3), (4, .int x4)] [2, 3, 4, 5, 6] rfl ?_
                        exact tb_law_527 (F := F) C hret hG hl0 hE hc hR hk23 h
                      · replace h := g_ifT c132 h
                        refine v_aload_n (pc := 515) C 296 5 rfl rfl rfl ?_
                        refine v_iconst (pc := 516) C 297 0 rfl (by decide) ?_
                        obtain ⟨b133, h⟩ := g_okk h
                        refine v_lald' (pc := 517) C 298 rfl b133 ?_
                        refine v_iload (pc := 518) C 299 0 rfl rfl ?_
                        refine v_i2l (pc := 520) C 300 rfl ?_
                        refine v_lcmp (pc := 521) C 301 rfl ?_
                        refine v_lif_eq (pc := 522) C 302 527 rfl (by decide) (fun c134 => ?_) (fun c134 => ?_)
                        · replace h := g_ifT c134 h
                          refine v_sub [(0, .ref x0), (1, .ref x1), (2, .ref x2), (3, .ref x3), (4, .int x4)] [2, 3, 4, 5, 6] rfl ?_
                          exact tb_law_527 (F := F) C hret hG hl0 hE hc hR hk23 h
                        · replace h := g_ifF c134 h
                          refine v_iconst (pc := 525) C 303 0 rfl (by decide) ?_
                          cases h
                    · replace h := g_ifF c131 h
                      refine v_iconst (pc := 508) C 292 0 rfl (by decide) ?_
                      cases h
                  · replace h := g_ifF c116 h
                    have zc116 := g_tne (n := 7) (by decide) c116
                    by_cases c135 : ((xs (x4).toNatClampNeg) &&& (15 : Int32)) = 8
                    · replace h := g_ifT c135 h
                      refine v_tableIn (pc := 40) C 24 530 rfl (by rw [c135]; decide) (by rw [c135]; decide) (by rw [c135]; rfl) (by decide) ?_
                      refine v_aload_n (pc := 530) C 306 1 rfl rfl rfl ?_
                      refine v_aload_n (pc := 531) C 307 0 rfl rfl rfl ?_
                      refine v_iload (pc := 532) C 308 4 rfl rfl ?_
                      refine v_iconst (pc := 534) C 309 1 rfl (by decide) ?_
                      refine v_iadd (pc := 535) C 310 rfl ?_
                      obtain ⟨b136, h⟩ := g_okk h
                      refine v_scd (pc := 536) C hc 311 hi0 b136 rfl ?_
                      refine v_aload_n (pc := 537) C 312 0 rfl rfl rfl ?_
                      refine v_iload (pc := 538) C 313 4 rfl rfl ?_
                      refine v_iconst (pc := 540) C 314 2 rfl (by decide) ?_
                      refine v_iadd (pc := 541) C 315 rfl ?_
                      obtain ⟨b137, h⟩ := g_okk h
                      refine v_scd (pc := 542) C hc 316 hi0 b137 rfl ?_
                      refine v_aload_n (pc := 543) C 317 3 rfl rfl rfl ?_
                      obtain ⟨⟨r139, m138⟩, qm138, h⟩ := g_bd h
                      replace h := g_nm (y := m138) (g_nm (y := r139) h rfl) rfl
                      refine v_callSA (pc := 544) C 318 rfl mw_L_meant (g_tb 906 (by decide +kernel) rfl) (g_tb 905 (by decide +kernel) rfl) (c_L_meant C.2.2.2.2.2.2.2.2.2.2.2 hG hl0 hE qm138) (by decide) rfl (Nat.le_of_ble_eq_true rfl) ⟨by rw [hR]; show _ ≤ 601024; omega, by rw [hR]; show _ ≤ 7293034; omega⟩ rfl ?_
                      change gV X w (1000 + x4.toNatClampNeg + 1) (200000 + 10 * x4.toNatClampNeg + 6) Q 7 547 [(0, .ref x0), (1, .ref x1), (2, .ref x2), (3, .ref x3), (4, .int x4)] [.int r139] m138
                      refine v_istore (pc := 547) (lv' := [(5, .int r139), (0, .ref x0), (1, .ref x1), (2, .ref x2), (3, .ref x3), (4, .int x4)]) C 319 rfl (by decide) rfl ?_
                      refine v_aload_n (pc := 549) C 320 3 rfl rfl rfl ?_
                      refine v_aload_n (pc := 550) C 321 1 rfl rfl rfl ?_
                      refine v_iload (pc := 551) C 322 5 rfl rfl ?_
                      refine v_iconst (pc := 553) C 323 1 rfl (by decide) ?_
                      refine v_iadd (pc := 554) C 324 rfl ?_
                      obtain ⟨b141, h⟩ := g_okk h
                      refine v_scd (pc := 555) C hc 325 hi0 b141 rfl ?_
                      refine v_aload_n (pc := 556) C 326 1 rfl rfl rfl ?_
                      refine v_iload (pc := 557) C 327 5 rfl rfl ?_
                      refine v_iconst (pc := 559) C 328 2 rfl (by decide) ?_
                      refine v_iadd (pc := 560) C 329 rfl ?_
                      obtain ⟨b142, h⟩ := g_okk h
                      refine v_scd (pc := 561) C hc 330 hi0 b142 rfl ?_
                      obtain ⟨o143, h⟩ := g_okk h
                      obtain ⟨⟨r145, m144⟩, qm144, h⟩ := g_bd h
                      replace h := g_nm (y := m144) (g_nm (y := r145) h rfl) rfl
                      refine v_callV (pc := 562) C 331 rfl mf_X8_meant clX8 rfl im_X8_meant lm_ScopeGraphLaw_92 (c_X8_meant C.2.2.2.2.2.2.2.2.2.2.2 qm144) (by decide) rfl (g_oB o143) (Nat.le_of_ble_eq_true rfl) ⟨by rw [hR]; show _ ≤ 601024; omega, by rw [hR]; show _ ≤ 7293034; omega⟩ rfl ?_
                      change gV X w (1000 + x4.toNatClampNeg + 1) (200000 + 10 * x4.toNatClampNeg + 6) Q 7 565 [(5, .int r139), (0, .ref x0), (1, .ref x1), (2, .ref x2), (3, .ref x3), (4, .int x4)] [.int r145] m144
                      refine v_istore (pc := 565) (lv' := [(6, .int r145), (5, .int r139), (0, .ref x0), (1, .ref x1), (2, .ref x2), (3, .ref x3), (4, .int x4)]) C 332 rfl (by decide) rfl ?_
                      refine v_aload_n (pc := 567) C 333 4 rfl rfl rfl ?_
                      obtain ⟨⟨r148, m147⟩, qm147, h⟩ := g_bd h
                      replace h := g_nm (y := m147) (g_nm (y := r148) h rfl) rfl
                      refine v_callV (pc := 568) C 334 rfl mf_X8_thrown clX8 rfl im_X8_thrown lm_ScopeGraphLaw_60 (c_X8_thrown C.2.2.2.2.2.2.2.2.2.2.2 qm147) (by decide) rfl (g_oB o143) (Nat.le_of_ble_eq_true rfl) ⟨by rw [hR]; show _ ≤ 601024; omega, by rw [hR]; show _ ≤ 7293034; omega⟩ rfl ?_
                      change gV X w (1000 + x4.toNatClampNeg + 1) (200000 + 10 * x4.toNatClampNeg + 6) Q 7 571 [(6, .int r145), (5, .int r139), (0, .ref x0), (1, .ref x1), (2, .ref x2), (3, .ref x3), (4, .int x4)] [.int r148] m147
                      refine v_iload (pc := 571) C 335 1 rfl rfl ?_
                      refine v_icmp_eq (pc := 573) C 336 578 rfl (by decide) (fun c150 => ?_) (fun c150 => ?_)
                      · replace h := g_ifT c150 h
                        refine v_iload (pc := 578) C 339 1 rfl rfl ?_
                        refine v_if_ne (pc := 580) C 340 595 rfl (by decide) (fun c151 => ?_) (fun c151 => ?_)
                        · replace h := g_ifF c151 h
                          refine v_sub [(0, .ref x0), (1, .ref x1), (2, .ref x2), (3, .ref x3), (4, .int x4)] [2, 3, 4, 5, 6] rfl ?_
                          exact tb_law_595 (F := F) C hret hG hl0 hE hc hR hk23 h
                        · replace h := g_ifT c151 h
                          refine v_aload_n (pc := 583) C 341 5 rfl rfl rfl ?_
                          refine v_iconst (pc := 584) C 342 0 rfl (by decide) ?_
                          obtain ⟨b152, h⟩ := g_okk h
                          refine v_lald' (pc := 585) C 343 rfl b152 ?_
                          refine v_iload (pc := 586) C 344 0 rfl rfl ?_
                          refine v_i2l (pc := 588) C 345 rfl ?_
                          refine v_lcmp (pc := 589) C 346 rfl ?_
                          refine v_lif_eq (pc := 590) C 347 595 rfl (by decide) (fun c153 => ?_) (fun c153 => ?_)
                          · replace h := g_ifT c153 h
                            refine v_sub [(0, .ref x0), (1, .ref x1), (2, .ref x2), (3, .ref x3), (4, .int x4)] [2, 3, 4, 5, 6] rfl ?_
                            exact tb_law_595 (F := F) C hret hG hl0 hE hc hR hk23 h
                          · replace h := g_ifF c153 h
                            refine v_iconst (pc := 593) C 348 0 rfl (by decide) ?_
                            cases h
                      · replace h := g_ifF c150 h
                        refine v_iconst (pc := 576) C 337 0 rfl (by decide) ?_
                        cases h
                    · replace h := g_ifF c135 h
                      have zc135 := g_tne (n := 8) (by decide) c135
                      by_cases c154 : ((xs (x4).toNatClampNeg) &&& (15 : Int32)) = 9
                      · replace h := g_ifT c154 h
                        refine v_tableIn (pc := 40) C 24 598 rfl (by rw [c154]; decide) (by rw [c154]; decide) (by rw [c154]; rfl) (by decide) ?_
                        refine v_aload_n (pc := 598) C 351 1 rfl rfl rfl ?_
                        refine v_aload_n (pc := 599) C 352 0 rfl rfl rfl ?_
                        refine v_iload (pc := 600) C 353 4 rfl rfl ?_
                        refine v_iconst (pc := 602) C 354 1 rfl (by decide) ?_
                        refine v_iadd (pc := 603) C 355 rfl ?_
                        obtain ⟨b155, h⟩ := g_okk h
                        refine v_scd (pc := 604) C hc 356 hi0 b155 rfl ?_
                        refine v_aload_n (pc := 605) C 357 0 rfl rfl rfl ?_
                        refine v_iload (pc := 606) C 358 4 rfl rfl ?_
                        refine v_iconst (pc := 608) C 359 2 rfl (by decide) ?_
                        refine v_iadd (pc := 609) C 360 rfl ?_
                        obtain ⟨b156, h⟩ := g_okk h
                        refine v_scd (pc := 610) C hc 361 hi0 b156 rfl ?_
                        refine v_aload_n (pc := 611) C 362 3 rfl rfl rfl ?_
                        obtain ⟨⟨r158, m157⟩, qm157, h⟩ := g_bd h
                        replace h := g_nm (y := m157) (g_nm (y := r158) h rfl) rfl
                        refine v_callSA (pc := 612) C 363 rfl mw_L_friends (g_tb 915 (by decide +kernel) rfl) (g_tb 914 (by decide +kernel) rfl) (c_L_friends C.2.2.2.2.2.2.2.2.2.2.2 hG hl0 hE qm157) (by decide) rfl (Nat.le_of_ble_eq_true rfl) ⟨by rw [hR]; show _ ≤ 601024; omega, by rw [hR]; show _ ≤ 7293034; omega⟩ rfl ?_
                        change gV X w (1000 + x4.toNatClampNeg + 1) (200000 + 10 * x4.toNatClampNeg + 6) Q 7 615 [(0, .ref x0), (1, .ref x1), (2, .ref x2), (3, .ref x3), (4, .int x4)] [.int r158] m157
                        refine v_istore (pc := 615) (lv' := [(5, .int r158), (0, .ref x0), (1, .ref x1), (2, .ref x2), (3, .ref x3), (4, .int x4)]) C 364 rfl (by decide) rfl ?_
                        refine v_aload_n (pc := 617) C 365 3 rfl rfl rfl ?_
                        refine v_aload_n (pc := 618) C 366 1 rfl rfl rfl ?_
                        refine v_iload (pc := 619) C 367 5 rfl rfl ?_
                        refine v_iconst (pc := 621) C 368 1 rfl (by decide) ?_
                        refine v_iadd (pc := 622) C 369 rfl ?_
                        obtain ⟨b160, h⟩ := g_okk h
                        refine v_scd (pc := 623) C hc 370 hi0 b160 rfl ?_
                        refine v_aload_n (pc := 624) C 371 1 rfl rfl rfl ?_
                        refine v_iload (pc := 625) C 372 5 rfl rfl ?_
                        refine v_iconst (pc := 627) C 373 2 rfl (by decide) ?_
                        refine v_iadd (pc := 628) C 374 rfl ?_
                        obtain ⟨b161, h⟩ := g_okk h
                        refine v_scd (pc := 629) C hc 375 hi0 b161 rfl ?_
                        obtain ⟨o162, h⟩ := g_okk h
                        obtain ⟨⟨r164, m163⟩, qm163, h⟩ := g_bd h
                        replace h := g_nm (y := m163) (g_nm (y := r164) h rfl) rfl
                        refine v_callV (pc := 630) C 376 rfl mf_X8_friends clX8 rfl im_X8_friends lm_ScopeGraphLaw_95 (c_X8_friends C.2.2.2.2.2.2.2.2.2.2.2 qm163) (by decide) rfl (g_oB o162) (Nat.le_of_ble_eq_true rfl) ⟨by rw [hR]; show _ ≤ 601024; omega, by rw [hR]; show _ ≤ 7293034; omega⟩ rfl ?_
                        change gV X w (1000 + x4.toNatClampNeg + 1) (200000 + 10 * x4.toNatClampNeg + 6) Q 7 633 [(5, .int r158), (0, .ref x0), (1, .ref x1), (2, .ref x2), (3, .ref x3), (4, .int x4)] [.int r164] m163
                        refine v_istore (pc := 633) (lv' := [(6, .int r164), (5, .int r158), (0, .ref x0), (1, .ref x1), (2, .ref x2), (3, .ref x3), (4, .int x4)]) C 377 rfl (by decide) rfl ?_
                        refine v_aload_n (pc := 635) C 378 4 rfl rfl rfl ?_
                        obtain ⟨⟨r167, m166⟩, qm166, h⟩ := g_bd h
                        replace h := g_nm (y := m166) (g_nm (y := r167) h rfl) rfl
                        refine v_callV (pc := 636) C 379 rfl mf_X8_thrown clX8 rfl im_X8_thrown lm_ScopeGraphLaw_60 (c_X8_thrown C.2.2.2.2.2.2.2.2.2.2.2 qm166) (by decide) rfl (g_oB o162) (Nat.le_of_ble_eq_true rfl) ⟨by rw [hR]; show _ ≤ 601024; omega, by rw [hR]; show _ ≤ 7293034; omega⟩ rfl ?_
                        change gV X w (1000 + x4.toNatClampNeg + 1) (200000 + 10 * x4.toNatClampNeg + 6) Q 7 639 [(6, .int r164), (5, .int r158), (0, .ref x0), (1, .ref x1), (2, .ref x2), (3, .ref x3), (4, .int x4)] [.int r167] m166
                        refine v_iload (pc := 639) C 380 1 rfl rfl ?_
                        refine v_icmp_eq (pc := 641) C 381 646 rfl (by decide) (fun c169 => ?_) (fun c169 => ?_)
                        · replace h := g_ifT c169 h
                          refine v_iload (pc := 646) C 384 1 rfl rfl ?_
                          refine v_if_ne (pc := 648) C 385 670 rfl (by decide) (fun c170 => ?_) (fun c170 => ?_)
                          · replace h := g_ifF c170 h
                            refine v_sub [(0, .ref x0), (1, .ref x1), (2, .ref x2), (3, .ref x3), (4, .int x4)] [2, 3, 4, 5, 6] rfl ?_
                            exact tb_law_670 (F := F) C hret hG hl0 hE hc hR hk23 h
                          · replace h := g_ifT c170 h
                            refine v_aload_n (pc := 651) C 386 5 rfl rfl rfl ?_
                            refine v_iconst (pc := 652) C 387 0 rfl (by decide) ?_
                            obtain ⟨b171, h⟩ := g_okk h
                            refine v_lald' (pc := 653) C 388 rfl b171 ?_
                            refine v_iload (pc := 654) C 389 0 rfl rfl ?_
                            refine v_if_eq (pc := 656) C 390 663 rfl (by decide) (fun c172 => ?_) (fun c172 => ?_)
                            · replace h := g_ifT c172 h
                              refine v_lconst (pc := 663) C 393 0 rfl (by decide) ?_
                              refine v_sub [(0, .ref x0), (1, .ref x1), (2, .ref x2), (3, .ref x3), (4, .int x4)] [2, 3, 4, 5, 6] rfl ?_
                              exact tb_law_664 (F := F) C hret hG hl0 hE hc hR hk23 h
                            · replace h := g_ifF c172 h
                              refine v_lconst (pc := 659) C 391 1 rfl (by decide) ?_
                              refine v_goto (pc := 660) C 392 664 rfl (by decide) ?_
                              refine v_sub [(0, .ref x0), (1, .ref x1), (2, .ref x2), (3, .ref x3), (4, .int x4)] [2, 3, 4, 5, 6] rfl ?_
                              exact tb_law_664 (F := F) C hret hG hl0 hE hc hR hk23 h
                        · replace h := g_ifF c169 h
                          refine v_iconst (pc := 644) C 382 0 rfl (by decide) ?_
                          cases h
                      · replace h := g_ifF c154 h
                        have zc154 := g_tne (n := 9) (by decide) c154
                        by_cases c173 : ((xs (x4).toNatClampNeg) &&& (15 : Int32)) = 10
                        · replace h := g_ifT c173 h
                          refine v_tableIn (pc := 40) C 24 673 rfl (by rw [c173]; decide) (by rw [c173]; decide) (by rw [c173]; rfl) (by decide) ?_
                          refine v_aload_n (pc := 673) C 399 1 rfl rfl rfl ?_
                          refine v_aload_n (pc := 674) C 400 0 rfl rfl rfl ?_
                          refine v_iload (pc := 675) C 401 4 rfl rfl ?_
                          refine v_iconst (pc := 677) C 402 1 rfl (by decide) ?_
                          refine v_iadd (pc := 678) C 403 rfl ?_
                          obtain ⟨b174, h⟩ := g_okk h
                          refine v_scd (pc := 679) C hc 404 hi0 b174 rfl ?_
                          refine v_aload_n (pc := 680) C 405 3 rfl rfl rfl ?_
                          obtain ⟨⟨r176, m175⟩, qm175, h⟩ := g_bd h
                          replace h := g_nm (y := m175) (g_nm (y := r176) h rfl) rfl
                          refine v_callSA (pc := 681) C 406 rfl mw_L_rename (g_tb 922 (by decide +kernel) rfl) (g_tb 921 (by decide +kernel) rfl) (c_L_rename C.2.2.2.2.2.2.2.2.2.2.2 hG hl0 hE qm175) (by decide) rfl (Nat.le_of_ble_eq_true rfl) ⟨by rw [hR]; show _ ≤ 601024; omega, by rw [hR]; show _ ≤ 7293034; omega⟩ rfl ?_
                          change gV X w (1000 + x4.toNatClampNeg + 1) (200000 + 10 * x4.toNatClampNeg + 6) Q 7 684 [(0, .ref x0), (1, .ref x1), (2, .ref x2), (3, .ref x3), (4, .int x4)] [.int r176] m175
                          refine v_istore (pc := 684) (lv' := [(5, .int r176), (0, .ref x0), (1, .ref x1), (2, .ref x2), (3, .ref x3), (4, .int x4)]) C 407 rfl (by decide) rfl ?_
                          refine v_aload_n (pc := 686) C 408 3 rfl rfl rfl ?_
                          refine v_aload_n (pc := 687) C 409 1 rfl rfl rfl ?_
                          refine v_iload (pc := 688) C 410 5 rfl rfl ?_
                          refine v_iconst (pc := 690) C 411 1 rfl (by decide) ?_
                          refine v_iadd (pc := 691) C 412 rfl ?_
                          obtain ⟨b178, h⟩ := g_okk h
                          refine v_scd (pc := 692) C hc 413 hi0 b178 rfl ?_
                          obtain ⟨o179, h⟩ := g_okk h
                          obtain ⟨⟨r181, m180⟩, qm180, h⟩ := g_bd h
                          replace h := g_nm (y := m180) (g_nm (y := r181) h rfl) rfl
                          refine v_callV (pc := 693) C 414 rfl mf_X8_rename clX8 rfl im_X8_rename lm_ScopeGraphLaw_98 (c_X8_rename C.2.2.2.2.2.2.2.2.2.2.2 qm180) (by decide) rfl (g_oB o179) (Nat.le_of_ble_eq_true rfl) ⟨by rw [hR]; show _ ≤ 601024; omega, by rw [hR]; show _ ≤ 7293034; omega⟩ rfl ?_
                          change gV X w (1000 + x4.toNatClampNeg + 1) (200000 + 10 * x4.toNatClampNeg + 6) Q 7 696 [(5, .int r176), (0, .ref x0), (1, .ref x1), (2, .ref x2), (3, .ref x3), (4, .int x4)] [.int r181] m180
                          refine v_istore (pc := 696) (lv' := [(6, .int r181), (5, .int r176), (0, .ref x0), (1, .ref x1), (2, .ref x2), (3, .ref x3), (4, .int x4)]) C 415 rfl (by decide) rfl ?_
                          refine v_aload_n (pc := 698) C 416 4 rfl rfl rfl ?_
                          obtain ⟨⟨r184, m183⟩, qm183, h⟩ := g_bd h
                          replace h := g_nm (y := m183) (g_nm (y := r184) h rfl) rfl
                          refine v_callV (pc := 699) C 417 rfl mf_X8_thrown clX8 rfl im_X8_thrown lm_ScopeGraphLaw_60 (c_X8_thrown C.2.2.2.2.2.2.2.2.2.2.2 qm183) (by decide) rfl (g_oB o179) (Nat.le_of_ble_eq_true rfl) ⟨by rw [hR]; show _ ≤ 601024; omega, by rw [hR]; show _ ≤ 7293034; omega⟩ rfl ?_
                          change gV X w (1000 + x4.toNatClampNeg + 1) (200000 + 10 * x4.toNatClampNeg + 6) Q 7 702 [(6, .int r181), (5, .int r176), (0, .ref x0), (1, .ref x1), (2, .ref x2), (3, .ref x3), (4, .int x4)] [.int r184] m183
                          refine v_iload (pc := 702) C 418 1 rfl rfl ?_
                          refine v_icmp_eq (pc := 704) C 419 709 rfl (by decide) (fun c186 => ?_) (fun c186 => ?_)
                          · replace h := g_ifT c186 h
                            refine v_iload (pc := 709) C 422 1 rfl rfl ?_
                            refine v_if_ne (pc := 711) C 423 726 rfl (by decide) (fun c187 => ?_) (fun c187 => ?_)
                            · replace h := g_ifF c187 h
                              refine v_sub [(0, .ref x0), (1, .ref x1), (2, .ref x2), (3, .ref x3), (4, .int x4)] [2, 3, 4, 5, 6] rfl ?_
                              exact tb_law_726 (F := F) C hret hG hl0 hE hc hR hk23 h
                            · replace h := g_ifT c187 h
                              refine v_aload_n (pc := 714) C 424 5 rfl rfl rfl ?_
                              refine v_iconst (pc := 715) C 425 0 rfl (by decide) ?_
                              obtain ⟨b188, h⟩ := g_okk h
                              refine v_lald' (pc := 716) C 426 rfl b188 ?_
                              refine v_iload (pc := 717) C 427 0 rfl rfl ?_
                              refine v_i2l (pc := 719) C 428 rfl ?_
                              refine v_lcmp (pc := 720) C 429 rfl ?_
                              refine v_lif_eq (pc := 721) C 430 726 rfl (by decide) (fun c189 => ?_) (fun c189 => ?_)
                              · replace h := g_ifT c189 h
                                refine v_sub [(0, .ref x0), (1, .ref x1), (2, .ref x2), (3, .ref x3), (4, .int x4)] [2, 3, 4, 5, 6] rfl ?_
                                exact tb_law_726 (F := F) C hret hG hl0 hE hc hR hk23 h
                              · replace h := g_ifF c189 h
                                refine v_iconst (pc := 724) C 431 0 rfl (by decide) ?_
                                cases h
                          · replace h := g_ifF c186 h
                            refine v_iconst (pc := 707) C 420 0 rfl (by decide) ?_
                            cases h
                        · replace h := g_ifF c173 h
                          have zc173 := g_tne (n := 10) (by decide) c173
                          by_cases c190 : ((xs (x4).toNatClampNeg) &&& (15 : Int32)) = 11
                          · replace h := g_ifT c190 h
                            refine v_tableIn (pc := 40) C 24 729 rfl (by rw [c190]; decide) (by rw [c190]; decide) (by rw [c190]; rfl) (by decide) ?_
                            refine v_aload_n (pc := 729) C 434 1 rfl rfl rfl ?_
                            refine v_aload_n (pc := 730) C 435 0 rfl rfl rfl ?_
                            refine v_iload (pc := 731) C 436 4 rfl rfl ?_
                            refine v_iconst (pc := 733) C 437 1 rfl (by decide) ?_
                            refine v_iadd (pc := 734) C 438 rfl ?_
                            obtain ⟨b191, h⟩ := g_okk h
                            refine v_scd (pc := 735) C hc 439 hi0 b191 rfl ?_
                            refine v_aload_n (pc := 736) C 440 3 rfl rfl rfl ?_
                            obtain ⟨⟨r193, m192⟩, qm192, h⟩ := g_bd h
                            replace h := g_nm (y := m192) (g_nm (y := r193) h rfl) rfl
                            refine v_callSA (pc := 737) C 441 rfl mw_L_letter (g_tb 973 (by decide +kernel) rfl) (g_tb 972 (by decide +kernel) rfl) (c_L_letter C.2.2.2.2.2.2.2.2.2.2.2 hG hl0 hE qm192) (by decide) rfl (Nat.le_of_ble_eq_true rfl) ⟨by rw [hR]; show _ ≤ 601024; omega, by rw [hR]; show _ ≤ 7293034; omega⟩ rfl ?_
                            change gV X w (1000 + x4.toNatClampNeg + 1) (200000 + 10 * x4.toNatClampNeg + 6) Q 7 740 [(0, .ref x0), (1, .ref x1), (2, .ref x2), (3, .ref x3), (4, .int x4)] [.int r193] m192
                            refine v_istore (pc := 740) (lv' := [(5, .int r193), (0, .ref x0), (1, .ref x1), (2, .ref x2), (3, .ref x3), (4, .int x4)]) C 442 rfl (by decide) rfl ?_
                            refine v_aload_n (pc := 742) C 443 3 rfl rfl rfl ?_
                            refine v_aload_n (pc := 743) C 444 1 rfl rfl rfl ?_
                            refine v_iload (pc := 744) C 445 5 rfl rfl ?_
                            refine v_iconst (pc := 746) C 446 1 rfl (by decide) ?_
                            refine v_iadd (pc := 747) C 447 rfl ?_
                            obtain ⟨b195, h⟩ := g_okk h
                            refine v_scd (pc := 748) C hc 448 hi0 b195 rfl ?_
                            obtain ⟨o196, h⟩ := g_okk h
                            obtain ⟨⟨r198, m197⟩, qm197, h⟩ := g_bd h
                            replace h := g_nm (y := m197) (g_nm (y := r198) h rfl) rfl
                            refine v_callV (pc := 749) C 449 rfl mf_X8_letter clX8 rfl im_X8_letter lm_ScopeGraphLaw_101 (c_X8_letter C.2.2.2.2.2.2.2.2.2.2.2 qm197) (by decide) rfl (g_oB o196) (Nat.le_of_ble_eq_true rfl) ⟨by rw [hR]; show _ ≤ 601024; omega, by rw [hR]; show _ ≤ 7293034; omega⟩ rfl ?_
                            change gV X w (1000 + x4.toNatClampNeg + 1) (200000 + 10 * x4.toNatClampNeg + 6) Q 7 752 [(5, .int r193), (0, .ref x0), (1, .ref x1), (2, .ref x2), (3, .ref x3), (4, .int x4)] [.int r198] m197
                            refine v_istore (pc := 752) (lv' := [(6, .int r198), (5, .int r193), (0, .ref x0), (1, .ref x1), (2, .ref x2), (3, .ref x3), (4, .int x4)]) C 450 rfl (by decide) rfl ?_
                            refine v_aload_n (pc := 754) C 451 4 rfl rfl rfl ?_
                            obtain ⟨⟨r201, m200⟩, qm200, h⟩ := g_bd h
                            replace h := g_nm (y := m200) (g_nm (y := r201) h rfl) rfl
                            refine v_callV (pc := 755) C 452 rfl mf_X8_thrown clX8 rfl im_X8_thrown lm_ScopeGraphLaw_60 (c_X8_thrown C.2.2.2.2.2.2.2.2.2.2.2 qm200) (by decide) rfl (g_oB o196) (Nat.le_of_ble_eq_true rfl) ⟨by rw [hR]; show _ ≤ 601024; omega, by rw [hR]; show _ ≤ 7293034; omega⟩ rfl ?_
                            change gV X w (1000 + x4.toNatClampNeg + 1) (200000 + 10 * x4.toNatClampNeg + 6) Q 7 758 [(6, .int r198), (5, .int r193), (0, .ref x0), (1, .ref x1), (2, .ref x2), (3, .ref x3), (4, .int x4)] [.int r201] m200
                            refine v_iload (pc := 758) C 453 1 rfl rfl ?_
                            refine v_icmp_eq (pc := 760) C 454 765 rfl (by decide) (fun c203 => ?_) (fun c203 => ?_)
                            · replace h := g_ifT c203 h
                              refine v_iload (pc := 765) C 457 1 rfl rfl ?_
                              refine v_if_ne (pc := 767) C 458 782 rfl (by decide) (fun c204 => ?_) (fun c204 => ?_)
                              · replace h := g_ifF c204 h
                                refine v_sub [(0, .ref x0), (1, .ref x1), (2, .ref x2), (3, .ref x3), (4, .int x4)] [2, 3, 4, 5, 6] rfl ?_
                                exact tb_law_782 (F := F) C hret hG hl0 hE hc hR hk23 h
                              · replace h := g_ifT c204 h
                                refine v_aload_n (pc := 770) C 459 5 rfl rfl rfl ?_
                                refine v_iconst (pc := 771) C 460 0 rfl (by decide) ?_
                                obtain ⟨b205, h⟩ := g_okk h
                                refine v_lald' (pc := 772) C 461 rfl b205 ?_
                                refine v_iload (pc := 773) C 462 0 rfl rfl ?_
                                refine v_i2l (pc := 775) C 463 rfl ?_
                                refine v_lcmp (pc := 776) C 464 rfl ?_
                                refine v_lif_eq (pc := 777) C 465 782 rfl (by decide) (fun c206 => ?_) (fun c206 => ?_)
                                · replace h := g_ifT c206 h
                                  refine v_sub [(0, .ref x0), (1, .ref x1), (2, .ref x2), (3, .ref x3), (4, .int x4)] [2, 3, 4, 5, 6] rfl ?_
                                  exact tb_law_782 (F := F) C hret hG hl0 hE hc hR hk23 h
                                · replace h := g_ifF c206 h
                                  refine v_iconst (pc := 780) C 466 0 rfl (by decide) ?_
                                  cases h
                            · replace h := g_ifF c203 h
                              refine v_iconst (pc := 763) C 455 0 rfl (by decide) ?_
                              cases h
                          · replace h := g_ifF c190 h
                            have zc190 := g_tne (n := 11) (by decide) c190
                            refine v_tableOut (pc := 40) C 24 785 rfl (by omega) (by decide) ?_
                            refine gV_widen (kc := 1000 + x4.toNatClampNeg + 1) (ks := 200000 + 10 * x4.toNatClampNeg + 6) (by omega) (by omega) ?_
                            refine v_sub [(0, .ref x0), (1, .ref x1), (2, .ref x2), (3, .ref x3), (4, .int x4)] [0, 1, 2, 3, 4] rfl ?_
                            exact tb_law_785 (F := F) C hret hG hl0 hE hc hR hk23 h
def l_law_23 (sh : List gS) (F L : Nat) (xs : Nat → Int32) : Nat → Nat → Nat → Nat → Nat → Int32 → gM → Option (Unit)
  | 0 => fun _ _ _ _ _ _ => none
  | n + 1 => fun x0 x1 x2 x3 x4 m => b_law_23 sh F L xs (l_law_23 sh F L xs n) x0 x1 x2 x3 x4 m
theorem tl_law_23 {X : gX} {w : gW} {Q : State → Prop} {L : Nat} {xs : Nat → Int32} (C : gC X w K_L_law 7 RL 14) (hret : gLe X w Q) (hG : gJs w) (hl0 : X.2.1.stackTraces = false) (hE : gJx w) (hc : gSc X w L xs) (hR : X.2.2.2.1 = room_1) {F : Nat} : ∀ (n : Nat) (x0 : Nat) (x1 : Nat) (x2 : Nat) (x3 : Nat) (x4 : Int32) (m : gM), l_law_23 w.2.2.2.2.1 F L xs n x0 x1 x2 x3 x4 m = some () → gV X w (1000 + x4.toNatClampNeg) (200000 + 10 * x4.toNatClampNeg) Q 7 23 [(0, .ref x0), (1, .ref x1), (2, .ref x2), (3, .ref x3), (4, .int x4)] [] m := by
  intro n
  induction n with
  | zero => intro x0 x1 x2 x3 x4 m h; cases h
  | succ n ih => intro x0 x1 x2 x3 x4 m h; exact tb_law_23 (F := F) C hret hG hl0 hE hc hR ih h
