/-! A THROW OF A CALLEE, CAUGHT by the only row of the caller's table, whose class entry may still be cold -/
section GCATCH
variable {p : Program} {l : Launch} {e : Env} {R : Room} {s : State} {m : MethodId} {args : Array Value} {below : List Frame} {meth : Method} {c : Code} {T : State} {locs : List Loc} {cells slots : Nat}
theorem gx_find {U : State} {f : JFrame} {q : Addr} {x : ExceptionTableEntry} {cT : ClassId} {cell : Cell} (hm : U.vm.method? f.method = some meth) (hc : meth.code = some c) (htab : c.exceptionTable.toList = [x]) (hx : covers x f.pc = true) (h0 : x.catchType ≠ 0)
    (hl : U.vm.ClassLinks e.platform f.method.cls x.catchType cT) (hcell : U.heap[q]? = some cell) (hobj : ∀ k, cell.vm ≠ .statics k) (hk : ∃ k, U.vm.classes[cell.cls]? = some k) (hcl : ∃ k, U.vm.classes[cT]? = some k) (hfit : U.vm.assignable cell.cls cT = true)
    (Qh : Handler → Pre) (E : CtlPost) (d : Bool) (acts : List Action) : wp (findHandler f q) Qh E e d acts U ↔ Qh (.found x.handlerPc) d acts (U.setVm (U.vm.noted f.method.cls x.catchType (.cls cT))) := by
  rw [W.findHandler_eq hm hc, htab]
  obtain ⟨a1, a2⟩ := (resolveClass_links e.toSetting hl).op (op := VmOp.resolveClass f.method.cls x.catchType) rfl
  have hal : U.vm.Alike (U.vm.noted f.method.cls x.catchType (.cls cT)) := (Vm.Alike.refl U.vm).noted _ _ _
  obtain ⟨k1, hk1⟩ := hk
  obtain ⟨k2, hk2⟩ := hcl
  obtain ⟨k3, hk3, -⟩ := hal.2.2 _ _ hk1
  obtain ⟨k4, hk4, -⟩ := hal.2.2 _ _ hk2
  have hfit2 : (U.vm.noted f.method.cls x.catchType (.cls cT)).assignable cell.cls cT = true := by rw [hal.assignable]; exact hfit
  simp only [covers] at hx
  simp [findHandler.go, hx, h0, a1, a2, hcell, hobj, hk3, hk4, hfit2, VmOp.dirties, VmOp.acts]
theorem gx_caught (X : Stand p l e R s m args below meth c T locs cells slots) (q : Addr) {g : JFrame} (hg : g.method = m) {own name : String} (hown : s.vm.findClass own = some m.cls) {x : ExceptionTableEntry} (htab : c.exceptionTable.toList = [x]) (hx : covers x g.pc = true) (h0 : x.catchType ≠ 0)
    (hlink : (Cond.classLink own x.catchType name).before args s = true) {cT : ClassId} {cell : Cell} (hcT : s.vm.findClass name = some cT) (hcell : T.heap[q]? = some cell) (hobj : cell.vm.isStatics = false) (hfit : s.vm.assignable cell.cls cT = true) :
    ∃ vm', Stand p l e R s m args below meth c (T.setVm vm') locs cells slots ∧ ∀ target, Steps p.tables e below ((T.setVm vm').setTop { g with pc := x.handlerPc, stack := [.ref q] }) target → Steps p.tables e below ((T.setTop g).pushFrame (.throwing q)) target := by
  subst hg
  have hpl : e.platform.magicAccessors = ({} : Platform).magicAccessors := by rw [X.admits.platform]
  obtain ⟨c2, hc2, hcl⟩ := Cond.classLink_spec hown hlink e.platform hpl
  cases hcT.symm.trans hc2
  obtain ⟨dk, _, _, kt, hd, _, _, _, _, hkt, _, hopen⟩ := hcl.here
  have hcl0 := X.warmed.classLinks hcl
  have hal := X.warmed.alike
  obtain ⟨kt2, hkt2, -⟩ := hal.2.2 _ _ hkt
  have hfit2 : T.vm.assignable cell.cls cT = true := by rw [hal.assignable]; exact hfit
  have hW2 : s.WarmedH (T.vm.noted g.method.cls x.catchType (.cls cT)) := X.warmed.noted hd hopen (State.rightAt_cls hcl)
  refine ⟨_, X.noted hW2, fun target hrest => ?_⟩
  have hf := fun Qh E d acts => gx_find (e := e) (U := (T.setTop g).pushFrame (.throwing q)) (f := g) (q := q) X.method' X.code htab hx h0 hcl0 hcell (VmData.ne_statics_of hobj) (Vm.classAt_of_assignable hfit2 ⟨kt2, hkt2⟩) ⟨kt2, hkt2⟩ hfit2 Qh E d acts
  have hstep : ∀ r : List Frame, (stepThrowing e ((T.setTop g).pushFrame (.throwing q)) q (.java g :: r)).Is ((((T.setTop g).pushFrame (.throwing q)).setVm (T.vm.noted g.method.cls x.catchType (.cls cT))).setFrames (.java { g with pc := x.handlerPc, stack := [.ref q] } :: r)) [] := by
    intro r
    simp only [stepThrowing, searchFrame, vmDo]
    generalize hr : Sem.go _ e false [] ((T.setTop g).pushFrame (.throwing q)) = res
    obtain ⟨as, rfl, ha⟩ := Sem.eq_ok_of hr (a := Handler.found x.handlerPc) (s' := ((T.setTop g).pushFrame (.throwing q)).setVm (T.vm.noted g.method.cls x.catchType (.cls cT))) (acts' := []) (by simp [hf _ _ _ _] <;> rfl)
    exact ⟨rfl, ha⟩
  obtain ⟨hgo, hw⟩ := X.here.throwing q
  refine Steps.head hgo hw ?_
  rw [stepThread_throwing (frames_entered X.here.top _), (hstep _).1]
  obtain ⟨g1, hg1⟩ := Option.isSome_iff_exists.mp X.here.top
  obtain ⟨r, hr⟩ := State.topJava?_eq_some.mp hg1
  have hsv : ∀ (u : State) (vm1 : Vm) (A B : List Frame), ((u.setFrames A).setVm vm1).setFrames B = (u.setVm vm1).setFrames B := by
    intro u vm1 A B
    have h1 : (u.setFrames A).setVm vm1 = (u.setVm vm1).setFrames A := rfl
    rw [h1, State.setFrames_setFrames]
  have hr2 : (T.setVm (T.vm.noted g.method.cls x.catchType (.cls cT))).frames = .java g1 :: r := hr
  rw [State.setTop_of_frames _ hr2] at hrest
  rw [hr, List.tail_cons, State.pushFrame, hsv, State.setTop_of_frames _ hr, hsv]
  exact hrest
end GCATCH
