/-! ===== a call that may throw, and the handler of the method's own ===== -/
section CT
variable {p : Program} {l : Launch} {e : Env} {R : Room} {s : State} {m : MethodId} {args : Array Value} {below : List Frame} {meth : Method} {c : Code} {T : State} {locs : List Loc} {cells slots : Nat}
/-- one handler alone, of a class that links: the search ends there, and the tables note the class -/
theorem th_find {f : JFrame} {a : Addr} {u : State} {mt : Method} {cd : Code} {x : ExceptionTableEntry} {k : ClassId} {cell : Cell} (hm : u.vm.method? f.method = some mt) (hc : mt.code = some cd) (ht : cd.exceptionTable.toList = [x]) (hx : covers x f.pc = true) (h0 : x.catchType ≠ 0)
    (hl : u.vm.ClassLinks e.platform f.method.cls x.catchType k) (hcell : u.heap[a]? = some cell) (hobj : ∀ z, cell.vm ≠ .statics z) (h1 : ∃ q, u.vm.classes[cell.cls]? = some q) (h2 : ∃ q, u.vm.classes[k]? = some q) (hfit : u.vm.assignable cell.cls k = true)
    (Q : Handler → Pre) (E : CtlPost) (d : Bool) (acts : List Action) : wp (findHandler f a) Q E e d acts u ↔ Q (.found x.handlerPc) d acts (u.setVm (u.vm.noted f.method.cls x.catchType (.cls k))) := by
  have hal : u.vm.Alike (u.vm.noted f.method.cls x.catchType (.cls k)) := (Vm.Alike.refl u.vm).noted _ _ _
  obtain ⟨q1, hq1⟩ := h1
  obtain ⟨q2, hq2⟩ := h2
  obtain ⟨r1, hr1, -⟩ := hal.2.2 _ _ hq1
  obtain ⟨r2, hr2, -⟩ := hal.2.2 _ _ hq2
  have hf : (u.vm.noted f.method.cls x.catchType (.cls k)).assignable cell.cls k = true := by rw [hal.assignable]; exact hfit
  obtain ⟨o1, o2⟩ := (resolveClass_links e.toSetting hl).op (op := VmOp.resolveClass f.method.cls x.catchType) rfl
  simp only [covers] at hx
  rw [_root_.Jvm.W.findHandler_eq hm hc, ht]
  simp [findHandler.go, hx, h0, o1, o2, hcell, hobj, hr1, hr2, hf, VmOp.dirties, VmOp.acts]
theorem th_caught (X : Stand p l e R s m args below meth c T locs cells slots) (a : Addr) {g : JFrame} (hg : g.method = m) {own name : String} (hown : s.vm.findClass own = some m.cls) {x : ExceptionTableEntry} (ht : c.exceptionTable.toList = [x]) (hx : covers x g.pc = true) (h0 : x.catchType ≠ 0)
    (hlink : (Cond.classLink own x.catchType name).before args s = true) {k : ClassId} {cell : Cell} (hk : s.vm.findClass name = some k) (hcell : T.heap[a]? = some cell) (hobj : cell.vm.isStatics = false) (hfit : s.vm.assignable cell.cls k = true) :
    ∃ vm', Stand p l e R s m args below meth c (T.setVm vm') locs cells slots ∧ ∀ target, Steps p.tables e below ((T.setVm vm').setTop { g with pc := x.handlerPc, stack := [.ref a] }) target → Steps p.tables e below ((T.setTop g).pushFrame (.throwing a)) target := by
  have hpl : e.platform.magicAccessors = ({} : Platform).magicAccessors := by rw [X.admits.platform]
  obtain ⟨k', hk', hcl⟩ := Cond.classLink_spec hown hlink e.platform hpl
  cases hk.symm.trans hk'
  obtain ⟨dk, _, _, kt, hd, _, _, _, _, hkt, _, hopen⟩ := hcl.here
  have hW' : s.WarmedH (T.vm.noted m.cls x.catchType (.cls k)) := X.warmed.noted hd hopen (State.rightAt_cls hcl)
  have hal := X.warmed.alike
  obtain ⟨kt', hkt', -⟩ := hal.2.2 _ _ hkt
  have hfit' : T.vm.assignable cell.cls k = true := by rw [hal.assignable]; exact hfit
  refine ⟨_, X.noted hW', fun target hrest => ?_⟩
  subst hg
  have hfind := fun Q E d acts => th_find (e := e) (f := g) (a := a) (u := (T.setTop g).pushFrame (.throwing a)) (mt := meth) (cd := c) X.method' X.code ht hx h0 (X.warmed.classLinks hcl) hcell (VmData.ne_statics_of hobj) (Vm.classAt_of_assignable hfit' ⟨kt', hkt'⟩) ⟨kt', hkt'⟩ hfit' Q E d acts
  obtain ⟨hgo, hw⟩ := X.here.throwing a
  refine Steps.head hgo hw ?_
  obtain ⟨g₀, hg0⟩ := Option.isSome_iff_exists.mp X.here.top
  obtain ⟨r, hr⟩ := State.topJava?_eq_some.mp hg0
  have hstep : (stepThrowing e ((T.setTop g).pushFrame (.throwing a)) a (.java g :: r)).Is ((((T.setTop g).pushFrame (.throwing a)).setVm (((T.setTop g).pushFrame (.throwing a)).vm.noted g.method.cls x.catchType (.cls k))).setFrames (.java { g with pc := x.handlerPc, stack := [.ref a] } :: r)) [] := by
    simp only [stepThrowing, searchFrame, vmDo]
    generalize hres : Sem.go _ e false [] ((T.setTop g).pushFrame (.throwing a)) = res
    obtain ⟨as, rfl, ha⟩ := Sem.eq_ok_of hres (a := Handler.found x.handlerPc) (s' := ((T.setTop g).pushFrame (.throwing a)).setVm (((T.setTop g).pushFrame (.throwing a)).vm.noted g.method.cls x.catchType (.cls k))) (acts' := []) (by simp [hfind])
    exact ⟨rfl, ha⟩
  rw [stepThread_throwing (frames_entered X.here.top _)]
  have hr2 : (T.setVm (T.vm.noted g.method.cls x.catchType (.cls k))).frames = .java g₀ :: r := hr
  rw [State.setTop_of_frames _ hr2] at hrest
  rw [hr, List.tail_cons, hstep.1]
  have e1 : (((T.setTop g).pushFrame (.throwing a)).setVm (((T.setTop g).pushFrame (.throwing a)).vm.noted g.method.cls x.catchType (.cls k))).setFrames (.java { g with pc := x.handlerPc, stack := [.ref a] } :: r) = (T.setVm (T.vm.noted g.method.cls x.catchType (.cls k))).setFrames (.java { g with pc := x.handlerPc, stack := [.ref a] } :: r) := by
    rw [State.pushFrame, State.setTop_of_frames _ hr]
    show (((T.setVm (T.vm.noted g.method.cls x.catchType (.cls k))).setFrames _).setFrames _).setFrames _ = _
    rw [State.setFrames_setFrames, State.setFrames_setFrames]
  rw [e1]
  exact hrest
end CT
