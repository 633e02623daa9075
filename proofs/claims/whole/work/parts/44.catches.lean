/-! an exception that is caught: the search over the handlers, whose classes may not have been resolved yet -/
section CT1
variable {Q : Handler → Pre} {E : CtlPost} {e : Env} {d : Bool} {acts : List Action} {s : State} {f : JFrame} {a : Addr}
/-- one handler that covers the place: its class is noted; the object is of it, or the search goes on -/
theorem ct_cls {x : ExceptionTableEntry} {t : List ExceptionTableEntry} {k : ClassId} {cell : Cell} (hx : covers x f.pc = true) (h0 : x.catchType ≠ 0) (hl : s.vm.ClassLinks e.platform f.method.cls x.catchType k) (hcell : s.heap[a]? = some cell) (hobj : ∀ z, cell.vm ≠ .statics z) (h1 : ∃ z, s.vm.classes[cell.cls]? = some z) (h2 : ∃ z, s.vm.classes[k]? = some z) :
    wp (findHandler.go f a (x :: t)) Q E e d acts s ↔ if s.vm.assignable cell.cls k = true then Q (.found x.handlerPc) d acts (s.setVm (s.vm.noted f.method.cls x.catchType (.cls k))) else wp (findHandler.go f a t) Q E e d acts (s.setVm (s.vm.noted f.method.cls x.catchType (.cls k))) := by
  simp only [covers] at hx
  obtain ⟨ha, ht⟩ := (resolveClass_links e.toSetting hl).op (op := VmOp.resolveClass f.method.cls x.catchType) rfl
  have hal : s.vm.Alike (s.vm.noted f.method.cls x.catchType (.cls k)) := (Vm.Alike.refl s.vm).noted _ _ _
  obtain ⟨z1, g1⟩ := h1
  obtain ⟨z2, g2⟩ := h2
  obtain ⟨y1, i1, -⟩ := hal.2.2 _ _ g1
  obtain ⟨y2, i2, -⟩ := hal.2.2 _ _ g2
  have e1 : (s.vm.noted f.method.cls x.catchType (.cls k)).assignable cell.cls k = s.vm.assignable cell.cls k := hal.assignable ..
  cases hfit : s.vm.assignable cell.cls k <;> rw [hfit] at e1 <;> simp [findHandler.go, hx, h0, ha, ht, hcell, hobj, i1, i2, e1, VmOp.dirties, VmOp.acts]
end CT1
def ct_f (e : Env) (s : State) (f : JFrame) (a : Addr) (h : Handler) (vm' : Vm) : Prop := ∀ (Q : Handler → Pre) (E : CtlPost) (d : Bool) (acts : List Action), wp (findHandler f a) Q E e d acts s ↔ Q h d acts (s.setVm vm')
theorem ct_step {e : Env} {s : State} {a : Addr} {f : JFrame} {r : List Frame} {pc : Nat} {vm' : Vm} (h : ct_f e s f a (.found pc) vm') : (stepThrowing e s a (.java f :: r)).Is ((s.setVm vm').setFrames (.java { f with pc := pc, stack := [.ref a] } :: r)) [] := by
  simp only [stepThrowing, searchFrame, vmDo]
  generalize hr : Sem.go _ e false [] s = res
  obtain ⟨as, rfl, ha⟩ := Sem.eq_ok_of hr (a := Handler.found pc) (s' := s.setVm vm') (acts' := []) (by simp [h _ _ _ _])
  exact ⟨rfl, ha⟩
theorem ct_go {tb : Tables} {e : Env} {s target : State} {g : JFrame} {c : Code} {below : List Frame} {a : Addr} (h : At s g.method c below) {pc : Nat} {vm' : Vm} (hf : ct_f e ((s.setTop g).pushFrame (.throwing a)) g a (.found pc) vm') (hrest : Steps tb e below ((s.setVm vm').setTop { g with pc := pc, stack := [.ref a] }) target) : Steps tb e below ((s.setTop g).pushFrame (.throwing a)) target := by
  obtain ⟨hgo, hw⟩ := h.throwing a
  refine Steps.head hgo hw ?_
  rw [stepThread_throwing (frames_entered h.top _), (ct_step (s := (s.setTop g).pushFrame (.throwing a)) hf).1]
  obtain ⟨g₀, hg⟩ := Option.isSome_iff_exists.mp h.top
  obtain ⟨r, hr⟩ := State.topJava?_eq_some.mp hg
  have hr' : (s.setVm vm').frames = .java g₀ :: r := hr
  rw [State.setTop_of_frames _ hr'] at hrest
  have e1 : ∀ F G : List Frame, ((s.setFrames F).setVm vm').setFrames G = (s.setVm vm').setFrames G := fun F G => State.setFrames_setFrames (s.setVm vm') F G
  have e2 : (s.setTop g).pushFrame (.throwing a) = s.setFrames (.throwing a :: .java g :: r) := by
    rw [State.pushFrame, State.frames_setTop _ hr, State.setTop_of_frames _ hr, State.setFrames_setFrames]
  rw [e2, e1, hr]
  exact hrest
section CT2
variable {p : Program} {l : Launch} {e : Env} {R : Room} {s : State} {m : MethodId} {args : Array Value} {below : List Frame} {meth : Method} {c : Code} {T : State} {locs : List Loc} {cells slots : Nat}
/-- caught by the first handler -/
theorem cx_1 (X : Stand p l e R s m args below meth c T locs cells slots) (a : Addr) {g : JFrame} (hg : g.method = m) {own name : String} (hown : s.vm.findClass own = some m.cls) {x : ExceptionTableEntry} {rest : List ExceptionTableEntry} (hs : c.exceptionTable.toList = x :: rest) (hx : covers x g.pc = true) (h0 : x.catchType ≠ 0)
    (hl : (Cond.classLink own x.catchType name).before args s = true) {k : ClassId} {cell : Cell} (hk : s.vm.findClass name = some k) (hcell : T.heap[a]? = some cell) (hobj : cell.vm.isStatics = false) (hfit : s.vm.assignable cell.cls k = true) (hcc : ∃ z, s.vm.classes[cell.cls]? = some z) :
    ∃ vm', Stand p l e R s m args below meth c (T.setVm vm') locs cells slots ∧ ∀ target, Steps p.tables e below ((T.setVm vm').setTop { g with pc := x.handlerPc, stack := [.ref a] }) target → Steps p.tables e below ((T.setTop g).pushFrame (.throwing a)) target := by
  have hpl : e.platform.magicAccessors = ({} : Platform).magicAccessors := by rw [X.admits.platform]
  obtain ⟨k', hk', hcl⟩ := Cond.classLink_spec hown hl e.platform hpl
  cases hk.symm.trans hk'
  obtain ⟨dk, _, _, kt, hd, _, _, _, _, hkt, _, hopen⟩ := hcl.here
  have hW' : s.WarmedH (T.vm.noted m.cls x.catchType (.cls k)) := X.warmed.noted hd hopen (State.rightAt_cls hcl)
  have hal := X.warmed.alike
  obtain ⟨kt', hkt', -⟩ := hal.2.2 _ _ hkt
  obtain ⟨z, hz⟩ := hcc
  obtain ⟨z', hz', -⟩ := hal.2.2 _ _ hz
  refine ⟨_, X.noted hW', fun target hrest => ?_⟩
  subst hg
  refine ct_go (vm' := T.vm.noted g.method.cls x.catchType (.cls k)) X.here ?_ hrest
  intro Q E d acts
  rw [W.findHandler_eq (s := (T.setTop g).pushFrame (.throwing a)) X.method' X.code, hs, ct_cls (s := (T.setTop g).pushFrame (.throwing a)) hx h0 (X.warmed.classLinks hcl) hcell (VmData.ne_statics_of hobj) ⟨z', hz'⟩ ⟨kt', hkt'⟩, if_pos (show ((T.setTop g).pushFrame (.throwing a)).vm.assignable cell.cls k = true from (hal.assignable ..).trans hfit)]
  exact Iff.rfl
/-- caught by the second handler, the object isn't of the first one's class -/
theorem cx_2 (X : Stand p l e R s m args below meth c T locs cells slots) (a : Addr) {g : JFrame} (hg : g.method = m) {own n1 n2 : String} (hown : s.vm.findClass own = some m.cls) {x1 x2 : ExceptionTableEntry} {rest : List ExceptionTableEntry} (hs : c.exceptionTable.toList = x1 :: x2 :: rest) (hx1 : covers x1 g.pc = true) (hx2 : covers x2 g.pc = true) (h01 : x1.catchType ≠ 0) (h02 : x2.catchType ≠ 0)
    (hl1 : (Cond.classLink own x1.catchType n1).before args s = true) (hl2 : (Cond.classLink own x2.catchType n2).before args s = true) {k1 k2 : ClassId} {cell : Cell} (hk1 : s.vm.findClass n1 = some k1) (hk2 : s.vm.findClass n2 = some k2) (hcell : T.heap[a]? = some cell) (hobj : cell.vm.isStatics = false) (hno : s.vm.assignable cell.cls k1 = false) (hfit : s.vm.assignable cell.cls k2 = true) (hcc : ∃ z, s.vm.classes[cell.cls]? = some z) :
    ∃ vm', Stand p l e R s m args below meth c (T.setVm vm') locs cells slots ∧ ∀ target, Steps p.tables e below ((T.setVm vm').setTop { g with pc := x2.handlerPc, stack := [.ref a] }) target → Steps p.tables e below ((T.setTop g).pushFrame (.throwing a)) target := by
  have hpl : e.platform.magicAccessors = ({} : Platform).magicAccessors := by rw [X.admits.platform]
  obtain ⟨k1', hk1', hcl1⟩ := Cond.classLink_spec hown hl1 e.platform hpl
  cases hk1.symm.trans hk1'
  obtain ⟨k2', hk2', hcl2⟩ := Cond.classLink_spec hown hl2 e.platform hpl
  cases hk2.symm.trans hk2'
  obtain ⟨dk, _, _, kt, hd, _, _, _, _, hkt, _, hopen⟩ := hcl1.here
  obtain ⟨dk2, _, _, kt2, hd2, _, _, _, _, hkt2, _, hopen2⟩ := hcl2.here
  have hW1 : s.WarmedH (T.vm.noted m.cls x1.catchType (.cls k1)) := X.warmed.noted hd hopen (State.rightAt_cls hcl1)
  have X1 := X.noted hW1
  have hW2 : s.WarmedH ((T.vm.noted m.cls x1.catchType (.cls k1)).noted m.cls x2.catchType (.cls k2)) := hW1.noted hd2 hopen2 (State.rightAt_cls hcl2)
  have hal := X.warmed.alike
  have hal1 := hW1.alike
  obtain ⟨kt', hkt', -⟩ := hal.2.2 _ _ hkt
  obtain ⟨kt2', hkt2', -⟩ := hal1.2.2 _ _ hkt2
  obtain ⟨z, hz⟩ := hcc
  obtain ⟨z', hz', -⟩ := hal.2.2 _ _ hz
  obtain ⟨z2, hz2, -⟩ := hal1.2.2 _ _ hz
  refine ⟨_, X.noted hW2, fun target hrest => ?_⟩
  subst hg
  refine ct_go (vm' := (T.vm.noted g.method.cls x1.catchType (.cls k1)).noted g.method.cls x2.catchType (.cls k2)) X.here ?_ hrest
  intro Q E d acts
  rw [W.findHandler_eq (s := (T.setTop g).pushFrame (.throwing a)) X.method' X.code, hs, ct_cls (s := (T.setTop g).pushFrame (.throwing a)) hx1 h01 (X.warmed.classLinks hcl1) hcell (VmData.ne_statics_of hobj) ⟨z', hz'⟩ ⟨kt', hkt'⟩, if_neg (show ¬ ((T.setTop g).pushFrame (.throwing a)).vm.assignable cell.cls k1 = true from fun h9 => by have h8 : s.vm.assignable cell.cls k1 = true := (hal.assignable cell.cls k1).symm.trans h9; rw [hno] at h8; cases h8)]
  refine (ct_cls (s := ((T.setTop g).pushFrame (.throwing a)).setVm (T.vm.noted g.method.cls x1.catchType (.cls k1))) hx2 h02 (hW1.classLinks hcl2) hcell (VmData.ne_statics_of hobj) ⟨z2, hz2⟩ ⟨kt2', hkt2'⟩).trans ?_
  rw [if_pos (show (((T.setTop g).pushFrame (.throwing a)).setVm (T.vm.noted g.method.cls x1.catchType (.cls k1))).vm.assignable cell.cls k2 = true from (hal1.assignable ..).trans hfit)]
  exact Iff.rfl
end CT2
