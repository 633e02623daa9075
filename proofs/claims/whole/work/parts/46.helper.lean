/-! a method with handlers: its contract, and where an exception goes on -/
def ht_e (q : Nat × Nat × Nat × Nat) : ExceptionTableEntry := { startPc := q.1, endPc := q.2.1, handlerPc := q.2.2.1, catchType := q.2.2.2 }
theorem ht_t {t : List ExceptionTableEntry} {hs : List (Nat × Nat × Nat × Nat)} (h : t.map (fun h => (h.startPc, h.endPc, h.handlerPc, h.catchType)) = hs) : t = hs.map ht_e := by
  subst h
  rw [List.map_map]
  have e : (ht_e ∘ fun (h : ExceptionTableEntry) => (h.startPc, h.endPc, h.handlerPc, h.catchType)) = id := by funext x; cases x; rfl
  rw [e, List.map_id]
section HT1
variable {p : Program} {l : Launch} {e : Env} {R : Room} {s : State} {m : MethodId} {args : Array Value} {below : List Frame} {meth : Method} {c : Code} {H : Heap} {locs : List Loc} {cells slots : Nat} {Q : State → Prop} {A : Nat → Prop}
theorem wk_mono {k n : Nat} {g : JFrame} (h1 : cells ≤ k) (h2 : slots ≤ n) (kk : W p l e R s m args below meth c H locs k n Q g) : W p l e R s m args below meth c H locs cells slots Q g := fun T hT X => kk T hT { X with same := X.same.mono h1 h2 }
/-- an exception's own class -/
theorem ht_c {cls : String} {i0 ic : Nat} {k : ClassId} (hq : (cls, i0, ic) ∈ th_c) (hts : ∀ w ∈ w_all, w.before args s = true) (hT : th_v A s s.heap) (hk : s.vm.findClass cls = some k) : s.vm.assignable k k = true ∧ ∃ z, s.vm.classes[k]? = some z := by
  have n0 : Cond.classLink "ReadMapper" i0 cls ∈ w_all ∧ Cond.instantiable cls 6 ∈ w_all ∧ Cond.initialized cls ∈ w_all ∧ Bundle.fit cls = true := th_new (cls, i0, ic) hq
  obtain ⟨c1, kX, hc1, hkX, -⟩ := Cond.instantiable_spec (hts _ n0.2.1)
  cases hk.symm.trans hc1
  have hc : Cond.castable cls cls ∈ th_w := by
    rcases List.mem_cons.mp hq with h | h
    · cases h; decide
    rcases List.mem_cons.mp h with h | h
    · cases h; decide
    rcases List.mem_cons.mp h with h | h
    · cases h; decide
    rcases List.mem_cons.mp h with h | h
    · cases h; decide
    · cases h
  obtain ⟨c3, c4, hc3, hc4, hasg⟩ := Cond.castable_spec (hT.1 _ hc)
  cases hk.symm.trans hc3
  cases hk.symm.trans hc4
  exact ⟨hasg, kX, hkX⟩
theorem kx_1 {own cls : String} {i0 ic pc : Nat} {ls : Array Slot} {rest : List Value} {x : Addr} {cell : Cell} {q1 : Nat × Nat × Nat × Nat} {qs : List (Nat × Nat × Nat × Nat)} {T : State} (hq : (cls, i0, ic) ∈ th_c) (hown : s.vm.findClass own = some m.cls) (hts : ∀ w ∈ w_all, w.before args s = true) (hT : th_v A s s.heap) (ht : c.exceptionTable.toList = (q1 :: qs).map ht_e) (hcov : covers (ht_e q1) pc = true) (h0 : q1.2.2.2 ≠ 0) (hl : Cond.classLink own q1.2.2.2 cls ∈ w_all)
    (hce : H[x]? = some cell) (hob : cell.vm.isStatics = false) (hfc : s.vm.findClass cls = some cell.cls) (hTH : T.heap = H) (X : Stand p l e R s m args below meth c T locs cells slots) (kk : W p l e R s m args below meth c H locs cells slots Q (F0 m q1.2.2.1 ls [.ref x])) : ∃ t, Steps p.tables e below ((T.setTop (F0 m pc ls rest)).pushFrame (.throwing x)) t ∧ Q t := by
  obtain ⟨ha, hz⟩ := ht_c hq hts hT hfc
  obtain ⟨vm', X', st⟩ := cx_1 X x (g := F0 m pc ls rest) rfl hown (x := ht_e q1) (rest := qs.map ht_e) ht hcov h0 (hts _ hl) hfc (by rw [hTH]; exact hce) hob ha hz
  obtain ⟨t, a1, b1⟩ := kk (T.setVm vm') hTH X'
  exact ⟨t, st t a1, b1⟩
theorem kx_2 {own cls n1 : String} {i0 ic pc : Nat} {ls : Array Slot} {rest : List Value} {x : Addr} {cell : Cell} {q1 q2 : Nat × Nat × Nat × Nat} {qs : List (Nat × Nat × Nat × Nat)} {T : State} {i1 j1 : Nat} (hq : (cls, i0, ic) ∈ th_c) (hq1 : (n1, i1, j1) ∈ th_c) (hx : (cls, n1) ∈ th_x) (hown : s.vm.findClass own = some m.cls) (hts : ∀ w ∈ w_all, w.before args s = true) (hT : th_v A s s.heap) (ht : c.exceptionTable.toList = (q1 :: q2 :: qs).map ht_e) (hcov : covers (ht_e q1) pc = true) (hcov2 : covers (ht_e q2) pc = true) (h0 : q1.2.2.2 ≠ 0) (h02 : q2.2.2.2 ≠ 0) (hl : Cond.classLink own q1.2.2.2 n1 ∈ w_all) (hl2 : Cond.classLink own q2.2.2.2 cls ∈ w_all)
    (hce : H[x]? = some cell) (hob : cell.vm.isStatics = false) (hfc : s.vm.findClass cls = some cell.cls) (hTH : T.heap = H) (X : Stand p l e R s m args below meth c T locs cells slots) (kk : W p l e R s m args below meth c H locs cells slots Q (F0 m q2.2.2.1 ls [.ref x])) : ∃ t, Steps p.tables e below ((T.setTop (F0 m pc ls rest)).pushFrame (.throwing x)) t ∧ Q t := by
  obtain ⟨ha, hz⟩ := ht_c hq hts hT hfc
  have n0 : Cond.classLink "ReadMapper" i1 n1 ∈ w_all ∧ Cond.instantiable n1 6 ∈ w_all ∧ Cond.initialized n1 ∈ w_all ∧ Bundle.fit n1 = true := th_new (n1, i1, j1) hq1
  obtain ⟨k1, kX, hk1, -⟩ := Cond.instantiable_spec (hts _ n0.2.1)
  have hno := hT.2.1 (cls, n1) hx _ _ hfc hk1
  obtain ⟨vm', X', st⟩ := cx_2 X x (g := F0 m pc ls rest) rfl hown (x1 := ht_e q1) (x2 := ht_e q2) (rest := qs.map ht_e) ht hcov hcov2 h0 h02 (hts _ hl) (hts _ hl2) hk1 hfc (by rw [hTH]; exact hce) hob hno ha hz
  obtain ⟨t, a1, b1⟩ := kk (T.setVm vm') hTH X'
  exact ⟨t, st t a1, b1⟩
end HT1
/-- the contract of a method that catches what it calls throw -/
def ck_H (l : Launch) (y : MethodName) (ws : List Cond) (d : Nat) (D : va_G) (cA : Nat → ClassId) (K : Nat → Nat) (av : List Value) (w : va_W) {S : Type} (post : Int32 → S → Prop) (w' : S → va_W) : Prop :=
  ∀ sz : Nat, MetFree l y (headSpec ws (rm_n d 1 6)) (va_Pc av (ck_PT D cA K w sz)) (fun _ e _ _ _ => e.platform.stackTraces = false) (fun a st o t => va_Qi post (fun u t => ck_B D cA w sz (w' u) t) (va_A w sz) a st o t ∧ ∃ L, FrameEnd st o t L 1 6 ∧ ∀ q ∈ L, va_A w sz q.base)
def ck_bH (l : Launch) (cc : ByteArray) (y : MethodName) (hs : List (Nat × Nat × Nat × Nat)) (d maxL : Nat) (D : va_G) (cA : Nat → ClassId) (K : Nat → Nat) (av : List Value) (w : va_W) {S : Type} (post : Int32 → S → Prop) (w' : S → va_W) : Prop :=
  ∀ (p : Program) (e : Env) (s : State) (m : MethodId) (args : Array Value) (below : List Frame) (meth : Method) (c : Code) (Q : State → Prop) (A : Nat → Prop) (H : Heap) (locs : List Loc) (ls : Array Slot),
    p.tables.exec = Jvm.exec → c.code = cc → c.maxLocals = maxL → s.vm.findClass y.cls = some m.cls → (∀ x ∈ w_all, x.before args s = true) → va_K D vwCl (ty_s cA) s → en_v K A s s.heap → (∀ q, s.heap.size ≤ q → A q) → e.platform.stackTraces = false → th_v A s s.heap → c.exceptionTable.toList = hs.map ht_e →
    va_P D vwCl w H → va_D A w → va_S A s.heap H locs → lv_has ls maxL (lv_args 0 av) →
    (∀ (r : Int32) (u : S) (H : Heap) (locs : List Loc) (ls : Array Slot) (pc : Nat), decode cc pc = .ok (.ireturn, 1) → post r u → va_P D vwCl (w' u) H → va_D A (w' u) → va_S A s.heap H locs → W p l e (rm_n d 1 6) s m args below meth c H locs 1 6 Q (F0 m pc ls [.int r])) →
    W p l e (rm_n d 1 6) s m args below meth c H locs 0 0 Q (F0 m 0 ls [])
theorem ck_mkH {l : Launch} {cc : ByteArray} {y : MethodName} {hs : List (Nat × Nat × Nat × Nat)} {d maxL : Nat} {D : va_G} {cA : Nat → ClassId} {K : Nat → Nat} {av : List Value} {w : va_W} {S : Type} {post : Int32 → S → Prop} {w' : S → va_W} (hy : plainName y.cls = true) (hlen : (lg_sl av).length ≤ maxL)
    (body : ck_bH l cc y hs d maxL D cA K av w post w') : ck_H l y (Cond.codeWith y cc maxL (some .int) hs :: w_all) d D cA K av w post w' := by
  intro sz
  refine MetFree.of_bodyS (code := cc) (maxLocals := maxL) (ret := some .int) hy ?_ ?_
  · intro args s m h hn
    obtain ⟨m', meth, c, h0, h1, h2, h3, h4, h5, h6, h7, -⟩ := Cond.codeWith_spec (atoms_spec (ws := Cond.codeWith y cc maxL (some .int) hs :: w_all) h _ List.mem_cons_self)
    cases hn.symm.trans h0
    exact ⟨meth, c, h1, h2, h3, h4, h6, h7⟩
  intro p e s m args below meth c s₁ B hml hv htr
  obtain ⟨rfl, ⟨hsz, hP, hK, hD0, hE⟩, hT⟩ := hv
  have hx := B.exec
  have hb := B.bytes
  have hr := B.returns
  have hts0 := atoms_spec (ws := Cond.codeWith y cc maxL (some .int) hs :: w_all) B.pre
  have hown : s.vm.findClass y.cls = some m.cls := findClass_of_methodNamed B.named
  have hlocks := B.notSynchronized
  have X0 : Stand p l e (rm_n d 1 6) s m av.toArray below meth c s₁ [] 0 0 := Stand.of_body B
  have hh0 : s₁.heap = s.heap := by rw [B.state]; rfl
  obtain ⟨m', meth', c', h0, q1, q2, -, -, h5, -, -, -⟩ := Cond.codeWith_spec (hts0 _ List.mem_cons_self)
  cases B.named.symm.trans h0
  cases X0.method.symm.trans q1
  cases X0.code.symm.trans q2
  subst hsz
  have hl := lv_entry av (n := maxL) hlen
  have key : W p l e (rm_n d 1 6) s m av.toArray below meth c s.heap [] 0 0 (MQ below (va_Qi post (fun u t => ck_B D cA w s.heap.size (w' u) t) (va_A w s.heap.size)) av.toArray s 1 6 (va_A w s.heap.size)) (entryFrame m av.toArray maxL) := by
    rw [lg_entry_eq]
    generalize (lg_sl av ++ List.replicate (maxL - (lg_sl av).length) Slot.unset).toArray = ls at hl ⊢
    refine body p e s m _ below meth c _ (va_A w s.heap.size) s.heap [] ls hx hb hml hown (fun x h => hts0 x (List.mem_cons_of_mem _ h)) hK hE (fun q h => Or.inr h) htr hT (ht_t h5) hP (hD0.self) va_S.rf hl ?_
    intro r u H locs ls pc hdg hq hP hD hS
    exact W.zret (v := r) hx hb hr rfl (fun t ht hW => ⟨⟨r, u, rfl, hq, by rw [ht]; exact hP, va_K.moved hW.alike hK, hD⟩, hS.F ht⟩) hS.2.2 hdg
  obtain ⟨t, a1, o, b1, b2, b3, b4⟩ := key s₁ hh0 X0
  exact ⟨t, o, a1, b1, b2, b3, b4⟩
