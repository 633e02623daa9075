/-! the calls of part 04, the caller in any room -/
section CGW
variable {s : State} {args : Array Value} {R : Room}
theorem cg_wV {own C : String} {index maxL n d' : Nat} {y : MethodName} {bytes : ByteArray} {ret : Option FieldType} (hts : ∀ w ∈ w_all, w.before args s = true) (hf : cf_V y bytes maxL ret C n) (hl : Cond.methodLink own index y ∈ w_all) (hR : d' + 1 ≤ R.frames ∧ 8 + (maxL + 11) + 32 * d' ≤ R.locals) : CallW R s args own C index y bytes maxL ret (Cond.code y bytes maxL ret :: w_all) (rm_d d') 0 0 n := by
  obtain ⟨⟨f1, f2, f3, f4⟩, f5, f6⟩ := hf
  subst f5
  exact ⟨callB_of n hts (gd_c f4) rfl rfl rfl (hts _ f3) (hts _ hl) f6 hR, hts _ f1, hts _ f2⟩
theorem cg_wS {own : String} {index maxL n d' : Nat} {y : MethodName} {bytes : ByteArray} {ret : Option FieldType} (hts : ∀ w ∈ w_all, w.before args s = true) (hf : cf_S y bytes maxL ret n) (hl : Cond.methodLink own index y ∈ w_all) (hR : d' + 1 ≤ R.frames ∧ 8 + (maxL + 11) + 32 * d' ≤ R.locals) : CallB R s args own index y bytes maxL ret (Cond.code y bytes maxL ret :: w_all) (rm_d d') 0 0 n ∧ (Cond.static y).before args s = true := by
  obtain ⟨⟨f1, f2, f3⟩, f6⟩ := hf
  exact ⟨callB_of n hts (gd_c f3) rfl rfl rfl (hts _ f2) (hts _ hl) f6 hR, hts _ f1⟩
theorem cg_wSN {own host : String} {index maxL n d' : Nat} {y : MethodName} {bytes : ByteArray} {ret : Option FieldType} {K : Nat → Nat} {A : Nat → Prop} {H : Heap} (hts : ∀ w ∈ w_all, w.before args s = true) (hE : en_v K A s H) (hf : cf_S y bytes maxL ret n) (hl : Cond.methodLinkNest own index y host ∈ n_all) (hR : d' + 1 ≤ R.frames ∧ 8 + (maxL + 11) + 32 * d' ≤ R.locals) : va_CN R s args own index y host bytes maxL ret (Cond.code y bytes maxL ret :: w_all) (rm_d d') 0 0 n ∧ (Cond.static y).before args s = true ∧ True := by
  obtain ⟨⟨f1, f2, f3⟩, f6⟩ := hf
  exact ⟨va_cnB n hts (gd_c f3) rfl rfl rfl (hE.1 _ hl) (hts _ f2) f6 hR, hts _ f1, trivial⟩
end CGW
section CGC
variable {p : Program} {l : Launch} {e : Env} {R : Room} {s : State} {m : MethodId} {args : Array Value} {below : List Frame} {meth : Method} {c : Code} {H : Heap} {locs : List Loc} {cells slots : Nat} {Q : State → Prop}
variable {D : va_G} {cA : Nat → ClassId} {K : Nat → Nat} {A : Nat → Prop} {ws wc wr : va_W} {pc : Nat} {ls : Array Slot} {rest st0 As : List Value} {S : Type} {w' ws2 : S → va_W} {d' nL maxL n index b : Nat} {cc bytes : ByteArray} {own C host : String} {y : MethodName} {rt : FieldType} {ci q0 : Nat} {fs : List Value} {T : u_T} {N : Nat}
/-- a virtual call that answers an int -/
theorem cg_cV {post : Int32 → S → Prop} (hM : ck_I l y (Cond.code y bytes maxL (some rt) :: w_all) d' D cA K (.ref b :: As) wc post w') (hx : p.tables.exec = Jvm.exec) (hb : c.code = cc) (hml : c.maxLocals = nL) (hown : s.vm.findClass own = some m.cls) (hts : ∀ w ∈ w_all, w.before args s = true) (hK : va_K D vwCl (ty_s cA) s) (hE : en_v K A s s.heap) (hA : ∀ q, s.heap.size ≤ q → A q) (hP : va_P D vwCl ws H) (hD : va_D A ws) (hS : va_S A s.heap H locs)
    (hf : cf_V y bytes maxL (some rt) C n) (hlk : Cond.methodLink own index y ∈ w_all) (hR : d' + 1 ≤ R.frames ∧ 8 + (maxL + 11) + 32 * d' ≤ R.locals) (hRc : cells ≤ R.cells ∧ slots ≤ R.slots) (q0 : Nat) (hc : vwCl[ci]? = some (C, T, N)) (he : ws[q0]? = some (b, .inr (ci, fs))) (hn : As.length = n) (hsize : ls.size = nL) (hst : st0 = As.reverse ++ .ref b :: rest) (hroom : (rest.map fun v => v.category).sum ≤ 8) (hdg : decode cc pc = .ok (.invokevirtual index, 3))
    (isC isR ps : List Nat) (hC : isC.map (fun i => ws[i]?) = wc.map some) (hCR : isR.map (fun i => ws[i]?) = wr.map some) (hnd : va_nd isC = true ∧ va_nd isR = true ∧ va_nd ps = true ∧ ∀ i ∈ isR, i ∉ isC) (hw2 : ∀ u, ps.map (fun i => (wr ++ w' u)[i]?) = (ws2 u).map some)
    (kk : ∀ (r : Int32) (u : S) (H1 : Heap) (locs1 : List Loc), post r u → va_P D vwCl (ws2 u) H1 → va_D A (ws2 u) → va_S A s.heap H1 locs1 → W p l e R s m args below meth c H1 locs1 cells slots Q (F0 m (pc + 3) ls (.int r :: rest))) : W p l e R s m args below meth c H locs cells slots Q (F0 m pc ls st0) :=
  ck_goI (va_runV (As := As) (rest := rest) ⟨hx, hb, hml, hown, hts⟩ (hM H.size) (cg_wV hts hf hlk hR) ⟨ck_bl, va_recv hK hP hc he, ck_at hK hE hA hP hD hS isC hC hnd.1⟩ rfl hn hsize hst (lv_room hroom) hdg hRc) hA hP hD hS isC isR ps hC hCR hnd.2.1 hnd.2.2.2 hnd.2.2.1 hw2 kk
/-- a virtual call that answers nothing -/
theorem cg_cVv {post : S → Prop} (hM : ck_V l y (Cond.code y bytes maxL none :: w_all) d' D cA K (.ref b :: As) wc post w') (hx : p.tables.exec = Jvm.exec) (hb : c.code = cc) (hml : c.maxLocals = nL) (hown : s.vm.findClass own = some m.cls) (hts : ∀ w ∈ w_all, w.before args s = true) (hK : va_K D vwCl (ty_s cA) s) (hE : en_v K A s s.heap) (hA : ∀ q, s.heap.size ≤ q → A q) (hP : va_P D vwCl ws H) (hD : va_D A ws) (hS : va_S A s.heap H locs)
    (hf : cf_V y bytes maxL none C n) (hlk : Cond.methodLink own index y ∈ w_all) (hR : d' + 1 ≤ R.frames ∧ 8 + (maxL + 11) + 32 * d' ≤ R.locals) (hRc : cells ≤ R.cells ∧ slots ≤ R.slots) (q0 : Nat) (hc : vwCl[ci]? = some (C, T, N)) (he : ws[q0]? = some (b, .inr (ci, fs))) (hn : As.length = n) (hsize : ls.size = nL) (hst : st0 = As.reverse ++ .ref b :: rest) (hroom : (rest.map fun v => v.category).sum ≤ 8) (hdg : decode cc pc = .ok (.invokevirtual index, 3))
    (isC isR ps : List Nat) (hC : isC.map (fun i => ws[i]?) = wc.map some) (hCR : isR.map (fun i => ws[i]?) = wr.map some) (hnd : va_nd isC = true ∧ va_nd isR = true ∧ va_nd ps = true ∧ ∀ i ∈ isR, i ∉ isC) (hw2 : ∀ u, ps.map (fun i => (wr ++ w' u)[i]?) = (ws2 u).map some)
    (kk : ∀ (u : S) (H1 : Heap) (locs1 : List Loc), post u → va_P D vwCl (ws2 u) H1 → va_D A (ws2 u) → va_S A s.heap H1 locs1 → W p l e R s m args below meth c H1 locs1 cells slots Q (F0 m (pc + 3) ls rest)) : W p l e R s m args below meth c H locs cells slots Q (F0 m pc ls st0) :=
  ck_goV (va_runV (As := As) (rest := rest) ⟨hx, hb, hml, hown, hts⟩ (hM H.size) (cg_wV hts hf hlk hR) ⟨ck_bl, va_recv hK hP hc he, ck_at hK hE hA hP hD hS isC hC hnd.1⟩ rfl hn hsize hst (lv_room hroom) hdg hRc) hA hP hD hS isC isR ps hC hCR hnd.2.1 hnd.2.2.2 hnd.2.2.1 hw2 kk
/-- a static call of the own class that answers an int -/
theorem cg_cS {post : Int32 → S → Prop} (hM : ck_I l y (Cond.code y bytes maxL (some rt) :: w_all) d' D cA K As wc post w') (hx : p.tables.exec = Jvm.exec) (hb : c.code = cc) (hml : c.maxLocals = nL) (hown : s.vm.findClass own = some m.cls) (hts : ∀ w ∈ w_all, w.before args s = true) (hK : va_K D vwCl (ty_s cA) s) (hE : en_v K A s s.heap) (hA : ∀ q, s.heap.size ≤ q → A q) (hP : va_P D vwCl ws H) (hD : va_D A ws) (hS : va_S A s.heap H locs)
    (hf : cf_S y bytes maxL (some rt) n) (hlk : Cond.methodLink own index y ∈ w_all) (hR : d' + 1 ≤ R.frames ∧ 8 + (maxL + 11) + 32 * d' ≤ R.locals) (hRc : cells ≤ R.cells ∧ slots ≤ R.slots) (hn : As.length = n) (hsize : ls.size = nL) (hst : st0 = As.reverse ++ rest) (hroom : (rest.map fun v => v.category).sum ≤ 8) (hdg : decode cc pc = .ok (.invokestatic index, 3))
    (isC isR ps : List Nat) (hC : isC.map (fun i => ws[i]?) = wc.map some) (hCR : isR.map (fun i => ws[i]?) = wr.map some) (hnd : va_nd isC = true ∧ va_nd isR = true ∧ va_nd ps = true ∧ ∀ i ∈ isR, i ∉ isC) (hw2 : ∀ u, ps.map (fun i => (wr ++ w' u)[i]?) = (ws2 u).map some)
    (kk : ∀ (r : Int32) (u : S) (H1 : Heap) (locs1 : List Loc), post r u → va_P D vwCl (ws2 u) H1 → va_D A (ws2 u) → va_S A s.heap H1 locs1 → W p l e R s m args below meth c H1 locs1 cells slots Q (F0 m (pc + 3) ls (.int r :: rest))) : W p l e R s m args below meth c H locs cells slots Q (F0 m pc ls st0) :=
  ck_goI (va_runS (As := As) (rest := rest) ⟨hx, hb, hml, hown, hts⟩ (hM H.size) (cg_wS hts hf hlk hR) ⟨ck_bl, ck_at hK hE hA hP hD hS isC hC hnd.1⟩ rfl hn hsize hst (lv_room hroom) hdg hRc) hA hP hD hS isC isR ps hC hCR hnd.2.1 hnd.2.2.2 hnd.2.2.1 hw2 kk
theorem cg_cSv {post : S → Prop} (hM : ck_V l y (Cond.code y bytes maxL none :: w_all) d' D cA K As wc post w') (hx : p.tables.exec = Jvm.exec) (hb : c.code = cc) (hml : c.maxLocals = nL) (hown : s.vm.findClass own = some m.cls) (hts : ∀ w ∈ w_all, w.before args s = true) (hK : va_K D vwCl (ty_s cA) s) (hE : en_v K A s s.heap) (hA : ∀ q, s.heap.size ≤ q → A q) (hP : va_P D vwCl ws H) (hD : va_D A ws) (hS : va_S A s.heap H locs)
    (hf : cf_S y bytes maxL none n) (hlk : Cond.methodLink own index y ∈ w_all) (hR : d' + 1 ≤ R.frames ∧ 8 + (maxL + 11) + 32 * d' ≤ R.locals) (hRc : cells ≤ R.cells ∧ slots ≤ R.slots) (hn : As.length = n) (hsize : ls.size = nL) (hst : st0 = As.reverse ++ rest) (hroom : (rest.map fun v => v.category).sum ≤ 8) (hdg : decode cc pc = .ok (.invokestatic index, 3))
    (isC isR ps : List Nat) (hC : isC.map (fun i => ws[i]?) = wc.map some) (hCR : isR.map (fun i => ws[i]?) = wr.map some) (hnd : va_nd isC = true ∧ va_nd isR = true ∧ va_nd ps = true ∧ ∀ i ∈ isR, i ∉ isC) (hw2 : ∀ u, ps.map (fun i => (wr ++ w' u)[i]?) = (ws2 u).map some)
    (kk : ∀ (u : S) (H1 : Heap) (locs1 : List Loc), post u → va_P D vwCl (ws2 u) H1 → va_D A (ws2 u) → va_S A s.heap H1 locs1 → W p l e R s m args below meth c H1 locs1 cells slots Q (F0 m (pc + 3) ls rest)) : W p l e R s m args below meth c H locs cells slots Q (F0 m pc ls st0) :=
  ck_goV (va_runS (As := As) (rest := rest) ⟨hx, hb, hml, hown, hts⟩ (hM H.size) (cg_wS hts hf hlk hR) ⟨ck_bl, ck_at hK hE hA hP hD hS isC hC hnd.1⟩ rfl hn hsize hst (lv_room hroom) hdg hRc) hA hP hD hS isC isR ps hC hCR hnd.2.1 hnd.2.2.2 hnd.2.2.1 hw2 kk
/-- a static call of a nest mate's private method that answers an int -/
theorem cg_cSN {post : Int32 → S → Prop} (hM : ck_I l y (Cond.code y bytes maxL (some rt) :: w_all) d' D cA K As wc post w') (hx : p.tables.exec = Jvm.exec) (hb : c.code = cc) (hml : c.maxLocals = nL) (hown : s.vm.findClass own = some m.cls) (hts : ∀ w ∈ w_all, w.before args s = true) (hK : va_K D vwCl (ty_s cA) s) (hE : en_v K A s s.heap) (hA : ∀ q, s.heap.size ≤ q → A q) (hP : va_P D vwCl ws H) (hD : va_D A ws) (hS : va_S A s.heap H locs)
    (hf : cf_S y bytes maxL (some rt) n) (hlk : Cond.methodLinkNest own index y host ∈ n_all) (hR : d' + 1 ≤ R.frames ∧ 8 + (maxL + 11) + 32 * d' ≤ R.locals) (hRc : cells ≤ R.cells ∧ slots ≤ R.slots) (hn : As.length = n) (hsize : ls.size = nL) (hst : st0 = As.reverse ++ rest) (hroom : (rest.map fun v => v.category).sum ≤ 8) (hdg : decode cc pc = .ok (.invokestatic index, 3))
    (isC isR ps : List Nat) (hC : isC.map (fun i => ws[i]?) = wc.map some) (hCR : isR.map (fun i => ws[i]?) = wr.map some) (hnd : va_nd isC = true ∧ va_nd isR = true ∧ va_nd ps = true ∧ ∀ i ∈ isR, i ∉ isC) (hw2 : ∀ u, ps.map (fun i => (wr ++ w' u)[i]?) = (ws2 u).map some)
    (kk : ∀ (r : Int32) (u : S) (H1 : Heap) (locs1 : List Loc), post r u → va_P D vwCl (ws2 u) H1 → va_D A (ws2 u) → va_S A s.heap H1 locs1 → W p l e R s m args below meth c H1 locs1 cells slots Q (F0 m (pc + 3) ls (.int r :: rest))) : W p l e R s m args below meth c H locs cells slots Q (F0 m pc ls st0) :=
  ck_goI (va_runSN (As := As) (rest := rest) ⟨hx, hb, hml, hown, hts⟩ (hM H.size) (cg_wSN hts hE hf hlk hR) ⟨ck_bl, ck_at hK hE hA hP hD hS isC hC hnd.1⟩ rfl hn hsize hst (lv_room hroom) hdg hRc) hA hP hD hS isC isR ps hC hCR hnd.2.1 hnd.2.2.2 hnd.2.2.1 hw2 kk
end CGC
/-! the contract of a method that answers an int or throws one of the four exceptions -/
abbrev rm_t (d : Nat) : Room := { frames := d, cells := 1, slots := 6, locals := 32 * d }
def ck_PT (D : va_G) (cA : Nat → ClassId) (K : Nat → Nat) (w : va_W) (sz : Nat) (U : State) : Prop := ck_P D cA K w sz U ∧ th_v (va_A w sz) U U.heap
def ck_QT (D : va_G) (cA : Nat → ClassId) (w : va_W) (sz : Nat) {S : Type} (post : Option String → Int32 → S → Prop) (w' : S → va_W) : Array Value → State → Outcome → State → Prop := fun _ st o t =>
  (∃ (r : Int32) (u : S), o = .returned (some (.int r)) ∧ post none r u ∧ ck_B D cA w sz (w' u) t ∧ va_F (va_A w sz) st t ∧ ∃ L, FrameEnd st o t L 0 0 ∧ ∀ q ∈ L, va_A w sz q.base) ∨
  (∃ (x : Addr) (cls : String) (u : S) (cell : Cell), o = .threw x ∧ post (some cls) 0 u ∧ ck_B D cA w sz (w' u) t ∧ va_F (va_A w sz) st t ∧ t.heap[x]? = some cell ∧ cell.vm.isStatics = false ∧ st.vm.findClass cls = some cell.cls ∧ ∃ L, st.WarmedH t.vm ∧ st.sameButNew ({ t with vm := st.vm } : State) L 1 6 ∧ ∀ q ∈ L, va_A w sz q.base)
def ck_T (l : Launch) (y : MethodName) (ws : List Cond) (d : Nat) (D : va_G) (cA : Nat → ClassId) (K : Nat → Nat) (av : List Value) (w : va_W) {S : Type} (post : Option String → Int32 → S → Prop) (w' : S → va_W) : Prop :=
  ∀ sz : Nat, MetFree l y (headSpec ws (rm_t d)) (va_Pc av (ck_PT D cA K w sz)) (fun _ e _ _ _ => e.platform.stackTraces = false) (ck_QT D cA w sz post w')
def ck_bT (l : Launch) (cc : ByteArray) (d maxL : Nat) (D : va_G) (cA : Nat → ClassId) (K : Nat → Nat) (av : List Value) (w : va_W) {S : Type} (post : Option String → Int32 → S → Prop) (w' : S → va_W) : Prop :=
  ∀ (p : Program) (e : Env) (s : State) (m : MethodId) (args : Array Value) (below : List Frame) (meth : Method) (c : Code) (Q : State → Prop) (A : Nat → Prop) (H : Heap) (locs : List Loc) (ls : Array Slot),
    p.tables.exec = Jvm.exec → c.code = cc → c.maxLocals = maxL → s.vm.findClass "ReadMapper" = some m.cls → (∀ x ∈ w_all, x.before args s = true) → va_K D vwCl (ty_s cA) s → en_v K A s s.heap → (∀ q, s.heap.size ≤ q → A q) →
    va_P D vwCl w H → va_D A w → va_S A s.heap H locs → lv_has ls maxL (lv_args 0 av) →
    (∀ (r : Int32) (u : S) (H : Heap) (locs : List Loc) (ls : Array Slot) (pc : Nat), decode cc pc = .ok (.ireturn, 1) → post none r u → va_P D vwCl (w' u) H → va_D A (w' u) → va_S A s.heap H locs → W p l e (rm_t d) s m args below meth c H locs 0 0 Q (F0 m pc ls [.int r])) →
    (∀ (cls : String) (i0 ic : Nat), (cls, i0, ic) ∈ th_c → ∀ (u : S) (H : Heap) (locs : List Loc) (ls : Array Slot) (pc : Nat), decode cc pc = .ok (.new i0, 3) → decode cc (pc + 3) = .ok (.dup, 1) → decode cc (pc + 4) = .ok (.invokespecial ic, 3) → decode cc (pc + 7) = .ok (.athrow, 1) → post (some cls) 0 u → va_P D vwCl (w' u) H → va_D A (w' u) → va_S A s.heap H locs → ls.size = maxL → W p l e (rm_t d) s m args below meth c H locs 0 0 Q (F0 m pc ls [])) →
    W p l e (rm_t d) s m args below meth c H locs 0 0 Q (F0 m 0 ls [])
theorem ck_mkT {l : Launch} {cc : ByteArray} {y : MethodName} {d maxL : Nat} {D : va_G} {cA : Nat → ClassId} {K : Nat → Nat} {av : List Value} {w : va_W} {S : Type} {post : Option String → Int32 → S → Prop} {w' : S → va_W} (hy : y.cls = "ReadMapper") (hd : 6 ≤ d) (hlen : (lg_sl av).length ≤ maxL)
    (body : ck_bT l cc d maxL D cA K av w post w') : ck_T l y (Cond.code y cc maxL (some .int) :: w_all) d D cA K av w post w' := by
  intro sz
  refine MetFree.of_bodyS (code := cc) (maxLocals := maxL) (ret := some .int) (by rw [hy]; decide) ?_ ?_
  · intro args s m h hn
    obtain ⟨meth, c, h1, h2, h3, h4, h5, h6, -, -⟩ := Cond.code_spec hn (atoms_spec (ws := Cond.code y cc maxL (some .int) :: w_all) h _ List.mem_cons_self)
    exact ⟨meth, c, h1, h2, h3, h4, h5, h6⟩
  intro p e s m args below meth c s₁ B hml hv htr
  obtain ⟨rfl, ⟨hsz, hP, hK, hD0, hE⟩, hT⟩ := hv
  have hx := B.exec
  have hb := B.bytes
  have hr := B.returns
  have hts0 := atoms_spec (ws := Cond.code y cc maxL (some .int) :: w_all) B.pre
  have hown : s.vm.findClass "ReadMapper" = some m.cls := by rw [← hy]; exact findClass_of_methodNamed B.named
  have hlocks := B.notSynchronized
  have X0 : Stand p l e (rm_t d) s m av.toArray below meth c s₁ [] 0 0 := Stand.of_body B
  have hh0 : s₁.heap = s.heap := by rw [B.state]; rfl
  obtain ⟨meth', c', q1, q2, -, -, -, -, hne, -⟩ := Cond.code_spec B.named (hts0 _ List.mem_cons_self)
  cases X0.method.symm.trans q1
  cases X0.code.symm.trans q2
  subst hsz
  have hl := lv_entry av (n := maxL) hlen
  have key : W p l e (rm_t d) s m av.toArray below meth c s.heap [] 0 0 (fun t => ∃ o, t.status = .running ∧ Ended t below o ∧ ck_QT D cA w s.heap.size post w' av.toArray s o t) (entryFrame m av.toArray maxL) := by
    rw [lg_entry_eq]
    generalize (lg_sl av ++ List.replicate (maxL - (lg_sl av).length) Slot.unset).toArray = ls at hl ⊢
    refine body p e s m _ below meth c _ (va_A w s.heap.size) s.heap [] ls hx hb hml hown (fun x h => hts0 x (List.mem_cons_of_mem _ h)) hK hE (fun q h => Or.inr h) hP (hD0.self) va_S.rf hl ?_ ?_
    · intro r u H locs ls pc hdg hq hP hD hS
      intro T hTH X
      obtain ⟨t, a1, o, b1, b2, ⟨b3, b3'⟩, L, b4, b5⟩ := W.zret (Qc := va_Qi (fun r' u' => r' = r ∧ post none r u') (fun u t => ck_B D cA w s.heap.size (w' u) t) (va_A w s.heap.size)) (free := va_A w s.heap.size) (v := r) hx hb hr rfl (fun t ht hW => ⟨⟨r, u, rfl, ⟨rfl, hq⟩, by rw [ht]; exact hP, va_K.moved hW.alike hK, hD⟩, hS.F ht⟩) hS.2.2 hdg hlocks T hTH X
      obtain ⟨r', u', e1, ⟨e2, hq'⟩, hB⟩ := b3
      subst e2
      exact ⟨t, a1, o, b1, b2, Or.inl ⟨r', u', e1, hq', hB, b3', L, b4, b5⟩⟩
    · intro cls i0 ic hc u H locs ls pc d0 d1 d2 d3 hq hP hD hS hsz
      refine th_go hc hx hb htr hown (fun x h => hts0 x (List.mem_cons_of_mem _ h)) hT hS hne hlocks (hsz.trans hml.symm) (by show 6 ≤ d; exact hd) (by show 100 ≤ 32 * d; omega) (by show 0 + 1 ≤ 1; omega) (by show 0 + 6 ≤ 6; omega) d0 d1 d2 d3 ?_
      intro t cell hrun hend hW hsame hk hcell hst hfc
      refine ⟨.threw H.size, hrun, hend, Or.inr ⟨H.size, cls, u, cell, rfl, hq, ⟨?_, va_K.moved hW.alike hK, hD⟩, ⟨?_, ?_⟩, hcell, hst, hfc, locs, hW, hsame, hS.2.2⟩⟩
      · exact hP.kept (fun k q hkq => hk q.1 (hP k q hkq).lt)
      · exact Nat.le_trans hS.1 (Nat.le_of_lt (Array.getElem?_eq_some_iff.mp hcell).1)
      · intro q h1 h2
        rw [hk q (Nat.lt_of_lt_of_le h1 hS.1)]
        exact hS.2.1 q h1 h2
  obtain ⟨t, a1, o, b1, b2, b3⟩ := key s₁ hh0 X0
  exact ⟨t, o, a1, b1, b2, b3⟩
