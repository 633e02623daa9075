/-! the call of a method that may throw -/
section IV1
variable {p : Program} {l : Launch} {e : Env} {R : Room} {s : State} {m : MethodId} {args : Array Value} {below : List Frame} {meth : Method} {c : Code} {T : State} {locs : List Loc} {cells slots : Nat} {y : MethodName}
/-- a free contract at a stand: the callee ends, one way or the other -/
theorem iv_out {S : Spec} {P : Array Value → State → Prop} {K : Program → Env → List Frame → State → Array Value → Prop} {Qc : Array Value → State → Outcome → State → Prop} (hM : MetFree l y S P K Qc) (X : Stand p l e R s m args below meth c T locs cells slots) {g : JFrame} (hg : g.method = m) (hsize : g.locals.size = c.maxLocals) {ig : Instr} {len : Nat} (hdg : decode c.code g.pc = .ok (ig, len)) {mk : MethodId} (hn : T.methodNamed? y = some mk) {a : Array Value} {methY : Method} {cY : Code} (hmY : T.vm.method? mk = some methY) (hcY : methY.code = some cY) (hini : (Cond.initialized y.cls).before a T = true)
    (hframes : S.room.frames + 1 ≤ R.frames) (hlocals : 2 * g.monitorRoom + (g.stack.map fun v => v.category).sum + (cY.maxLocals + 11) + S.room.locals ≤ R.locals) (hcells : cells + S.room.cells ≤ R.cells) (hslots : slots + S.room.slots ≤ R.slots) (hpre : S.pre.before a T = true) (hP : P a (T.calling g mk a)) (hK : K p e (T.setTop g).frames (T.calling g mk a) a) :
    ∃ o t, Steps p.tables e below (doInvoke e (T.setTop g) [] mk a).1 t ∧ Ended t (.java g :: below) o ∧ Qc a (T.calling g mk a) o t := by
  obtain ⟨kY, hkY, -⟩ := className_of_methodNamed hn
  have hinitY : kY.init = .initialized := Cond.initialized_spec (findClass_of_methodNamed hn) hkY hini
  have h : At T g.method c below := by rw [hg]; exact X.here
  have happ : S.appliesLoose y e.platform (T.calling g mk a) = true := Spec.appliesLoose_calling (g := g) h hdg hn hkY hinitY (X.room_calling (g := g) (R' := S.room) hsize hmY hcY hframes hlocals hcells hslots) hpre
  have hfr : (T.setTop g).frames = [.java g] ++ below := by rw [State.frames_setTop' g h.top, X.tail]; rfl
  obtain ⟨o, t, h1, -, h2, h3⟩ := Steps.callFree hM p X.admits X.cas X.clock (acts := []) hfr happ hP hK
  rw [hfr] at h2
  exact ⟨o, t, h1, h2, h3⟩
end IV1
theorem ck_blT {D : va_G} {cA : Nat → ClassId} {K : Nat → Nat} {av : List Value} {w : va_W} {sz : Nat} : FrameBlind (va_Pc av (ck_PT D cA K w sz)) := fun a U g mk q => by
  obtain ⟨q0, ⟨q1, qP, qK, qD, qE⟩, qT⟩ := q
  exact ⟨q0, ⟨q1, qP, va_K.moved (u := U) (U := U.calling g mk a) (Vm.Alike.refl U.vm) qK, qD, en_v.moved (s := U) (U := U.calling g mk a) (State.WarmedH.refl U) qE⟩, th_v.moved (u := U) (U := U.calling g mk a) (Vm.Alike.refl U.vm) qT⟩
section IV2
variable {p : Program} {l : Launch} {e : Env} {R : Room} {s : State} {m : MethodId} {args : Array Value} {below : List Frame} {meth : Method} {c : Code} {H : Heap} {locs : List Loc} {cells slots : Nat} {Q : State → Prop}
variable {D : va_G} {cA : Nat → ClassId} {K : Nat → Nat} {A : Nat → Prop} {ws wc wr : va_W} {pc : Nat} {ls : Array Slot} {rest st0 As : List Value} {S : Type} {w' ws2 : S → va_W} {d' nL maxL n index b : Nat} {cc bytes : ByteArray} {own C : String} {y : MethodName} {ci q0 : Nat} {fs : List Value} {TT : u_T} {N : Nat}
theorem ct_cV {post : Option String → Int32 → S → Prop} (hM : ck_T l y (Cond.code y bytes maxL (some .int) :: w_all) d' D cA K (.ref b :: As) wc post w') (hx : p.tables.exec = Jvm.exec) (hb : c.code = cc) (hml : c.maxLocals = nL) (hown : s.vm.findClass own = some m.cls) (hts : ∀ w ∈ w_all, w.before args s = true) (hK : va_K D vwCl (ty_s cA) s) (hE : en_v K A s s.heap) (hA : ∀ q, s.heap.size ≤ q → A q) (htr : e.platform.stackTraces = false) (hth : th_v A s s.heap) (hP : va_P D vwCl ws H) (hD : va_D A ws) (hS : va_S A s.heap H locs)
    (hf : cf_V y bytes maxL (some .int) C n) (hlk : Cond.methodLink own index y ∈ w_all) (hR : d' + 1 ≤ R.frames ∧ 8 + (maxL + 11) + 32 * d' ≤ R.locals) (hRc : cells + 1 ≤ R.cells ∧ slots + 6 ≤ R.slots) (q0 : Nat) (hc : vwCl[ci]? = some (C, TT, N)) (he : ws[q0]? = some (b, .inr (ci, fs))) (hn : As.length = n) (hsize : ls.size = nL) (hst : st0 = As.reverse ++ .ref b :: rest) (hroom : (rest.map fun v => v.category).sum ≤ 8) (hdg : decode cc pc = .ok (.invokevirtual index, 3))
    (isC isR ps : List Nat) (hC : isC.map (fun i => ws[i]?) = wc.map some) (hCR : isR.map (fun i => ws[i]?) = wr.map some) (hnd : va_nd isC = true ∧ va_nd isR = true ∧ va_nd ps = true ∧ ∀ i ∈ isR, i ∉ isC) (hw2 : ∀ u, ps.map (fun i => (wr ++ w' u)[i]?) = (ws2 u).map some)
    (kr : ∀ (r : Int32) (u : S) (H1 : Heap) (locs1 : List Loc), post none r u → va_P D vwCl (ws2 u) H1 → va_D A (ws2 u) → va_S A s.heap H1 locs1 → W p l e R s m args below meth c H1 locs1 cells slots Q (F0 m (pc + 3) ls (.int r :: rest)))
    (kt : ∀ (x : Addr) (cls : String) (u : S) (cell : Cell) (H1 : Heap) (locs1 : List Loc), post (some cls) 0 u → va_P D vwCl (ws2 u) H1 → va_D A (ws2 u) → va_S A s.heap H1 locs1 → H1[x]? = some cell → cell.vm.isStatics = false → s.vm.findClass cls = some cell.cls → ∀ T' : State, T'.heap = H1 → Stand p l e R s m args below meth c T' locs1 (cells + 1) (slots + 6) → ∃ t, Steps p.tables e below ((T'.setTop (F0 m pc ls rest)).pushFrame (.throwing x)) t ∧ Q t) : W p l e R s m args below meth c H locs cells slots Q (F0 m pc ls st0) := by
  obtain ⟨⟨f1, f2, f3, f4⟩, f5, f6⟩ := hf
  subst f5
  intro T hTH X
  obtain ⟨cellB, hcell, hobj, hcls⟩ := va_recv hK hP hc he
  obtain ⟨mk, methM, hnamed, hmethM, hstM, habM⟩ := Cond.instanceMethod_spec (hts _ f1)
  obtain ⟨methM', cM, hmethM', hcM, -, hlM, -, -, -, hsigM⟩ := Cond.code_spec hnamed (hts _ f4)
  cases hmethM.symm.trans hmethM'
  obtain ⟨c2, r2, m2, q1, q2, q3, q4, kP, hkP, hkPi⟩ := Cond.selects_spec (hts _ f2)
  cases hcls.symm.trans q1
  cases (State.methodFound?_of_named hnamed ⟨f6.1, f6.2.1⟩).symm.trans q2
  cases hnamed.symm.trans q3
  have hselP : selectMethod e.platform s.vm cellB.cls mk = .method mk := by rw [Launch.admits_selectMethod X.admits]; exact q4
  have hlen : As.length = methM.sig.parameters.length := by
    have h2 := f6.2.2
    rw [hsigM] at h2
    exact hn.trans (Option.some.inj h2).symm
  obtain ⟨vm₁, X₁, hstep⟩ := X.invokevirtual hx hown (hts _ hlk) hnamed hmethM hstM hkP hkPi ⟨f6.1, f6.2.1⟩ (a := b) (cell := cellB) (by rw [hTH]; exact hcell) (fun z h => by rw [h] at hobj; cases hobj) hselP hmethM habM hkP hkPi (g := F0 m pc ls st0) rfl (argsL := As) (rest := rest) hlen hst (by rw [hb]; exact hdg)
  have hF := va_free hD hS hA isC hC
  have hPT : va_Pc (.ref b :: As) (ck_PT D cA K wc H.size) (Value.ref b :: As).toArray (T.setVm vm₁) := by
    have h := ck_at (av := .ref b :: As) hK hE hA hP hD hS isC hC hnd.1 (T.setVm vm₁) hTH X₁.warmed
    refine ⟨h.1, h.2, ?_⟩
    have h9 := ((hth.kept hS.2.1).narrow hF).moved (U := T.setVm vm₁) X₁.warmed.alike
    show th_v (va_A wc H.size) (T.setVm vm₁) T.heap
    rw [hTH]; exact h9
  have hal := X₁.warmed.alike
  have hwd : ∀ w ∈ (Cond.code y bytes maxL (some .int) :: w_all), w.before (Value.ref b :: As).toArray (T.setVm vm₁) = true := fun w hw => by
    have h4 : w ∈ w_all := by
      rcases List.mem_cons.mp hw with h | h
      · rw [h]; exact f4
      · exact h
    exact word_at X₁.warmed (good_of_word (List.mem_filter.mp h4).2) (hts _ h4)
  obtain ⟨o, t, st, hend, hq⟩ := iv_out (hM H.size) X₁ (g := F0 m pc ls rest) rfl (hsize.trans hml.symm) (by rw [hb]; exact hdg) (X₁.named hnamed) (a := (Value.ref b :: As).toArray) (methY := methM) (cY := cM) (by rw [hal.method?]; exact hmethM) hcM (word_at X₁.warmed (Or.inl rfl) (hts _ f3))
    (by show d' + 1 ≤ R.frames; exact hR.1) (by rw [hlM]; show 2 * 0 + (rest.map fun v => v.category).sum + (maxL + 11) + 32 * d' ≤ R.locals; omega) (by show cells + 1 ≤ R.cells; exact hRc.1) (by show slots + 6 ≤ R.slots; exact hRc.2) (atoms_intro hwd) (ck_blT _ _ _ _ hPT) htr
  have hgo : Steps p.tables e below (T.setTop (F0 m pc ls st0)) t := hstep _ fun acts => by rw [doInvoke_state]; exact st
  have hh0 : ((T.setVm vm₁).calling (F0 m pc ls rest) mk (Value.ref b :: As).toArray).heap = H := hTH
  have joinS : ∀ (H1 : Heap) (L : List Loc), H.size ≤ H1.size → (∀ q : Nat, q < H.size → ¬ va_A wc H.size q → H1[q]? = H[q]?) → (∀ q ∈ L, va_A wc H.size q.base) → va_S A s.heap H1 (locs ++ L) := fun H1 L hz hk hL => ⟨Nat.le_trans hS.1 hz, fun q h1 h2 => by rw [hk q (Nat.lt_of_lt_of_le h1 hS.1) (fun z => h2 (hF q z))]; exact hS.2.1 q h1 h2, fun q hq => by
    rcases List.mem_append.mp hq with h | h
    · exact hS.2.2 q h
    · exact hF _ (hL q h)⟩
  rcases hq with ⟨r, u, e1, hp, ⟨hP1, hK1, hD1⟩, ⟨hz, hk⟩, L, ⟨-, hW, hsame⟩, hL⟩ | ⟨x, cls, u, cell, e1, hp, ⟨hP1, hK1, hD1⟩, ⟨hz, hk⟩, hce, hob, hfc, L, hW, hsame, hL⟩
  · subst e1
    rw [hh0] at hz hk
    obtain ⟨hP2, hD2⟩ := va_join hP hD isC isR hC hCR hnd.2.1 hnd.2.2.2 hk hF hP1 hD1
    obtain ⟨T', X', -, -, e2⟩ := X₁.outOf (g := F0 m pc ls rest) rfl (by rw [hb]; exact hdg) hend hW hsame
    have hT' : T'.heap = t.heap := by rw [e2]; rfl
    obtain ⟨t2, a1, b1⟩ := kr r u t.heap (locs ++ L) hp (hP2.sub ps (ck_fm (hw2 u))) (hD2.sub ps hnd.2.2.1 (hw2 u)) (joinS _ L hz hk hL) T' hT' X'
    refine ⟨t2, hgo.trans ?_, b1⟩
    rw [e2]
    exact a1
  · subst e1
    rw [hh0] at hz hk
    obtain ⟨hP2, hD2⟩ := va_join hP hD isC isR hC hCR hnd.2.1 hnd.2.2.2 hk hF hP1 hD1
    obtain ⟨T', X', -, -, e2⟩ := X₁.outOfThrown (g := F0 m pc ls rest) rfl hend hW hsame
    have hT' : T'.heap = t.heap := by rw [e2]; rfl
    have hfc' : s.vm.findClass cls = some cell.cls := by rw [← hal.findClass]; exact hfc
    obtain ⟨t2, a1, b1⟩ := kt x cls u cell t.heap (locs ++ L) hp (hP2.sub ps (ck_fm (hw2 u))) (hD2.sub ps hnd.2.2.1 (hw2 u)) (joinS _ L hz hk hL) hce hob hfc' T' hT' X'
    refine ⟨t2, hgo.trans ?_, b1⟩
    rw [e2]
    exact a1
end IV2
