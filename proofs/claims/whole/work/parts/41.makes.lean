/-! methods that make cells: constructors -/
abbrev rm_n (d mc ms : Nat) : Room := { frames := d, cells := mc, slots := ms, locals := 32 * d }
def ck_PN (D : va_G) (cA : Nat → ClassId) (K : Nat → Nat) (w : va_W) (sz : Nat) (U : State) : Prop := ck_P D cA K w sz U ∧ va_AO "ReadMapper$Codes" U
def ck_N (l : Launch) (y : MethodName) (ws : List Cond) (d mc ms : Nat) (D : va_G) (cA : Nat → ClassId) (K : Nat → Nat) (av : List Value) (w : va_W) {S : Type} (post : S → Prop) (w' : S → va_W) : Prop :=
  ∀ sz : Nat, Met l y ws (rm_n d mc ms) (va_Pc av (ck_PN D cA K w sz)) (va_Qv post (fun u t => ck_B D cA w sz (w' u) t) (va_A w sz)) mc ms (va_A w sz)
def ck_bN (l : Launch) (cc : ByteArray) (y : MethodName) (d mc ms maxL : Nat) (D : va_G) (cA : Nat → ClassId) (K : Nat → Nat) (av : List Value) (w : va_W) {S : Type} (post : S → Prop) (w' : S → va_W) : Prop :=
  ∀ (p : Program) (e : Env) (s : State) (m : MethodId) (args : Array Value) (below : List Frame) (meth : Method) (c : Code) (Q : State → Prop) (A : Nat → Prop) (H : Heap) (locs : List Loc) (ls : Array Slot),
    p.tables.exec = Jvm.exec → c.code = cc → c.maxLocals = maxL → s.vm.findClass y.cls = some m.cls → (∀ x ∈ w_all, x.before args s = true) → va_K D vwCl (ty_s cA) s → en_v K A s s.heap → (∀ q, s.heap.size ≤ q → A q) → meth.name = "<init>" → va_AO "ReadMapper$Codes" s →
    va_P D vwCl w H → va_D A w → va_S A s.heap H locs → lv_has ls maxL (lv_args 0 av) →
    (∀ (u : S) (H : Heap) (locs : List Loc) (ls : Array Slot) (pc : Nat), decode cc pc = .ok (.return_, 1) → post u → va_P D vwCl (w' u) H → va_D A (w' u) → va_S A s.heap H locs → W p l e (rm_n d mc ms) s m args below meth c H locs mc ms Q (F0 m pc ls [])) →
    W p l e (rm_n d mc ms) s m args below meth c H locs 0 0 Q (F0 m 0 ls [])
theorem ck_mkN {l : Launch} {cc : ByteArray} {y : MethodName} {d mc ms maxL : Nat} {D : va_G} {cA : Nat → ClassId} {K : Nat → Nat} {av : List Value} {w : va_W} {S : Type} {post : S → Prop} {w' : S → va_W} (hy : plainName y.cls = true) (hi : y.name = "<init>") (hlen : (lg_sl av).length ≤ maxL)
    (body : ck_bN l cc y d mc ms maxL D cA K av w post w') : ck_N l y (Cond.code y cc maxL none :: w_all) d mc ms D cA K av w post w' := by
  intro sz
  refine Met.ofW (cc := cc) (maxL := maxL) (ret := none) hy rfl ?_
  intro p e s m args below meth c s₁ B hml hv
  obtain ⟨rfl, ⟨hsz, hP, hK, hD0, hE⟩, hao⟩ := hv
  have hx := B.exec
  have hb := B.bytes
  have hr := B.returns
  have hts0 := atoms_spec (ws := Cond.code y cc maxL none :: w_all) B.pre
  have hown : s.vm.findClass y.cls = some m.cls := findClass_of_methodNamed B.named
  have hlocks := B.notSynchronized
  have hin : meth.name = "<init>" := by rw [← hi]; exact (name_of_methodNamed B.named B.method).1
  subst hsz
  have hl := lv_entry av (n := maxL) hlen
  rw [lg_entry_eq]
  generalize (lg_sl av ++ List.replicate (maxL - (lg_sl av).length) Slot.unset).toArray = ls at hl ⊢
  refine body p e s m _ below meth c _ (va_A w s.heap.size) s.heap [] ls hx hb hml hown (fun x h => hts0 x (List.mem_cons_of_mem _ h)) hK hE (fun q h => Or.inr h) hin hao hP (hD0.self) va_S.rf hl ?_
  intro u H locs ls pc hd hq hP hD hS
  exact W.vret hx hb hr (fun t ht hW => ⟨⟨u, rfl, hq, by rw [ht]; exact hP, va_K.moved hW.alike hK, hD⟩, hS.F ht⟩) hS.2.2 hd
theorem ck_blN {D : va_G} {cA : Nat → ClassId} {K : Nat → Nat} {av : List Value} {w : va_W} {sz : Nat} : FrameBlind (va_Pc av (ck_PN D cA K w sz)) := fun a U g mk q => by
  obtain ⟨q0, ⟨q1, qP, qK, qD, qE⟩, qo⟩ := q
  exact ⟨q0, ⟨q1, qP, va_K.moved (u := U) (U := U.calling g mk a) (Vm.Alike.refl U.vm) qK, qD, en_v.moved (s := U) (U := U.calling g mk a) (State.WarmedH.refl U) qE⟩, va_AO.moved (u := U) (U := U.calling g mk a) (Vm.Alike.refl U.vm) qo⟩
section CKN
variable {p : Program} {l : Launch} {e : Env} {R : Room} {s : State} {m : MethodId} {args : Array Value} {below : List Frame} {meth : Method} {c : Code} {H : Heap} {locs : List Loc} {cells slots : Nat} {Q : State → Prop}
variable {D : va_G} {cA : Nat → ClassId} {K : Nat → Nat} {A : Nat → Prop} {ws wc wr : va_W} {pc : Nat} {ls : Array Slot} {rest st0 As : List Value} {S : Type} {w' ws2 : S → va_W} {d' mc ms nL maxL n index b : Nat} {cc bytes : ByteArray} {own : String} {y : MethodName}
theorem ck_goN {post : S → Prop} {a : Array Value} (hr : va_Run p l e R s m args below meth c H locs cells slots mc ms (F0 m pc ls st0) rest (va_Qv post (fun u t => ck_B D cA wc H.size (w' u) t) (va_A wc H.size) a) (va_A wc H.size))
    (hA : ∀ q, s.heap.size ≤ q → A q) (hP : va_P D vwCl ws H) (hD : va_D A ws) (hS : va_S A s.heap H locs)
    (isC isR ps : List Nat) (hC : isC.map (fun i => ws[i]?) = wc.map some) (hR : isR.map (fun i => ws[i]?) = wr.map some) (hn : va_nd isR = true) (hdis : ∀ i ∈ isR, i ∉ isC) (hps : va_nd ps = true) (hw2 : ∀ u, ps.map (fun i => (wr ++ w' u)[i]?) = (ws2 u).map some)
    (kk : ∀ (u : S) (H1 : Heap) (locs1 : List Loc), post u → va_P D vwCl (ws2 u) H1 → va_D A (ws2 u) → va_S A s.heap H1 locs1 → W p l e R s m args below meth c H1 locs1 (cells + mc) (slots + ms) Q (F0 m (pc + 3) ls rest)) : W p l e R s m args below meth c H locs cells slots Q (F0 m pc ls st0) := by
  have hF := va_free hD hS hA isC hC
  refine va_callv hr hS (fun q _ h => hF q h) hF (fun u t H1 locs1 ht hvm hq hB hz hk hS1 => ?_)
  obtain ⟨hP1, hK1, hD1⟩ := hB
  rw [ht] at hP1
  obtain ⟨hP2, hD2⟩ := va_join hP hD isC isR hC hR hn hdis hk hF hP1 hD1
  exact kk u H1 locs1 hq (hP2.sub ps (ck_fm (hw2 u))) (hD2.sub ps hps (hw2 u)) hS1
/-- what the tables say of a constructor -/
def cf_N (y : MethodName) (bytes : ByteArray) (maxL n : Nat) : Prop := (Cond.instanceMethod y ∈ w_all ∧ Cond.initialized y.cls ∈ w_all ∧ Cond.code y bytes maxL none ∈ w_all) ∧ y.name = "<init>" ∧ (y.cls ≠ "java/lang/invoke/MethodHandle" ∧ y.cls ≠ "java/lang/invoke/VarHandle" ∧ (parseMethodDescriptor y.desc).map (fun d => d.parameters.length) = some n)
/-- the call of a constructor -/
theorem cg_cN {post : S → Prop} (hM : ck_N l y (Cond.code y bytes maxL none :: w_all) d' mc ms D cA K (.ref b :: As) wc post w') (hx : p.tables.exec = Jvm.exec) (hb : c.code = cc) (hml : c.maxLocals = nL) (hown : s.vm.findClass own = some m.cls) (hts : ∀ w ∈ w_all, w.before args s = true) (hK : va_K D vwCl (ty_s cA) s) (hE : en_v K A s s.heap) (hA : ∀ q, s.heap.size ≤ q → A q) (hao : va_AO "ReadMapper$Codes" s) (hP : va_P D vwCl ws H) (hD : va_D A ws) (hS : va_S A s.heap H locs)
    (hf : cf_N y bytes maxL n) (hlk : Cond.methodLink own index y ∈ w_all) (hR : d' + 1 ≤ R.frames ∧ 8 + (maxL + 11) + 32 * d' ≤ R.locals) (hRc : cells + mc ≤ R.cells ∧ slots + ms ≤ R.slots) (hn : As.length = n) (hsize : ls.size = nL) (hst : st0 = As.reverse ++ .ref b :: rest) (hroom : (rest.map fun v => v.category).sum ≤ 8) (hdg : decode cc pc = .ok (.invokespecial index, 3))
    (isC isR ps : List Nat) (hC : isC.map (fun i => ws[i]?) = wc.map some) (hCR : isR.map (fun i => ws[i]?) = wr.map some) (hnd : va_nd isC = true ∧ va_nd isR = true ∧ va_nd ps = true ∧ ∀ i ∈ isR, i ∉ isC) (hw2 : ∀ u, ps.map (fun i => (wr ++ w' u)[i]?) = (ws2 u).map some)
    (kk : ∀ (u : S) (H1 : Heap) (locs1 : List Loc), post u → va_P D vwCl (ws2 u) H1 → va_D A (ws2 u) → va_S A s.heap H1 locs1 → W p l e R s m args below meth c H1 locs1 (cells + mc) (slots + ms) Q (F0 m (pc + 3) ls rest)) : W p l e R s m args below meth c H locs cells slots Q (F0 m pc ls st0) := by
  obtain ⟨⟨f1, f2, f3⟩, f4, f6⟩ := hf
  have hpre : ∀ U : State, U.heap = H → s.WarmedH U.vm → va_Pc (.ref b :: As) (ck_PN D cA K wc H.size) (Value.ref b :: As).toArray U := fun U hU hW => by
    have h := ck_at (av := .ref b :: As) hK hE hA hP hD hS isC hC hnd.1 U hU hW
    exact ⟨h.1, h.2, va_AO.moved hW.alike hao⟩
  exact ck_goN (va_runI (As := As) (rest := rest) ⟨hx, hb, hml, hown, hts⟩ (hM H.size) ⟨callB_of n hts (gd_c f3) rfl rfl rfl (hts _ f2) (hts _ hlk) f6 hR, f4, hts _ f1⟩ ⟨ck_blN, hpre⟩ rfl hn hsize hst (lv_room hroom) hdg hRc) hA hP hD hS isC isR ps hC hCR hnd.2.1 hnd.2.2.2 hnd.2.2.1 hw2 kk
/-- the call of a nest mate's private constructor -/
theorem cg_cNN {host : String} {post : S → Prop} (hM : ck_N l y (Cond.code y bytes maxL none :: w_all) d' mc ms D cA K (.ref b :: As) wc post w') (hx : p.tables.exec = Jvm.exec) (hb : c.code = cc) (hml : c.maxLocals = nL) (hown : s.vm.findClass own = some m.cls) (hts : ∀ w ∈ w_all, w.before args s = true) (hK : va_K D vwCl (ty_s cA) s) (hE : en_v K A s s.heap) (hA : ∀ q, s.heap.size ≤ q → A q) (hao : va_AO "ReadMapper$Codes" s) (hP : va_P D vwCl ws H) (hD : va_D A ws) (hS : va_S A s.heap H locs)
    (hf : cf_N y bytes maxL n) (hlk : Cond.methodLinkNest own index y host ∈ n_all) (hR : d' + 1 ≤ R.frames ∧ 8 + (maxL + 11) + 32 * d' ≤ R.locals) (hRc : cells + mc ≤ R.cells ∧ slots + ms ≤ R.slots) (hn : As.length = n) (hsize : ls.size = nL) (hst : st0 = As.reverse ++ .ref b :: rest) (hroom : (rest.map fun v => v.category).sum ≤ 8) (hdg : decode cc pc = .ok (.invokespecial index, 3))
    (isC isR ps : List Nat) (hC : isC.map (fun i => ws[i]?) = wc.map some) (hCR : isR.map (fun i => ws[i]?) = wr.map some) (hnd : va_nd isC = true ∧ va_nd isR = true ∧ va_nd ps = true ∧ ∀ i ∈ isR, i ∉ isC) (hw2 : ∀ u, ps.map (fun i => (wr ++ w' u)[i]?) = (ws2 u).map some)
    (kk : ∀ (u : S) (H1 : Heap) (locs1 : List Loc), post u → va_P D vwCl (ws2 u) H1 → va_D A (ws2 u) → va_S A s.heap H1 locs1 → W p l e R s m args below meth c H1 locs1 (cells + mc) (slots + ms) Q (F0 m (pc + 3) ls rest)) : W p l e R s m args below meth c H locs cells slots Q (F0 m pc ls st0) := by
  obtain ⟨⟨f1, f2, f3⟩, f4, f6⟩ := hf
  have hpre : ∀ U : State, U.heap = H → s.WarmedH U.vm → va_Pc (.ref b :: As) (ck_PN D cA K wc H.size) (Value.ref b :: As).toArray U := fun U hU hW => by
    have h := ck_at (av := .ref b :: As) hK hE hA hP hD hS isC hC hnd.1 U hU hW
    exact ⟨h.1, h.2, va_AO.moved hW.alike hao⟩
  exact ck_goN (va_runIN (As := As) (rest := rest) ⟨hx, hb, hml, hown, hts⟩ (hM H.size) ⟨va_cnB n hts (gd_c f3) rfl rfl rfl (hE.1 _ hlk) (hts _ f2) f6 hR, f4, hts _ f1⟩ ⟨ck_blN, hpre⟩ rfl hn hsize hst (lv_room hroom) hdg hRc) hA hP hD hS isC isR ps hC hCR hnd.2.1 hnd.2.2.2 hnd.2.2.1 hw2 kk
/-- arrays are of the classes that cA names -/
theorem nw_i (hx : p.tables.exec = Jvm.exec) (hb : c.code = cc) (hts : ∀ w ∈ w_all, w.before args s = true) (hw : Cond.arrayClass .int ∈ w_all) (hK : va_K D vwCl (ty_s cA) s) (hP : va_P D vwCl ws H) (hD : va_D A ws) (hS : va_S A s.heap H locs) (hA : ∀ q, s.heap.size ≤ q → A q) {N' : Nat} (hN : N' ≤ 1000) (hRc : cells + 1 ≤ R.cells ∧ slots + N' ≤ R.slots) (hdg : decode cc pc = .ok (.newarray .int, 2))
    (kk : ∀ (q : Nat) (H1 : Heap), va_P D vwCl (ws ++ [(q, .inl (cA 0, N', .inl (fun _ => 0)))]) H1 → va_D A (ws ++ [(q, .inl (cA 0, N', .inl (fun _ => 0)))]) → va_S A s.heap H1 locs → W p l e R s m args below meth c H1 locs (cells + 1) (slots + N') Q (F0 m (pc + 2) ls (.ref q :: rest))) : W p l e R s m args below meth c H locs cells slots Q (F0 m pc ls (.int (nI N') :: rest)) := by
  refine va_newa (atype := .int) (ty := .int) (a0 := (N', .inl (fun _ => 0))) hx hb (hts _ hw) rfl hK hP hD hS hA (fun _ => rfl) (nI_pos (by omega)) (nI_clamp (by omega)) (by show N' * 4 ≤ _; omega) hRc.1 hRc.2 hdg (fun q cB H1 hK1 hP1 hD1 hS1 => ?_)
  have e1 : s.vm.findClass ("[" ++ FieldType.int.toString) = some cB := (hK1.2 4 (cB, .int) rfl).2
  have e2 : s.vm.findClass ("[" ++ FieldType.int.toString) = some (cA 0) := (hK.2 0 (cA 0, .int) rfl).2
  have e3 : cB = cA 0 := Option.some.inj (e1.symm.trans e2)
  subst e3
  exact kk q H1 hP1 hD1 hS1
theorem nw_c (hx : p.tables.exec = Jvm.exec) (hb : c.code = cc) (hts : ∀ w ∈ w_all, w.before args s = true) (hw : Cond.arrayClass .char ∈ w_all) (hK : va_K D vwCl (ty_s cA) s) (hP : va_P D vwCl ws H) (hD : va_D A ws) (hS : va_S A s.heap H locs) (hA : ∀ q, s.heap.size ≤ q → A q) {N' : Nat} (hN : N' ≤ 1000) (hRc : cells + 1 ≤ R.cells ∧ slots + N' ≤ R.slots) (hdg : decode cc pc = .ok (.newarray .char, 2))
    (kk : ∀ (q : Nat) (H1 : Heap), va_P D vwCl (ws ++ [(q, .inl (cA 1, N', .inl (fun _ => 0)))]) H1 → va_D A (ws ++ [(q, .inl (cA 1, N', .inl (fun _ => 0)))]) → va_S A s.heap H1 locs → W p l e R s m args below meth c H1 locs (cells + 1) (slots + N') Q (F0 m (pc + 2) ls (.ref q :: rest))) : W p l e R s m args below meth c H locs cells slots Q (F0 m pc ls (.int (nI N') :: rest)) := by
  refine va_newa (atype := .char) (ty := .char) (a0 := (N', .inl (fun _ => 0))) hx hb (hts _ hw) rfl hK hP hD hS hA (fun _ => rfl) (nI_pos (by omega)) (nI_clamp (by omega)) (by show N' * 2 ≤ _; omega) hRc.1 hRc.2 hdg (fun q cB H1 hK1 hP1 hD1 hS1 => ?_)
  have e1 : s.vm.findClass ("[" ++ FieldType.char.toString) = some cB := (hK1.2 4 (cB, .char) rfl).2
  have e2 : s.vm.findClass ("[" ++ FieldType.char.toString) = some (cA 1) := (hK.2 1 (cA 1, .char) rfl).2
  have e3 : cB = cA 1 := Option.some.inj (e1.symm.trans e2)
  subst e3
  exact kk q H1 hP1 hD1 hS1
theorem nw_q (hx : p.tables.exec = Jvm.exec) (hb : c.code = cc) (hown : s.vm.findClass own = some m.cls) (hts : ∀ w ∈ w_all, w.before args s = true) (hcl : Cond.classLink own index "ReadMapper$Codes" ∈ w_all) (hao : va_AO "ReadMapper$Codes" s) (hK : va_K D vwCl (ty_s cA) s) (hP : va_P D vwCl ws H) (hD : va_D A ws) (hS : va_S A s.heap H locs) (hA : ∀ q, s.heap.size ≤ q → A q) {N' : Nat} (hN : N' ≤ 1000) (hRc : cells + 1 ≤ R.cells ∧ slots + N' ≤ R.slots) (hdg : decode cc pc = .ok (.anewarray index, 3))
    (kk : ∀ (q : Nat) (H1 : Heap), va_P D vwCl (ws ++ [(q, .inl (cA 3, N', .inr (.inr (.inr (.inr (fun _ => none))))))]) H1 → va_D A (ws ++ [(q, .inl (cA 3, N', .inr (.inr (.inr (.inr (fun _ => none))))))]) → va_S A s.heap H1 locs → W p l e R s m args below meth c H1 locs (cells + 1) (slots + N') Q (F0 m (pc + 3) ls (.ref q :: rest))) : W p l e R s m args below meth c H locs cells slots Q (F0 m pc ls (.int (nI N') :: rest)) := by
  refine va_newq hx hb hown (hts _ hcl) hao hK hP hD hS hA (nI_pos (by omega)) (nI_clamp (by omega)) (by omega) hRc.1 hRc.2 hdg (fun q cB H1 hK1 hP1 hD1 hS1 => ?_)
  obtain ⟨-, -, -, -, -, e1⟩ := (hK1.2 4 (cB, .object "ReadMapper$Codes") rfl).2
  obtain ⟨-, -, -, -, -, e2⟩ := (hK.2 3 (cA 3, .object "ReadMapper$Codes") rfl).2
  have e3 : cB = cA 3 := Option.some.inj (e1.symm.trans e2)
  subst e3
  exact kk q H1 hP1 hD1 hS1
end CKN
