/-! calls by contract: the callee's cells are cut out of the world and put back -/
theorem ck_fm {α : Type} {f : Nat → Option α} {is : List Nat} {w : List α} (h : is.map f = w.map some) : is.filterMap f = w := by
  have h1 : is.filterMap f = (is.map f).filterMap id := by rw [List.filterMap_map]; rfl
  rw [h1, h, List.filterMap_map]
  show List.filterMap some w = w
  exact List.filterMap_some
theorem ck_bl {D : va_G} {cA : Nat → ClassId} {K : Nat → Nat} {av : List Value} {w : va_W} {sz : Nat} : FrameBlind (va_Pc av (ck_P D cA K w sz)) := fun a U g mk q => by
  obtain ⟨q0, q1, qP, qK, qD, qE⟩ := q
  exact ⟨q0, q1, qP, va_K.moved (u := U) (U := U.calling g mk a) (Vm.Alike.refl U.vm) qK, qD, en_v.moved (s := U) (U := U.calling g mk a) (State.WarmedH.refl U) qE⟩
theorem ck_at {D : va_G} {cA : Nat → ClassId} {K : Nat → Nat} {av : List Value} {A : Nat → Prop} {ws wc : va_W} {s : State} {H : Heap} {locs : List Loc} (hK : va_K D vwCl (ty_s cA) s) (hE : en_v K A s s.heap) (hA : ∀ q, s.heap.size ≤ q → A q) (hP : va_P D vwCl ws H) (hD : va_D A ws) (hS : va_S A s.heap H locs)
    (isC : List Nat) (hC : isC.map (fun i => ws[i]?) = wc.map some) (hn : va_nd isC = true) : ∀ U : State, U.heap = H → s.WarmedH U.vm → va_Pc av (ck_P D cA K wc H.size) av.toArray U := by
  intro U hU hW
  have hF := va_free hD hS hA isC hC
  exact ⟨rfl, by rw [hU], by rw [hU]; exact hP.sub isC (ck_fm hC), va_K.moved hW.alike hK, (hD.sub isC hn hC).weaken (fun _ _ _ _ => trivial), by rw [hU]; exact en_v.moved hW ((hE.kept hS.2.1).narrow hF)⟩
section CKG
variable {p : Program} {l : Launch} {e : Env} {R : Room} {s : State} {m : MethodId} {args : Array Value} {below : List Frame} {meth : Method} {c : Code} {H : Heap} {locs : List Loc} {cells slots : Nat} {Q : State → Prop}
variable {D : va_G} {cA : Nat → ClassId} {K : Nat → Nat} {A : Nat → Prop} {ws wc wr : va_W} {pc : Nat} {ls : Array Slot} {rest st0 : List Value} {a : Array Value} {S : Type} {w' ws2 : S → va_W}
theorem ck_goI {post : Int32 → S → Prop} (hr : va_Run p l e R s m args below meth c H locs cells slots 0 0 (F0 m pc ls st0) rest (va_Qi post (fun u t => ck_B D cA wc H.size (w' u) t) (va_A wc H.size) a) (va_A wc H.size))
    (hA : ∀ q, s.heap.size ≤ q → A q) (hP : va_P D vwCl ws H) (hD : va_D A ws) (hS : va_S A s.heap H locs)
    (isC isR ps : List Nat) (hC : isC.map (fun i => ws[i]?) = wc.map some) (hR : isR.map (fun i => ws[i]?) = wr.map some) (hn : va_nd isR = true) (hdis : ∀ i ∈ isR, i ∉ isC) (hps : va_nd ps = true) (hw2 : ∀ u, ps.map (fun i => (wr ++ w' u)[i]?) = (ws2 u).map some)
    (kk : ∀ (r : Int32) (u : S) (H1 : Heap) (locs1 : List Loc), post r u → va_P D vwCl (ws2 u) H1 → va_D A (ws2 u) → va_S A s.heap H1 locs1 → W p l e R s m args below meth c H1 locs1 cells slots Q (F0 m (pc + 3) ls (.int r :: rest))) : W p l e R s m args below meth c H locs cells slots Q (F0 m pc ls st0) := by
  have hF := va_free hD hS hA isC hC
  refine va_calli hr hS (fun q _ h => hF q h) hF (fun r u t H1 locs1 ht hvm hq hB hz hk hS1 => ?_)
  obtain ⟨hP1, hK1, hD1⟩ := hB
  rw [ht] at hP1
  obtain ⟨hP2, hD2⟩ := va_join hP hD isC isR hC hR hn hdis hk hF hP1 hD1
  exact kk r u H1 locs1 hq (hP2.sub ps (ck_fm (hw2 u))) (hD2.sub ps hps (hw2 u)) hS1
theorem ck_goV {post : S → Prop} (hr : va_Run p l e R s m args below meth c H locs cells slots 0 0 (F0 m pc ls st0) rest (va_Qv post (fun u t => ck_B D cA wc H.size (w' u) t) (va_A wc H.size) a) (va_A wc H.size))
    (hA : ∀ q, s.heap.size ≤ q → A q) (hP : va_P D vwCl ws H) (hD : va_D A ws) (hS : va_S A s.heap H locs)
    (isC isR ps : List Nat) (hC : isC.map (fun i => ws[i]?) = wc.map some) (hR : isR.map (fun i => ws[i]?) = wr.map some) (hn : va_nd isR = true) (hdis : ∀ i ∈ isR, i ∉ isC) (hps : va_nd ps = true) (hw2 : ∀ u, ps.map (fun i => (wr ++ w' u)[i]?) = (ws2 u).map some)
    (kk : ∀ (u : S) (H1 : Heap) (locs1 : List Loc), post u → va_P D vwCl (ws2 u) H1 → va_D A (ws2 u) → va_S A s.heap H1 locs1 → W p l e R s m args below meth c H1 locs1 cells slots Q (F0 m (pc + 3) ls rest)) : W p l e R s m args below meth c H locs cells slots Q (F0 m pc ls st0) := by
  have hF := va_free hD hS hA isC hC
  refine va_callv hr hS (fun q _ h => hF q h) hF (fun u t H1 locs1 ht hvm hq hB hz hk hS1 => ?_)
  obtain ⟨hP1, hK1, hD1⟩ := hB
  rw [ht] at hP1
  obtain ⟨hP2, hD2⟩ := va_join hP hD isC isR hC hR hn hdis hk hF hP1 hD1
  exact kk u H1 locs1 hq (hP2.sub ps (ck_fm (hw2 u))) (hD2.sub ps hps (hw2 u)) hS1
end CKG
/-- what the tables say of a callee -/
def cf_V (y : MethodName) (bytes : ByteArray) (maxL : Nat) (ret : Option FieldType) (C : String) (n : Nat) : Prop := (Cond.instanceMethod y ∈ w_all ∧ Cond.selects C y y ∈ w_all ∧ Cond.initialized C ∈ w_all ∧ Cond.code y bytes maxL ret ∈ w_all) ∧ (y.cls = C ∧ y.cls ≠ "java/lang/invoke/MethodHandle" ∧ y.cls ≠ "java/lang/invoke/VarHandle" ∧ (parseMethodDescriptor y.desc).map (fun d => d.parameters.length) = some n)
def cf_S (y : MethodName) (bytes : ByteArray) (maxL : Nat) (ret : Option FieldType) (n : Nat) : Prop := (Cond.static y ∈ w_all ∧ Cond.initialized y.cls ∈ w_all ∧ Cond.code y bytes maxL ret ∈ w_all) ∧ (y.cls ≠ "java/lang/invoke/MethodHandle" ∧ y.cls ≠ "java/lang/invoke/VarHandle" ∧ (parseMethodDescriptor y.desc).map (fun d => d.parameters.length) = some n)
section CKW
variable {s : State} {args : Array Value}
theorem ck_wV {own C : String} {index maxL n d d' : Nat} {y : MethodName} {bytes : ByteArray} {ret : Option FieldType} (hts : ∀ w ∈ w_all, w.before args s = true) (hf : cf_V y bytes maxL ret C n) (hl : Cond.methodLink own index y ∈ w_all) (hR : d' + 1 ≤ d ∧ 8 + (maxL + 11) + 32 * d' ≤ 32 * d) : CallW (rm_d d) s args own C index y bytes maxL ret (Cond.code y bytes maxL ret :: w_all) (rm_d d') 0 0 n := by
  obtain ⟨⟨f1, f2, f3, f4⟩, f5, f6⟩ := hf
  subst f5
  exact ⟨callB_of n hts (gd_c f4) rfl rfl rfl (hts _ f3) (hts _ hl) f6 hR, hts _ f1, hts _ f2⟩
theorem ck_wS {own : String} {index maxL n d d' : Nat} {y : MethodName} {bytes : ByteArray} {ret : Option FieldType} (hts : ∀ w ∈ w_all, w.before args s = true) (hf : cf_S y bytes maxL ret n) (hl : Cond.methodLink own index y ∈ w_all) (hR : d' + 1 ≤ d ∧ 8 + (maxL + 11) + 32 * d' ≤ 32 * d) : CallB (rm_d d) s args own index y bytes maxL ret (Cond.code y bytes maxL ret :: w_all) (rm_d d') 0 0 n ∧ (Cond.static y).before args s = true := by
  obtain ⟨⟨f1, f2, f3⟩, f6⟩ := hf
  exact ⟨callB_of n hts (gd_c f3) rfl rfl rfl (hts _ f2) (hts _ hl) f6 hR, hts _ f1⟩
theorem ck_wSN {own host : String} {index maxL n d d' : Nat} {y : MethodName} {bytes : ByteArray} {ret : Option FieldType} {K : Nat → Nat} {A : Nat → Prop} {H : Heap} (hts : ∀ w ∈ w_all, w.before args s = true) (hE : en_v K A s H) (hf : cf_S y bytes maxL ret n) (hl : Cond.methodLinkNest own index y host ∈ n_all) (hR : d' + 1 ≤ d ∧ 8 + (maxL + 11) + 32 * d' ≤ 32 * d) : va_CN (rm_d d) s args own index y host bytes maxL ret (Cond.code y bytes maxL ret :: w_all) (rm_d d') 0 0 n ∧ (Cond.static y).before args s = true ∧ True := by
  obtain ⟨⟨f1, f2, f3⟩, f6⟩ := hf
  exact ⟨va_cnB n hts (gd_c f3) rfl rfl rfl (hE.1 _ hl) (hts _ f2) f6 hR, hts _ f1, trivial⟩
end CKW
section CKC
variable {p : Program} {l : Launch} {e : Env} {s : State} {m : MethodId} {args : Array Value} {below : List Frame} {meth : Method} {c : Code} {H : Heap} {locs : List Loc} {cells slots : Nat} {Q : State → Prop}
variable {D : va_G} {cA : Nat → ClassId} {K : Nat → Nat} {A : Nat → Prop} {ws wc wr : va_W} {pc : Nat} {ls : Array Slot} {rest st0 As : List Value} {S : Type} {w' ws2 : S → va_W} {d d' nL maxL n index b : Nat} {cc bytes : ByteArray} {own C host : String} {y : MethodName} {rt : FieldType} {ci q0 : Nat} {fs : List Value} {T : u_T} {N : Nat}
/-- a virtual call that answers an int -/
theorem ck_cV {post : Int32 → S → Prop} (hM : ck_I l y (Cond.code y bytes maxL (some rt) :: w_all) d' D cA K (.ref b :: As) wc post w') (hx : p.tables.exec = Jvm.exec) (hb : c.code = cc) (hml : c.maxLocals = nL) (hown : s.vm.findClass own = some m.cls) (hts : ∀ w ∈ w_all, w.before args s = true) (hK : va_K D vwCl (ty_s cA) s) (hE : en_v K A s s.heap) (hA : ∀ q, s.heap.size ≤ q → A q) (hP : va_P D vwCl ws H) (hD : va_D A ws) (hS : va_S A s.heap H locs)
    (hf : cf_V y bytes maxL (some rt) C n) (hlk : Cond.methodLink own index y ∈ w_all) (hR : d' + 1 ≤ d ∧ 8 + (maxL + 11) + 32 * d' ≤ 32 * d) (q0 : Nat) (hc : vwCl[ci]? = some (C, T, N)) (he : ws[q0]? = some (b, .inr (ci, fs))) (hn : As.length = n) (hsize : ls.size = nL) (hst : st0 = As.reverse ++ .ref b :: rest) (hroom : (rest.map fun v => v.category).sum ≤ 8) (hdg : decode cc pc = .ok (.invokevirtual index, 3))
    (isC isR ps : List Nat) (hC : isC.map (fun i => ws[i]?) = wc.map some) (hCR : isR.map (fun i => ws[i]?) = wr.map some) (hnd : va_nd isC = true ∧ va_nd isR = true ∧ va_nd ps = true ∧ ∀ i ∈ isR, i ∉ isC) (hw2 : ∀ u, ps.map (fun i => (wr ++ w' u)[i]?) = (ws2 u).map some)
    (kk : ∀ (r : Int32) (u : S) (H1 : Heap) (locs1 : List Loc), post r u → va_P D vwCl (ws2 u) H1 → va_D A (ws2 u) → va_S A s.heap H1 locs1 → W p l e (rm_d d) s m args below meth c H1 locs1 0 0 Q (F0 m (pc + 3) ls (.int r :: rest))) : W p l e (rm_d d) s m args below meth c H locs 0 0 Q (F0 m pc ls st0) :=
  ck_goI (va_runV (As := As) (rest := rest) ⟨hx, hb, hml, hown, hts⟩ (hM H.size) (ck_wV hts hf hlk hR) ⟨ck_bl, va_recv hK hP hc he, ck_at hK hE hA hP hD hS isC hC hnd.1⟩ rfl hn hsize hst (lv_room hroom) hdg ⟨Nat.le_refl _, Nat.le_refl _⟩) hA hP hD hS isC isR ps hC hCR hnd.2.1 hnd.2.2.2 hnd.2.2.1 hw2 kk
/-- a virtual call that answers nothing -/
theorem ck_cVv {post : S → Prop} (hM : ck_V l y (Cond.code y bytes maxL none :: w_all) d' D cA K (.ref b :: As) wc post w') (hx : p.tables.exec = Jvm.exec) (hb : c.code = cc) (hml : c.maxLocals = nL) (hown : s.vm.findClass own = some m.cls) (hts : ∀ w ∈ w_all, w.before args s = true) (hK : va_K D vwCl (ty_s cA) s) (hE : en_v K A s s.heap) (hA : ∀ q, s.heap.size ≤ q → A q) (hP : va_P D vwCl ws H) (hD : va_D A ws) (hS : va_S A s.heap H locs)
    (hf : cf_V y bytes maxL none C n) (hlk : Cond.methodLink own index y ∈ w_all) (hR : d' + 1 ≤ d ∧ 8 + (maxL + 11) + 32 * d' ≤ 32 * d) (q0 : Nat) (hc : vwCl[ci]? = some (C, T, N)) (he : ws[q0]? = some (b, .inr (ci, fs))) (hn : As.length = n) (hsize : ls.size = nL) (hst : st0 = As.reverse ++ .ref b :: rest) (hroom : (rest.map fun v => v.category).sum ≤ 8) (hdg : decode cc pc = .ok (.invokevirtual index, 3))
    (isC isR ps : List Nat) (hC : isC.map (fun i => ws[i]?) = wc.map some) (hCR : isR.map (fun i => ws[i]?) = wr.map some) (hnd : va_nd isC = true ∧ va_nd isR = true ∧ va_nd ps = true ∧ ∀ i ∈ isR, i ∉ isC) (hw2 : ∀ u, ps.map (fun i => (wr ++ w' u)[i]?) = (ws2 u).map some)
    (kk : ∀ (u : S) (H1 : Heap) (locs1 : List Loc), post u → va_P D vwCl (ws2 u) H1 → va_D A (ws2 u) → va_S A s.heap H1 locs1 → W p l e (rm_d d) s m args below meth c H1 locs1 0 0 Q (F0 m (pc + 3) ls rest)) : W p l e (rm_d d) s m args below meth c H locs 0 0 Q (F0 m pc ls st0) :=
  ck_goV (va_runV (As := As) (rest := rest) ⟨hx, hb, hml, hown, hts⟩ (hM H.size) (ck_wV hts hf hlk hR) ⟨ck_bl, va_recv hK hP hc he, ck_at hK hE hA hP hD hS isC hC hnd.1⟩ rfl hn hsize hst (lv_room hroom) hdg ⟨Nat.le_refl _, Nat.le_refl _⟩) hA hP hD hS isC isR ps hC hCR hnd.2.1 hnd.2.2.2 hnd.2.2.1 hw2 kk
/-- a static call of the own class that answers an int -/
theorem ck_cS {post : Int32 → S → Prop} (hM : ck_I l y (Cond.code y bytes maxL (some rt) :: w_all) d' D cA K As wc post w') (hx : p.tables.exec = Jvm.exec) (hb : c.code = cc) (hml : c.maxLocals = nL) (hown : s.vm.findClass own = some m.cls) (hts : ∀ w ∈ w_all, w.before args s = true) (hK : va_K D vwCl (ty_s cA) s) (hE : en_v K A s s.heap) (hA : ∀ q, s.heap.size ≤ q → A q) (hP : va_P D vwCl ws H) (hD : va_D A ws) (hS : va_S A s.heap H locs)
    (hf : cf_S y bytes maxL (some rt) n) (hlk : Cond.methodLink own index y ∈ w_all) (hR : d' + 1 ≤ d ∧ 8 + (maxL + 11) + 32 * d' ≤ 32 * d) (hn : As.length = n) (hsize : ls.size = nL) (hst : st0 = As.reverse ++ rest) (hroom : (rest.map fun v => v.category).sum ≤ 8) (hdg : decode cc pc = .ok (.invokestatic index, 3))
    (isC isR ps : List Nat) (hC : isC.map (fun i => ws[i]?) = wc.map some) (hCR : isR.map (fun i => ws[i]?) = wr.map some) (hnd : va_nd isC = true ∧ va_nd isR = true ∧ va_nd ps = true ∧ ∀ i ∈ isR, i ∉ isC) (hw2 : ∀ u, ps.map (fun i => (wr ++ w' u)[i]?) = (ws2 u).map some)
    (kk : ∀ (r : Int32) (u : S) (H1 : Heap) (locs1 : List Loc), post r u → va_P D vwCl (ws2 u) H1 → va_D A (ws2 u) → va_S A s.heap H1 locs1 → W p l e (rm_d d) s m args below meth c H1 locs1 0 0 Q (F0 m (pc + 3) ls (.int r :: rest))) : W p l e (rm_d d) s m args below meth c H locs 0 0 Q (F0 m pc ls st0) :=
  ck_goI (va_runS (As := As) (rest := rest) ⟨hx, hb, hml, hown, hts⟩ (hM H.size) (ck_wS hts hf hlk hR) ⟨ck_bl, ck_at hK hE hA hP hD hS isC hC hnd.1⟩ rfl hn hsize hst (lv_room hroom) hdg ⟨Nat.le_refl _, Nat.le_refl _⟩) hA hP hD hS isC isR ps hC hCR hnd.2.1 hnd.2.2.2 hnd.2.2.1 hw2 kk
theorem ck_cSv {post : S → Prop} (hM : ck_V l y (Cond.code y bytes maxL none :: w_all) d' D cA K As wc post w') (hx : p.tables.exec = Jvm.exec) (hb : c.code = cc) (hml : c.maxLocals = nL) (hown : s.vm.findClass own = some m.cls) (hts : ∀ w ∈ w_all, w.before args s = true) (hK : va_K D vwCl (ty_s cA) s) (hE : en_v K A s s.heap) (hA : ∀ q, s.heap.size ≤ q → A q) (hP : va_P D vwCl ws H) (hD : va_D A ws) (hS : va_S A s.heap H locs)
    (hf : cf_S y bytes maxL none n) (hlk : Cond.methodLink own index y ∈ w_all) (hR : d' + 1 ≤ d ∧ 8 + (maxL + 11) + 32 * d' ≤ 32 * d) (hn : As.length = n) (hsize : ls.size = nL) (hst : st0 = As.reverse ++ rest) (hroom : (rest.map fun v => v.category).sum ≤ 8) (hdg : decode cc pc = .ok (.invokestatic index, 3))
    (isC isR ps : List Nat) (hC : isC.map (fun i => ws[i]?) = wc.map some) (hCR : isR.map (fun i => ws[i]?) = wr.map some) (hnd : va_nd isC = true ∧ va_nd isR = true ∧ va_nd ps = true ∧ ∀ i ∈ isR, i ∉ isC) (hw2 : ∀ u, ps.map (fun i => (wr ++ w' u)[i]?) = (ws2 u).map some)
    (kk : ∀ (u : S) (H1 : Heap) (locs1 : List Loc), post u → va_P D vwCl (ws2 u) H1 → va_D A (ws2 u) → va_S A s.heap H1 locs1 → W p l e (rm_d d) s m args below meth c H1 locs1 0 0 Q (F0 m (pc + 3) ls rest)) : W p l e (rm_d d) s m args below meth c H locs 0 0 Q (F0 m pc ls st0) :=
  ck_goV (va_runS (As := As) (rest := rest) ⟨hx, hb, hml, hown, hts⟩ (hM H.size) (ck_wS hts hf hlk hR) ⟨ck_bl, ck_at hK hE hA hP hD hS isC hC hnd.1⟩ rfl hn hsize hst (lv_room hroom) hdg ⟨Nat.le_refl _, Nat.le_refl _⟩) hA hP hD hS isC isR ps hC hCR hnd.2.1 hnd.2.2.2 hnd.2.2.1 hw2 kk
/-- a static call of a nest mate's private method that answers an int -/
theorem ck_cSN {post : Int32 → S → Prop} (hM : ck_I l y (Cond.code y bytes maxL (some rt) :: w_all) d' D cA K As wc post w') (hx : p.tables.exec = Jvm.exec) (hb : c.code = cc) (hml : c.maxLocals = nL) (hown : s.vm.findClass own = some m.cls) (hts : ∀ w ∈ w_all, w.before args s = true) (hK : va_K D vwCl (ty_s cA) s) (hE : en_v K A s s.heap) (hA : ∀ q, s.heap.size ≤ q → A q) (hP : va_P D vwCl ws H) (hD : va_D A ws) (hS : va_S A s.heap H locs)
    (hf : cf_S y bytes maxL (some rt) n) (hlk : Cond.methodLinkNest own index y host ∈ n_all) (hR : d' + 1 ≤ d ∧ 8 + (maxL + 11) + 32 * d' ≤ 32 * d) (hn : As.length = n) (hsize : ls.size = nL) (hst : st0 = As.reverse ++ rest) (hroom : (rest.map fun v => v.category).sum ≤ 8) (hdg : decode cc pc = .ok (.invokestatic index, 3))
    (isC isR ps : List Nat) (hC : isC.map (fun i => ws[i]?) = wc.map some) (hCR : isR.map (fun i => ws[i]?) = wr.map some) (hnd : va_nd isC = true ∧ va_nd isR = true ∧ va_nd ps = true ∧ ∀ i ∈ isR, i ∉ isC) (hw2 : ∀ u, ps.map (fun i => (wr ++ w' u)[i]?) = (ws2 u).map some)
    (kk : ∀ (r : Int32) (u : S) (H1 : Heap) (locs1 : List Loc), post r u → va_P D vwCl (ws2 u) H1 → va_D A (ws2 u) → va_S A s.heap H1 locs1 → W p l e (rm_d d) s m args below meth c H1 locs1 0 0 Q (F0 m (pc + 3) ls (.int r :: rest))) : W p l e (rm_d d) s m args below meth c H locs 0 0 Q (F0 m pc ls st0) :=
  ck_goI (va_runSN (As := As) (rest := rest) ⟨hx, hb, hml, hown, hts⟩ (hM H.size) (ck_wSN hts hE hf hlk hR) ⟨ck_bl, ck_at hK hE hA hP hD hS isC hC hnd.1⟩ rfl hn hsize hst (lv_room hroom) hdg ⟨Nat.le_refl _, Nat.le_refl _⟩) hA hP hD hS isC isR ps hC hCR hnd.2.1 hnd.2.2.2 hnd.2.2.1 hw2 kk
end CKC
