/-! methods that answer a reference; arrays of references -/
def ck_R (l : Launch) (y : MethodName) (ws : List Cond) (d : Nat) (D : va_G) (cA : Nat → ClassId) (K : Nat → Nat) (av : List Value) (w : va_W) {S : Type} (post : Nat → S → Prop) (w' : S → va_W) : Prop :=
  ∀ sz : Nat, Met l y ws (rm_d d) (va_Pc av (ck_P D cA K w sz)) (va_Qr (fun u : Nat × S => post u.1 u.2) (fun u a t => a = u.1 ∧ ck_B D cA w sz (w' u.2) t) (va_A w sz)) 0 0 (va_A w sz)
def ck_bR (l : Launch) (cc : ByteArray) (y : MethodName) (d maxL : Nat) (D : va_G) (cA : Nat → ClassId) (K : Nat → Nat) (av : List Value) (w : va_W) {S : Type} (post : Nat → S → Prop) (w' : S → va_W) : Prop :=
  ∀ (p : Program) (e : Env) (s : State) (m : MethodId) (args : Array Value) (below : List Frame) (meth : Method) (c : Code) (Q : State → Prop) (A : Nat → Prop) (H : Heap) (locs : List Loc) (ls : Array Slot),
    p.tables.exec = Jvm.exec → c.code = cc → c.maxLocals = maxL → s.vm.findClass y.cls = some m.cls → (∀ x ∈ w_all, x.before args s = true) → va_K D vwCl (ty_s cA) s → en_v K A s s.heap → (∀ q, s.heap.size ≤ q → A q) →
    va_P D vwCl w H → va_D A w → va_S A s.heap H locs → lv_has ls maxL (lv_args 0 av) →
    (∀ (r : Nat) (u : S) (H : Heap) (locs : List Loc) (ls : Array Slot) (pc : Nat), decode cc pc = .ok (.areturn, 1) → post r u → va_P D vwCl (w' u) H → va_D A (w' u) → va_S A s.heap H locs → W p l e (rm_d d) s m args below meth c H locs 0 0 Q (F0 m pc ls [.ref r])) →
    W p l e (rm_d d) s m args below meth c H locs 0 0 Q (F0 m 0 ls [])
set_option maxHeartbeats 4000000 in
theorem ck_mkR {l : Launch} {cc : ByteArray} {y : MethodName} {d maxL : Nat} {D : va_G} {cA : Nat → ClassId} {K : Nat → Nat} {av : List Value} {w : va_W} {S : Type} {post : Nat → S → Prop} {w' : S → va_W} {C : String} (hy : plainName y.cls = true) (hlen : (lg_sl av).length ≤ maxL)
    (body : ck_bR l cc y d maxL D cA K av w post w') : ck_R l y (Cond.code y cc maxL (some (.object C)) :: w_all) d D cA K av w post w' := by
  intro sz
  refine Met.ofW (cc := cc) (maxL := maxL) (ret := some (.object C)) hy rfl ?_
  intro p e s m args below meth c s₁ B hml hv
  obtain ⟨rfl, hsz, hP, hK, hD0, hE⟩ := hv
  have hx := B.exec
  have hb := B.bytes
  have hr := B.returns
  have hts0 := atoms_spec (ws := Cond.code y cc maxL (some (.object C)) :: w_all) B.pre
  have hown : s.vm.findClass y.cls = some m.cls := findClass_of_methodNamed B.named
  have hlocks := B.notSynchronized
  subst hsz
  have hl := lv_entry av (n := maxL) hlen
  rw [lg_entry_eq]
  generalize (lg_sl av ++ List.replicate (maxL - (lg_sl av).length) Slot.unset).toArray = ls at hl ⊢
  refine body p e s m _ below meth c _ (va_A w s.heap.size) s.heap [] ls hx hb hml hown (fun x h => hts0 x (List.mem_cons_of_mem _ h)) hK hE (fun q h => Or.inr h) hP (hD0.self) va_S.rf hl ?_
  intro r u H locs ls pc hd hq hP hD hS
  exact W.aret (v := .ref r) hx hb hr (Or.inl ⟨C, rfl⟩) (Or.inr ⟨r, rfl⟩) (fun t ht hW => ⟨⟨(r, u), r, rfl, hq, rfl, by rw [ht]; exact hP, va_K.moved hW.alike hK, hD⟩, hS.F ht⟩) hS.2.2 hd
section CKR
variable {p : Program} {l : Launch} {e : Env} {s : State} {m : MethodId} {args : Array Value} {below : List Frame} {meth : Method} {c : Code} {H : Heap} {locs : List Loc} {Q : State → Prop}
variable {D : va_G} {cA : Nat → ClassId} {K : Nat → Nat} {A : Nat → Prop} {ws wc wr : va_W} {pc : Nat} {ls : Array Slot} {rest st0 As : List Value} {S : Type} {w' ws2 : S → va_W} {d d' nL maxL n index b : Nat} {cc bytes : ByteArray} {own C : String} {y : MethodName} {rt : FieldType} {ci : Nat} {fs : List Value} {T : u_T} {N : Nat}
theorem ck_goR {R : Room} {cells slots : Nat} {a : Array Value} {post : Nat → S → Prop} (hr : va_Run p l e R s m args below meth c H locs cells slots 0 0 (F0 m pc ls st0) rest (va_Qr (fun u : Nat × S => post u.1 u.2) (fun u a t => a = u.1 ∧ ck_B D cA wc H.size (w' u.2) t) (va_A wc H.size) a) (va_A wc H.size))
    (hA : ∀ q, s.heap.size ≤ q → A q) (hP : va_P D vwCl ws H) (hD : va_D A ws) (hS : va_S A s.heap H locs)
    (isC isR ps : List Nat) (hC : isC.map (fun i => ws[i]?) = wc.map some) (hR : isR.map (fun i => ws[i]?) = wr.map some) (hn : va_nd isR = true) (hdis : ∀ i ∈ isR, i ∉ isC) (hps : va_nd ps = true) (hw2 : ∀ u, ps.map (fun i => (wr ++ w' u)[i]?) = (ws2 u).map some)
    (kk : ∀ (r : Nat) (u : S) (H1 : Heap) (locs1 : List Loc), post r u → va_P D vwCl (ws2 u) H1 → va_D A (ws2 u) → va_S A s.heap H1 locs1 → W p l e R s m args below meth c H1 locs1 cells slots Q (F0 m (pc + 3) ls (.ref r :: rest))) : W p l e R s m args below meth c H locs cells slots Q (F0 m pc ls st0) := by
  have hF := va_free hD hS hA isC hC
  refine va_callr hr hS (fun q _ h => hF q h) hF (fun u ra t H1 locs1 ht hvm hq hB hz hk hS1 => ?_)
  obtain ⟨rfl, hP1, hK1, hD1⟩ := hB
  rw [ht] at hP1
  obtain ⟨hP2, hD2⟩ := va_join hP hD isC isR hC hR hn hdis hk hF hP1 hD1
  exact kk u.1 u.2 H1 locs1 hq (hP2.sub ps (ck_fm (hw2 u.2))) (hD2.sub ps hps (hw2 u.2)) hS1
/-- a virtual call that answers a reference -/
theorem ck_cVr {post : Nat → S → Prop} (hM : ck_R l y (Cond.code y bytes maxL (some rt) :: w_all) d' D cA K (.ref b :: As) wc post w') (hx : p.tables.exec = Jvm.exec) (hb : c.code = cc) (hml : c.maxLocals = nL) (hown : s.vm.findClass own = some m.cls) (hts : ∀ w ∈ w_all, w.before args s = true) (hK : va_K D vwCl (ty_s cA) s) (hE : en_v K A s s.heap) (hA : ∀ q, s.heap.size ≤ q → A q) (hP : va_P D vwCl ws H) (hD : va_D A ws) (hS : va_S A s.heap H locs)
    (hf : cf_V y bytes maxL (some rt) C n) (hlk : Cond.methodLink own index y ∈ w_all) (hR : d' + 1 ≤ d ∧ 8 + (maxL + 11) + 32 * d' ≤ 32 * d) (q0 : Nat) (hc : vwCl[ci]? = some (C, T, N)) (he : ws[q0]? = some (b, .inr (ci, fs))) (hn : As.length = n) (hsize : ls.size = nL) (hst : st0 = As.reverse ++ .ref b :: rest) (hroom : (rest.map fun v => v.category).sum ≤ 8) (hdg : decode cc pc = .ok (.invokevirtual index, 3))
    (isC isR ps : List Nat) (hC : isC.map (fun i => ws[i]?) = wc.map some) (hCR : isR.map (fun i => ws[i]?) = wr.map some) (hnd : va_nd isC = true ∧ va_nd isR = true ∧ va_nd ps = true ∧ ∀ i ∈ isR, i ∉ isC) (hw2 : ∀ u, ps.map (fun i => (wr ++ w' u)[i]?) = (ws2 u).map some)
    (kk : ∀ (r : Nat) (u : S) (H1 : Heap) (locs1 : List Loc), post r u → va_P D vwCl (ws2 u) H1 → va_D A (ws2 u) → va_S A s.heap H1 locs1 → W p l e (rm_d d) s m args below meth c H1 locs1 0 0 Q (F0 m (pc + 3) ls (.ref r :: rest))) : W p l e (rm_d d) s m args below meth c H locs 0 0 Q (F0 m pc ls st0) :=
  ck_goR (va_runV (As := As) (rest := rest) ⟨hx, hb, hml, hown, hts⟩ (hM H.size) (ck_wV hts hf hlk hR) ⟨ck_bl, va_recv hK hP hc he, ck_at hK hE hA hP hD hS isC hC hnd.1⟩ rfl hn hsize hst (lv_room hroom) hdg ⟨Nat.le_refl _, Nat.le_refl _⟩) hA hP hD hS isC isR ps hC hCR hnd.2.1 hnd.2.2.2 hnd.2.2.1 hw2 kk
theorem wn_aldq {R : Room} {cells slots : Nat} {cl : List vw_C} {tys : List (ClassId × FieldType)} {r : Nat} (hexec : p.tables.exec = Jvm.exec) (hb : c.code = cc) (hK : va_K D cl tys s) (hP : va_P D cl ws H) (q0 t0 : Nat) {cA : ClassId} {C : String} {n i q : Nat} {f : Nat → Option Nat} (ha : ws[q0]? = some (r, .inl (cA, n, .inr (.inr (.inr (.inr f)))))) (ht : tys[t0]? = some (cA, .object C)) (hi : i < n) (hn : n < 2 ^ 31) (hq : f i = some q) (hdg : decode cc pc = .ok (.aaload, 1))
    (kk : W p l e R s m args below meth c H locs cells slots Q (F0 m (pc + 1) ls (.ref q :: rest))) : W p l e R s m args below meth c H locs cells slots Q (F0 m pc ls (.int (nI i) :: .ref r :: rest)) := by
  refine va_aldq hexec hb hK hP q0 t0 ha ht (nI_in hi hn) hdg ?_
  rw [nI_clamp (by omega), hq]
  exact kk
end CKR
