/-! the law's calls of its own helpers -/
section CHC
variable {p : Program} {l : Launch} {e : Env} {R : Room} {s : State} {m : MethodId} {args : Array Value} {below : List Frame} {meth : Method} {c : Code} {H : Heap} {locs : List Loc} {cells slots : Nat} {Q : State → Prop}
variable {D : va_G} {cA : Nat → ClassId} {K : Nat → Nat} {A : Nat → Prop} {ws wc wr : va_W} {pc : Nat} {ls : Array Slot} {rest st0 As : List Value} {S : Type} {w' ws2 : S → va_W} {d' nL maxL n index : Nat} {cc bytes : ByteArray} {own : String} {y : MethodName} {hs : List (Nat × Nat × Nat × Nat)}
def cf_H (y : MethodName) (bytes : ByteArray) (maxL : Nat) (hs : List (Nat × Nat × Nat × Nat)) (n : Nat) : Prop := (Cond.static y ∈ w_all ∧ Cond.initialized y.cls ∈ w_all ∧ Cond.codeWith y bytes maxL (some .int) hs ∈ w_all) ∧ (y.cls ≠ "java/lang/invoke/MethodHandle" ∧ y.cls ≠ "java/lang/invoke/VarHandle" ∧ (parseMethodDescriptor y.desc).map (fun d => d.parameters.length) = some n)
/-- a static call of a method with handlers, that answers an int -/
theorem ch_cS {post : Int32 → S → Prop} (hM : ck_H l y (Cond.codeWith y bytes maxL (some .int) hs :: w_all) d' D cA K As wc post w') (hx : p.tables.exec = Jvm.exec) (hb : c.code = cc) (hml : c.maxLocals = nL) (hown : s.vm.findClass own = some m.cls) (hts : ∀ w ∈ w_all, w.before args s = true) (hK : va_K D vwCl (ty_s cA) s) (hE : en_v K A s s.heap) (hA : ∀ q, s.heap.size ≤ q → A q) (htr : e.platform.stackTraces = false) (hth : th_v A s s.heap) (hP : va_P D vwCl ws H) (hD : va_D A ws) (hS : va_S A s.heap H locs)
    (hf : cf_H y bytes maxL hs n) (hlk : Cond.methodLink own index y ∈ w_all) (hR : d' + 1 ≤ R.frames ∧ 8 + (maxL + 11) + 32 * d' ≤ R.locals) (hRc : cells + 1 ≤ R.cells ∧ slots + 6 ≤ R.slots) (hn : As.length = n) (hsize : ls.size = nL) (hst : st0 = As.reverse ++ rest) (hroom : (rest.map fun v => v.category).sum ≤ 8) (hdg : decode cc pc = .ok (.invokestatic index, 3))
    (isC isR ps : List Nat) (hC : isC.map (fun i => ws[i]?) = wc.map some) (hCR : isR.map (fun i => ws[i]?) = wr.map some) (hnd : va_nd isC = true ∧ va_nd isR = true ∧ va_nd ps = true ∧ ∀ i ∈ isR, i ∉ isC) (hw2 : ∀ u, ps.map (fun i => (wr ++ w' u)[i]?) = (ws2 u).map some)
    (kr : ∀ (r : Int32) (u : S) (H1 : Heap) (locs1 : List Loc), post r u → va_P D vwCl (ws2 u) H1 → va_D A (ws2 u) → va_S A s.heap H1 locs1 → W p l e R s m args below meth c H1 locs1 (cells + 1) (slots + 6) Q (F0 m (pc + 3) ls (.int r :: rest))) : W p l e R s m args below meth c H locs cells slots Q (F0 m pc ls st0) := by
  obtain ⟨⟨f1, f3, f4⟩, f6⟩ := hf
  intro T hTH X
  obtain ⟨mk, methM, cM, hnamed, hmethM, hcM, -, hlM, -, -, -, hsigM⟩ := Cond.codeWith_spec (hts _ f4)
  have hstM : methM.isStatic = true := Cond.static_spec hnamed hmethM (hts _ f1)
  obtain ⟨kP, hkP, -⟩ := className_of_methodNamed hnamed
  have hkPi : kP.init = .initialized := Cond.initialized_spec (findClass_of_methodNamed hnamed) hkP (hts _ f3)
  have hlen : As.length = methM.sig.parameters.length := by
    have h2 := f6.2.2
    rw [hsigM] at h2
    exact hn.trans (Option.some.inj h2).symm
  obtain ⟨vm₁, X₁, hstep⟩ := X.invokestatic hx hown (hts _ hlk) hnamed hmethM hstM hkP hkPi ⟨f6.1, f6.2.1⟩ (g := F0 m pc ls st0) rfl (argsL := As) (rest := rest) hlen hst (by rw [hb]; exact hdg)
  have hF := va_free hD hS hA isC hC
  have hPT : va_Pc As (ck_PT D cA K wc H.size) As.toArray (T.setVm vm₁) := by
    have h := ck_at (av := As) hK hE hA hP hD hS isC hC hnd.1 (T.setVm vm₁) hTH X₁.warmed
    refine ⟨h.1, h.2, ?_⟩
    have h9 := ((hth.kept hS.2.1).narrow hF).moved (U := T.setVm vm₁) X₁.warmed.alike
    show th_v (va_A wc H.size) (T.setVm vm₁) T.heap
    rw [hTH]; exact h9
  have hal := X₁.warmed.alike
  have hwd : ∀ w ∈ (Cond.codeWith y bytes maxL (some .int) hs :: w_all), w.before As.toArray (T.setVm vm₁) = true := fun w hw => by
    have h4 : w ∈ w_all := by
      rcases List.mem_cons.mp hw with h | h
      · rw [h]; exact f4
      · exact h
    exact word_at X₁.warmed (good_of_word (List.mem_filter.mp h4).2) (hts _ h4)
  obtain ⟨o, t, st, hend, hq⟩ := iv_out (hM H.size) X₁ (g := F0 m pc ls rest) rfl (hsize.trans hml.symm) (by rw [hb]; exact hdg) (X₁.named hnamed) (a := As.toArray) (methY := methM) (cY := cM) (by rw [hal.method?]; exact hmethM) hcM (word_at X₁.warmed (Or.inl rfl) (hts _ f3))
    (by show d' + 1 ≤ R.frames; exact hR.1) (by rw [hlM]; show 2 * 0 + (rest.map fun v => v.category).sum + (maxL + 11) + 32 * d' ≤ R.locals; omega) (by show cells + 1 ≤ R.cells; exact hRc.1) (by show slots + 6 ≤ R.slots; exact hRc.2) (atoms_intro hwd) (ck_blT _ _ _ _ hPT) htr
  have hgo : Steps p.tables e below (T.setTop (F0 m pc ls st0)) t := hstep _ fun acts => by rw [doInvoke_state]; exact st
  have hh0 : ((T.setVm vm₁).calling (F0 m pc ls rest) mk As.toArray).heap = H := hTH
  have joinS : ∀ (H1 : Heap) (L : List Loc), H.size ≤ H1.size → (∀ q : Nat, q < H.size → ¬ va_A wc H.size q → H1[q]? = H[q]?) → (∀ q ∈ L, va_A wc H.size q.base) → va_S A s.heap H1 (locs ++ L) := fun H1 L hz hk hL => ⟨Nat.le_trans hS.1 hz, fun q h1 h2 => by rw [hk q (Nat.lt_of_lt_of_le h1 hS.1) (fun z => h2 (hF q z))]; exact hS.2.1 q h1 h2, fun q hq => by
    rcases List.mem_append.mp hq with h | h
    · exact hS.2.2 q h
    · exact hF _ (hL q h)⟩
  obtain ⟨⟨⟨r, u, e1, hp, ⟨hP1, hK1, hD1⟩⟩, ⟨hz, hk⟩⟩, L, ⟨-, hW, hsame⟩, hL⟩ := hq
  subst e1
  rw [hh0] at hz hk
  obtain ⟨hP2, hD2⟩ := va_join hP hD isC isR hC hCR hnd.2.1 hnd.2.2.2 hk hF hP1 hD1
  obtain ⟨T', X', -, -, e2⟩ := X₁.outOf (g := F0 m pc ls rest) rfl (by rw [hb]; exact hdg) hend hW hsame
  have hT' : T'.heap = t.heap := by rw [e2]; rfl
  obtain ⟨t2, a1, b1⟩ := kr r u t.heap (locs ++ L) hp (hP2.sub ps (ck_fm (hw2 u))) (hD2.sub ps hnd.2.2.1 (hw2 u)) (joinS _ L hz hk hL) T' hT' X'
  refine ⟨t2, hgo.trans ?_, b1⟩
  rw [e2]
  exact a1
end CHC
theorem m_466 : .codeWith y_La_piece b_La_piece 3 (some .int) [(0, 8, 11, 13), (0, 8, 14, 15)] ∈ w_all := wm_2 226 rfl (by decide +kernel)
theorem k_La_piece : cf_H y_La_piece b_La_piece 3 [(0, 8, 11, 13), (0, 8, 14, 15)] 2 := ⟨⟨m_465, m_0, m_466⟩, by decide +kernel⟩
theorem m_608 : .codeWith y_La_build b_La_build 4 (some .int) [(0, 9, 12, 15)] ∈ w_all := wm_3 128 rfl (by decide +kernel)
theorem k_La_build : cf_H y_La_build b_La_build 4 [(0, 9, 12, 15)] 3 := ⟨⟨m_607, m_0, m_608⟩, by decide +kernel⟩
theorem m_631 : .codeWith y_La_suffix b_La_suffix 4 (some .int) [(0, 9, 12, 15), (0, 9, 15, 24)] ∈ w_all := wm_3 151 rfl (by decide +kernel)
theorem k_La_suffix : cf_H y_La_suffix b_La_suffix 4 [(0, 9, 12, 15), (0, 9, 15, 24)] 3 := ⟨⟨m_630, m_0, m_631⟩, by decide +kernel⟩
theorem m_659 : .codeWith y_La_find b_La_find 3 (some .int) [(0, 8, 11, 13), (0, 8, 14, 15)] ∈ w_all := wm_3 179 rfl (by decide +kernel)
theorem k_La_find : cf_H y_La_find b_La_find 3 [(0, 8, 11, 13), (0, 8, 14, 15)] 2 := ⟨⟨m_658, m_0, m_659⟩, by decide +kernel⟩
theorem m_680 : .codeWith y_La_map b_La_map 4 (some .int) [(0, 9, 12, 13), (0, 9, 15, 15)] ∈ w_all := wm_3 200 rfl (by decide +kernel)
theorem k_La_map : cf_H y_La_map b_La_map 4 [(0, 9, 12, 13), (0, 9, 15, 15)] 3 := ⟨⟨m_679, m_0, m_680⟩, by decide +kernel⟩
theorem m_744 : .codeWith y_La_store b_La_store 3 (some .int) [(0, 8, 11, 15)] ∈ w_all := wm_4 24 rfl (by decide +kernel)
theorem k_La_store : cf_H y_La_store b_La_store 3 [(0, 8, 11, 15)] 2 := ⟨⟨m_743, m_0, m_744⟩, by decide +kernel⟩
theorem m_767 : .codeWith y_La_load b_La_load 3 (some .int) [(0, 8, 11, 38), (0, 8, 14, 15)] ∈ w_all := wm_4 47 rfl (by decide +kernel)
theorem k_La_load : cf_H y_La_load b_La_load 3 [(0, 8, 11, 38), (0, 8, 14, 15)] 2 := ⟨⟨m_766, m_0, m_767⟩, by decide +kernel⟩
