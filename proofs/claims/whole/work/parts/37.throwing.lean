/-! a throw of an own exception, as a row of the walk -/
section TH2
variable {p : Program} {l : Launch} {e : Env} {R : Room} {s : State} {m : MethodId} {args : Array Value} {below : List Frame} {meth : Method} {c : Code} {H : Heap} {locs : List Loc} {cells slots : Nat} {Q : State → Prop} {A : Nat → Prop} {cc : ByteArray} {ls : Array Slot} {pc : Nat}
theorem th_go {cls : String} {i0 ic : Nat} (hq : (cls, i0, ic) ∈ th_c) (hx : p.tables.exec = Jvm.exec) (hb : c.code = cc) (htr : e.platform.stackTraces = false) (hown : s.vm.findClass "ReadMapper" = some m.cls) (hts : ∀ w ∈ w_all, w.before args s = true) (hT : th_v A s s.heap) (hS : va_S A s.heap H locs) (hne : c.exceptionTable.isEmpty = true) (hlk : meth.locks = false)
    (hsize : ls.size = c.maxLocals) (hRf : 6 ≤ R.frames) (hRl : 100 ≤ R.locals) (hRc : cells + 1 ≤ R.cells) (hRs : slots + 6 ≤ R.slots)
    (d0 : decode cc pc = .ok (.new i0, 3)) (d1 : decode cc (pc + 3) = .ok (.dup, 1)) (d2 : decode cc (pc + 4) = .ok (.invokespecial ic, 3)) (d3 : decode cc (pc + 7) = .ok (.athrow, 1))
    (kk : ∀ (t : State) (cell : Cell), t.status = .running → Ended t below (.threw H.size) → s.WarmedH t.vm → s.sameButNew ({ t with vm := s.vm } : State) locs (cells + 1) (slots + 6) → (∀ q : Nat, q < H.size → t.heap[q]? = H[q]?) → t.heap[H.size]? = some cell → cell.vm.isStatics = false → s.vm.findClass cls = some cell.cls → Q t) : W p l e R s m args below meth c H locs cells slots Q (F0 m pc ls []) := by
  intro T hTH X
  subst hTH
  have X2 := th_base X (by omega) (by omega)
  have hWr : s.WarmedH (th_s s T).vm := State.WarmedH.refl s
  have wd : ∀ w ∈ w_all, w.before args (th_s s T) = true := fun w hw => word_at (s := s) (U := th_s s T) hWr (good_of_word (List.mem_filter.mp hw).2) (hts w hw)
  have hT2 := hT.kept hS.2.1
  have hal : s.vm.Alike (th_s s T).vm := hWr.alike
  have z1 := hT2.2.2.1.words (V := th_s s T) (args := args) rfl
  have z2 := hT2.2.2.2.words (V := th_s s T) (args := args) rfl
  have wo : ∀ w ∈ Bundle.ownAtoms0 "ReadMapper" ic cls th_n, w.before args (th_s s T) = true := fun w hw => by
    have ha : w ∈ w_all ∨ w ∈ th_w ∨ w ∈ th_z := th_all (cls, i0, ic) hq w hw
    rcases ha with h | h | h
    · exact wd w h
    · exact th_mv hal (th_wf w h) (hT2.1 w h)
    · rcases List.mem_cons.mp h with h | h
      · rw [h]; exact z1.2
      rcases List.mem_cons.mp h with h | h
      · rw [h]; exact z2.2
      rcases List.mem_cons.mp h with h | h
      · rw [h]; exact z1.1
      rcases List.mem_cons.mp h with h | h
      · rw [h]; exact z2.1
      · cases h
  have n0 : Cond.classLink "ReadMapper" i0 cls ∈ w_all ∧ Cond.instantiable cls 6 ∈ w_all ∧ Cond.initialized cls ∈ w_all ∧ Bundle.fit cls = true := th_new (cls, i0, ic) hq
  obtain ⟨n1, n2, n3, n4⟩ := n0
  have k1 : (Cond.classLink "ReadMapper" i0 cls).before args (th_s s T) = true := wd _ n1
  have k2 : (Cond.instantiable cls 6).before args (th_s s T) = true := wd _ n2
  have k3 : (Cond.initialized cls).before args (th_s s T) = true := wd _ n3
  have hown2 : (th_s s T).vm.findClass "ReadMapper" = some m.cls := hown
  have hW : W p l e (th_R R cells slots) (th_s s T) m args below meth c T.heap [] 0 0 Q (F0 m pc ls []) := by
    refine W.newc (own := "ReadMapper") (C := cls) (index := i0) (n := 6) hx hb hown2 k1 k2 k3 rfl d0 (by show 0 + 1 ≤ R.cells - cells; omega) (by show 0 + 6 ≤ R.slots - slots; omega) ?_
    intro cC kC h1 h2 h3 h4
    refine lv_dup hx hb d1 rfl ?_
    intro T4 hT4 X4
    have hcell : T4.heap[T.heap.size]? = some (freshCell cC kC) := by rw [hT4]; simp
    obtain ⟨U, hst, hrun, hend, hWm, hsame, ce, hce, ho⟩ := X4.ctorThrow0 hx htr (own := "ReadMapper") (cls := cls) (names := th_n) (ic := ic) hown2 n4 th_nf wo (fun x hx => by cases hx) (a := T.heap.size) h1 h2 hcell (Nat.le_refl _) (g := F0 m (pc + 3 + 1) ls [.ref T.heap.size, .ref T.heap.size]) rfl hsize rfl rfl (rest := []) rfl (by rw [hb]; exact d2) (by rw [hb]; exact d3) (fun x hx => by rw [Array.isEmpty_iff.mp hne] at hx; cases hx) (by show 2 + 3 < R.frames; omega) (by show 2 * 0 + 1 + (13 * (2 + 1) + 41) ≤ R.locals; omega) hlk
    refine ⟨U, hst, kk U ce hrun hend hWm (th_back X hsame) (fun q hq => ?_) hce (by rw [ho.vm]; rfl) ho.cls⟩
    obtain ⟨cq, hcq⟩ : ∃ cq, T.heap[q]? = some cq := ⟨T.heap[q], Array.getElem?_eq_getElem hq⟩
    have := hsame.old_cell (a := q) (c := cq) hcq
    rw [hcq]; exact this
  exact hW T rfl X2
end TH2
