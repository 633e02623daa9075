/-! exceptions: the walk's start moved up to the present heap, so that all cells of it are old ones; then the library's row of a constructor and a throw -/
abbrev th_s (s T : State) : State := { s with heap := T.heap, slotsUsed := T.slotsUsed }
abbrev th_R (R : Room) (k n : Nat) : Room := { R with cells := R.cells - k, slots := R.slots - n }
section TH1
variable {p : Program} {l : Launch} {e : Env} {R : Room} {s : State} {m : MethodId} {args : Array Value} {below : List Frame} {meth : Method} {c : Code} {T : State} {locs : List Loc} {cells slots : Nat}
theorem th_base (X : Stand p l e R s m args below meth c T locs cells slots) (h1 : cells ≤ R.cells) (h2 : slots ≤ R.slots) : Stand p l e (th_R R cells slots) (th_s s T) m args below meth c T [] 0 0 := by
  have hroom : (th_s s T).hasRoom e.platform (th_R R cells slots) = true := by
    have h := X.room
    have hb := X.book
    have hz := X.heapSize
    have hu := X.used
    simp only [State.hasRoom, Bool.and_eq_true, decide_eq_true_eq] at h ⊢
    obtain ⟨⟨⟨⟨a1, a2⟩, a3⟩, a4⟩, a5⟩ := h
    refine ⟨⟨⟨⟨a1, a2⟩, ?_⟩, ?_⟩, hb⟩
    · show T.heap.size + (R.cells - cells) ≤ _
      omega
    · show T.slotsUsed + (R.slots - slots) ≤ _
      omega
  refine ⟨X.admits, X.cas, X.clock, X.frames, hroom, X.hears, X.method, X.code, X.here, X.tail, X.warmed, X.limits, X.bytes, ?_⟩
  refine ⟨?_, Nat.le_refl _, Nat.le_refl _, ?_, ?_, fun a c h => ⟨c, h, rfl, rfl, fun _ _ => rfl⟩⟩
  · exact X.same.1
  · show T.slotsUsed = T.slotsUsed + ((T.heap.toList.drop T.heap.size).map (·.slots.size)).sum
    rw [List.drop_eq_nil_of_le (by simp)]
    rfl
  · show ((T.heap.toList.drop T.heap.size).map (·.slots.size)).sum ≤ 0
    rw [List.drop_eq_nil_of_le (by simp)]
    exact Nat.le_refl _
theorem th_back {U : State} {k n : Nat} (X : Stand p l e R s m args below meth c T locs cells slots) (h : (th_s s T).sameButNew ({ U with vm := (th_s s T).vm } : State) [] k n) : s.sameButNew ({ U with vm := s.vm } : State) locs (cells + k) (slots + n) := by
  obtain ⟨a1, a2, a3, a4, a5, a6⟩ := h
  have hB : (T.setVm s.vm).sameButNew ({ U with vm := s.vm } : State) [] k n := by
    refine ⟨?_, a2, a3, a4, a5, a6⟩
    refine a1.trans ?_
    have e3 : (T.setVm s.vm).setFrames U.frames = ({ s.setFrames U.frames with heap := T.heap, slotsUsed := T.slotsUsed } : State) := by
      rw [X.same.1]
      show ({ (s.setFrames T.frames).setFrames U.frames with heap := T.heap, slotsUsed := T.slotsUsed } : State) = _
      rw [State.setFrames_setFrames]
    show _ = ({ (T.setVm s.vm).setFrames U.frames with heap := U.heap, slotsUsed := U.slotsUsed } : State)
    rw [e3]
    rfl
  have := X.same.trans hB
  rw [List.append_nil] at this
  exact this
end TH1
/-- the words of the tables that exceptions want and that are no good words -/
def th_w : List Cond := [.declares ⟨"java/lang/RuntimeException", "<init>", "()V"⟩, .declares ⟨"java/lang/Exception", "<init>", "()V"⟩, .declares ⟨"java/lang/Throwable", "<init>", "()V"⟩, .castable "java/lang/IllegalArgumentException" "java/lang/IllegalArgumentException", .castable "java/lang/IllegalStateException" "java/lang/IllegalStateException", .castable "java/lang/IndexOutOfBoundsException" "java/lang/IndexOutOfBoundsException", .castable "java/lang/UnsupportedOperationException" "java/lang/UnsupportedOperationException"]
theorem th_wf : ∀ w ∈ th_w, w.faceAtom = true ∧ w.onTables = true := by decide
/-- which exceptions aren't of which class -/
def th_x : List (String × String) := [("java/lang/IllegalStateException", "java/lang/IllegalArgumentException"), ("java/lang/IndexOutOfBoundsException", "java/lang/IllegalStateException"), ("java/lang/IllegalStateException", "java/lang/UnsupportedOperationException")]
theorem th_mv {u U : State} (hvm : u.vm.Alike U.vm) {a a' : Array Value} {w : Cond} (hw : w.faceAtom = true ∧ w.onTables = true) (h : w.before a u = true) : w.before a' U = true := by
  have h1 := Cond.faceAtom_setVm hvm w hw.1 h
  have h2 := Cond.onTables_vm (A := a) (A' := a') (U := u) (U' := U) U.vm w hw.2
  rw [State.setVm_self] at h2
  rw [← h2]
  exact h1
/-- a static of Throwable's that nobody writes: a reference or null -/
def zt_v (C n d : String) (A : Nat → Prop) (U : State) (H : Heap) : Prop := ∃ (c : ClassId) (k : Class) (i : Nat) (f : Field) (a : Nat) (cell : Cell) (v : Value), U.vm.findClass C = some c ∧ U.fieldFound? C n d = some (c, k, i, f) ∧ f.isStatic = true ∧ k.statics = some a ∧ H[a]? = some cell ∧ cell.vm.isStatics = true ∧ cell.cls = c ∧ cell.slots[f.slot]? = some v ∧ (v = .null ∨ ∃ t, v = .ref t) ∧ k.staticTypes[f.slot]? = some f.type ∧ ¬ A a
theorem zt_v.moved {C n d : String} {A : Nat → Prop} {u U : State} {H : Heap} (hvm : u.vm.Alike U.vm) (h : zt_v C n d A u H) : zt_v C n d A U H := by
  obtain ⟨c, k, i, f, a, cell, v, h0, h1, h2, h3, h4, h5, h6, h7, h8, h9, h10⟩ := h
  obtain ⟨k', hi', he⟩ := State.fieldFound?_setVm hvm h1
  exact ⟨c, k', i, f, a, cell, v, by rw [hvm.findClass]; exact h0, hi', h2, by rw [he]; exact h3, h4, h5, h6, h7, h8, by rw [he]; exact h9, h10⟩
theorem zt_v.kept {C n d : String} {A : Nat → Prop} {U : State} {H H1 : Heap} (h : zt_v C n d A U H) (hq : ∀ a : Nat, a < H.size → ¬ A a → H1[a]? = H[a]?) : zt_v C n d A U H1 := by
  obtain ⟨c, k, i, f, a, cell, v, h0, h1, h2, h3, h4, h5, h6, h7, h8, h9, h10⟩ := h
  exact ⟨c, k, i, f, a, cell, v, h0, h1, h2, h3, by rw [hq a (Array.getElem?_eq_some_iff.mp h4).1 h10]; exact h4, h5, h6, h7, h8, h9, h10⟩
theorem zt_v.narrow {C n d : String} {A B : Nat → Prop} {U : State} {H : Heap} (h : zt_v C n d A U H) (hAB : ∀ q, B q → A q) : zt_v C n d B U H := by
  obtain ⟨c, k, i, f, a, cell, v, h0, h1, h2, h3, h4, h5, h6, h7, h8, h9, h10⟩ := h
  exact ⟨c, k, i, f, a, cell, v, h0, h1, h2, h3, h4, h5, h6, h7, h8, h9, fun z => h10 (hAB a z)⟩
theorem zt_v.words {C n d : String} {A : Nat → Prop} {U V : State} {args : Array Value} (h : zt_v C n d A U V.heap) (hv : V.vm = U.vm) : (Cond.laysStatic C n d).before args V = true ∧ (Cond.isRef (.static C n d)).before args V = true := by
  obtain ⟨c, k, i, f, a, cell, v, h0, h1, h2, h3, h4, h5, h6, h7, h8, h9, h10⟩ := h
  have g0 : V.vm.findClass C = some c := by rw [hv]; exact h0
  have g1 : V.fieldFound? C n d = some (c, k, i, f) := by
    unfold State.fieldFound? at h1 ⊢
    rw [hv]; exact h1
  have g2 : f.slot < cell.slots.size := (Array.getElem?_eq_some_iff.mp h7).1
  refine ⟨?_, ?_⟩
  · simp [Cond.before, Cond.holds, Cond.value, g0, g1, h3, h4, h2, h5, h6, g2, h9]
  · rcases h8 with e | ⟨t, e⟩ <;> subst e <;> simp [Cond.before, Cond.holds, Cond.value, Term.eval, State.fieldNamed?, g1, h2, h3, h4, h5, h7]
/-- what exceptions want of the state around a method that may write A -/
def th_v (A : Nat → Prop) (U : State) (H : Heap) : Prop := (∀ w ∈ th_w, w.before #[] U = true) ∧ (∀ q ∈ th_x, ∀ x y, U.vm.findClass q.1 = some x → U.vm.findClass q.2 = some y → U.vm.assignable x y = false) ∧ zt_v "java/lang/Throwable" "UNASSIGNED_STACK" "[Ljava/lang/StackTraceElement;" A U H ∧ zt_v "java/lang/Throwable" "SUPPRESSED_SENTINEL" "Ljava/util/List;" A U H
theorem th_v.moved {A : Nat → Prop} {u U : State} {H : Heap} (hvm : u.vm.Alike U.vm) (h : th_v A u H) : th_v A U H :=
  ⟨fun w hw => th_mv hvm (th_wf w hw) (h.1 w hw), fun q hq x y hx hy => by rw [hvm.findClass] at hx hy; rw [hvm.assignable]; exact h.2.1 q hq x y hx hy, h.2.2.1.moved hvm, h.2.2.2.moved hvm⟩
theorem th_v.kept {A : Nat → Prop} {U : State} {H H1 : Heap} (h : th_v A U H) (hq : ∀ a : Nat, a < H.size → ¬ A a → H1[a]? = H[a]?) : th_v A U H1 := ⟨h.1, h.2.1, h.2.2.1.kept hq, h.2.2.2.kept hq⟩
theorem th_v.narrow {A B : Nat → Prop} {U : State} {H : Heap} (h : th_v A U H) (hAB : ∀ q, B q → A q) : th_v B U H := ⟨h.1, h.2.1, h.2.2.1.narrow hAB, h.2.2.2.narrow hAB⟩
/-- the four exceptions: name, the class link's place, the constructor's place -/
def th_c : List (String × Nat × Nat) := [("java/lang/IllegalArgumentException", 113, 115), ("java/lang/IllegalStateException", 124, 126), ("java/lang/IndexOutOfBoundsException", 146, 148), ("java/lang/UnsupportedOperationException", 213, 215)]
def th_n : List String := ["java/lang/RuntimeException", "java/lang/Exception"]
def th_z : List Cond := [.isRef (.static "java/lang/Throwable" "UNASSIGNED_STACK" "[Ljava/lang/StackTraceElement;"), .isRef (.static "java/lang/Throwable" "SUPPRESSED_SENTINEL" "Ljava/util/List;"), .laysStatic "java/lang/Throwable" "UNASSIGNED_STACK" "[Ljava/lang/StackTraceElement;", .laysStatic "java/lang/Throwable" "SUPPRESSED_SENTINEL" "Ljava/util/List;"]
theorem th_all : ∀ q ∈ th_c, ∀ w ∈ Bundle.ownAtoms0 "ReadMapper" q.2.2 q.1 th_n, w ∈ w_all ∨ w ∈ th_w ∨ w ∈ th_z := by decide +kernel
theorem th_new : ∀ q ∈ th_c, Cond.classLink "ReadMapper" q.2.1 q.1 ∈ w_all ∧ Cond.instantiable q.1 6 ∈ w_all ∧ Cond.initialized q.1 ∈ w_all ∧ Bundle.fit q.1 = true := by decide +kernel
theorem th_nf : ∀ n ∈ th_n, Bundle.fit n = true := by decide
