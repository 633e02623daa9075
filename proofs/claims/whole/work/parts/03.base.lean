/-! the judgements of this proof: a method's contract over a world of cells, with what is constant around it -/
/-- the words of nest mates, which stay true but aren't of w_all -/
def n_isN : Cond → Bool
  | .fieldLinkNest _ _ _ _ _ _ => true
  | .methodLinkNest _ _ _ _ => true
  | _ => false
def n_all : List Cond := tables_1.filter n_isN
theorem n_warm {s U : State} (hW : s.WarmedH U.vm) (h : ∀ w ∈ n_all, va_Nw w s) : ∀ w ∈ n_all, va_Nw w U := by
  intro w hw
  have h1 := h w hw
  have h2 := (List.mem_filter.mp hw).2
  cases w with
  | fieldLinkNest a i b n d h => exact va_Nw.warmF hW h1
  | methodLinkNest a i x h => exact va_Nw.warmM hW h1
  | _ => cases h2
/-- the two tables of the class, as int arrays that nobody writes -/
def ih_f : Nat → Int32 := fun j => ([70, 77, 1] : List Int32).getD j 0
def cm_f : Nat → Int32 := fun j => ([0, 1, 6, 4, 3, 5, 2] : List Int32).getD j 0
/-- the texts: the class that loads it, its place in that pool, the text, its number -/
def st_r : List (String × Nat × String × Nat) := [("ReadMapper", 159, "#$ACGNT", 0), ("ReadMapper$RecordWriter", 99, "#$ACGNT", 0), ("ReadMapper$ImageReader", 85, "#$ACGNT", 0), ("ReadMapper$RecordWriter", 32, "\t4\t*\t0\t0\t*\t*\t0\t0\t", 1), ("ReadMapper$RecordWriter", 80, "M\t*\t0\t0\t", 2), ("ReadMapper$RecordWriter", 82, "\tNM:i:", 3), ("ReadMapper$RecordWriter", 87, "\tMD:Z:", 4)]
def st_l : List Nat := [7, 17, 8, 6, 6]
def st_b : List (List Int32) := [[35, 36, 65, 67, 71, 78, 84], [9, 52, 9, 42, 9, 48, 9, 48, 9, 42, 9, 42, 9, 48, 9, 48, 9], [77, 9, 42, 9, 48, 9, 48, 9], [9, 78, 77, 58, 105, 58], [9, 77, 68, 58, 90, 58]]
/-- what is constant around a method that may write A: K has the addresses -/
def en_v (K : Nat → Nat) (A : Nat → Prop) (U : State) (H : Heap) : Prop :=
  (∀ w ∈ n_all, va_Nw w U) ∧ (∀ q ∈ st_r, vk_R q.1 q.2.1 q.2.2.1 (K (10 + q.2.2.2)) U) ∧
  va_Z "ReadMapper" "IMAGE_HEAD" "[I" (.ref (K 0)) A U H ∧ va_T .int (K 0) 3 (fun j => .int (ih_f j)) A U H ∧
  va_Z "ReadMapper" "COMPLEMENTS" "[I" (.ref (K 1)) A U H ∧ va_T .int (K 1) 7 (fun j => .int (cm_f j)) A U H ∧
  vk_S 5 st_l st_b (fun i => K (10 + i)) (fun i => K (20 + i)) A U H ∧
  va_Z "java/lang/String" "COMPACT_STRINGS" "Z" (.int 1) A U H ∧ va_Zq "jdk/internal/util/Preconditions" "SIOOBE_FORMATTER" "Ljava/util/function/BiFunction;" A U H
theorem en_v.moved {K : Nat → Nat} {A : Nat → Prop} {s U : State} {H : Heap} (hW : s.WarmedH U.vm) (h : en_v K A s H) : en_v K A U H := by
  obtain ⟨h1, h2, h3, h4, h5, h6, h7, h8, h9⟩ := h
  have ha := hW.alike
  exact ⟨n_warm hW h1, fun q hq => (h2 q hq).warm hW, h3.moved ha, h4.moved ha, h5.moved ha, h6.moved ha, h7.moved ha, h8.moved ha, h9.moved ha⟩
theorem en_v.kept {K : Nat → Nat} {A : Nat → Prop} {U : State} {H H1 : Heap} (h : en_v K A U H) (hq : ∀ a : Nat, a < H.size → ¬ A a → H1[a]? = H[a]?) : en_v K A U H1 := by
  obtain ⟨h1, h2, h3, h4, h5, h6, h7, h8, h9⟩ := h
  exact ⟨h1, h2, h3.kept hq, h4.kept hq, h5.kept hq, h6.kept hq, h7.kept hq, h8.kept hq, h9.kept hq⟩
theorem en_v.narrow {K : Nat → Nat} {A B : Nat → Prop} {U : State} {H : Heap} (h : en_v K A U H) (hAB : ∀ q, B q → A q) : en_v K B U H := by
  obtain ⟨h1, h2, h3, h4, h5, h6, h7, h8, h9⟩ := h
  exact ⟨h1, h2, h3.narrow hAB, h4.narrow hAB, h5.narrow hAB, h6.narrow hAB, h7.narrow hAB, h8.narrow hAB, h9.narrow hAB⟩
/-- the array classes in play: int[], char[], long[], Codes[] -/
abbrev ty_s (cA : Nat → ClassId) : List (ClassId × FieldType) := [(cA 0, .int), (cA 1, .char), (cA 2, .long), (cA 3, .object "ReadMapper$Codes")]
/-- the room of a method with d frames above it -/
abbrev rm_d (d : Nat) : Room := { frames := d, cells := 0, slots := 0, locals := 32 * d }
/-- what a method may take for granted of the state at its start, beside its words: its world; the tables; the constants, which lie outside of what it may write -/
def ck_P (D : va_G) (cA : Nat → ClassId) (K : Nat → Nat) (w : va_W) (sz : Nat) (U : State) : Prop :=
  U.heap.size = sz ∧ va_P D vwCl w U.heap ∧ va_K D vwCl (ty_s cA) U ∧ va_D (fun _ => True) w ∧ en_v K (va_A w sz) U U.heap
def ck_B (D : va_G) (cA : Nat → ClassId) (w : va_W) (sz : Nat) (w' : va_W) (t : State) : Prop :=
  va_P D vwCl w' t.heap ∧ va_K D vwCl (ty_s cA) t ∧ va_D (va_A w sz) w'
/-- contracts of methods that make nothing: an int (or boolean, char), nothing -/
def ck_I (l : Launch) (y : MethodName) (ws : List Cond) (d : Nat) (D : va_G) (cA : Nat → ClassId) (K : Nat → Nat) (av : List Value) (w : va_W) {S : Type} (post : Int32 → S → Prop) (w' : S → va_W) : Prop :=
  ∀ sz : Nat, Met l y ws (rm_d d) (va_Pc av (ck_P D cA K w sz)) (va_Qi post (fun u t => ck_B D cA w sz (w' u) t) (va_A w sz)) 0 0 (va_A w sz)
def ck_V (l : Launch) (y : MethodName) (ws : List Cond) (d : Nat) (D : va_G) (cA : Nat → ClassId) (K : Nat → Nat) (av : List Value) (w : va_W) {S : Type} (post : S → Prop) (w' : S → va_W) : Prop :=
  ∀ sz : Nat, Met l y ws (rm_d d) (va_Pc av (ck_P D cA K w sz)) (va_Qv post (fun u t => ck_B D cA w sz (w' u) t) (va_A w sz)) 0 0 (va_A w sz)
/-- the walk that a contract asks for -/
def ck_bI (l : Launch) (cc : ByteArray) (y : MethodName) (d maxL : Nat) (D : va_G) (cA : Nat → ClassId) (K : Nat → Nat) (av : List Value) (w : va_W) {S : Type} (post : Int32 → S → Prop) (w' : S → va_W) : Prop :=
  ∀ (p : Program) (e : Env) (s : State) (m : MethodId) (args : Array Value) (below : List Frame) (meth : Method) (c : Code) (Q : State → Prop) (A : Nat → Prop) (H : Heap) (locs : List Loc) (ls : Array Slot),
    p.tables.exec = Jvm.exec → c.code = cc → c.maxLocals = maxL → s.vm.findClass y.cls = some m.cls → (∀ x ∈ w_all, x.before args s = true) → va_K D vwCl (ty_s cA) s → en_v K A s s.heap → (∀ q, s.heap.size ≤ q → A q) →
    va_P D vwCl w H → va_D A w → va_S A s.heap H locs → lv_has ls maxL (lv_args 0 av) →
    (∀ (r : Int32) (u : S) (H : Heap) (locs : List Loc) (ls : Array Slot) (pc : Nat), decode cc pc = .ok (.ireturn, 1) → post r u → va_P D vwCl (w' u) H → va_D A (w' u) → va_S A s.heap H locs → W p l e (rm_d d) s m args below meth c H locs 0 0 Q (F0 m pc ls [.int r])) →
    W p l e (rm_d d) s m args below meth c H locs 0 0 Q (F0 m 0 ls [])
def ck_bV (l : Launch) (cc : ByteArray) (y : MethodName) (d maxL : Nat) (D : va_G) (cA : Nat → ClassId) (K : Nat → Nat) (av : List Value) (w : va_W) {S : Type} (post : S → Prop) (w' : S → va_W) : Prop :=
  ∀ (p : Program) (e : Env) (s : State) (m : MethodId) (args : Array Value) (below : List Frame) (meth : Method) (c : Code) (Q : State → Prop) (A : Nat → Prop) (H : Heap) (locs : List Loc) (ls : Array Slot),
    p.tables.exec = Jvm.exec → c.code = cc → c.maxLocals = maxL → s.vm.findClass y.cls = some m.cls → (∀ x ∈ w_all, x.before args s = true) → va_K D vwCl (ty_s cA) s → en_v K A s s.heap → (∀ q, s.heap.size ≤ q → A q) →
    va_P D vwCl w H → va_D A w → va_S A s.heap H locs → lv_has ls maxL (lv_args 0 av) →
    (∀ (u : S) (H : Heap) (locs : List Loc) (ls : Array Slot) (pc : Nat), decode cc pc = .ok (.return_, 1) → post u → va_P D vwCl (w' u) H → va_D A (w' u) → va_S A s.heap H locs → W p l e (rm_d d) s m args below meth c H locs 0 0 Q (F0 m pc ls [])) →
    W p l e (rm_d d) s m args below meth c H locs 0 0 Q (F0 m 0 ls [])
set_option maxHeartbeats 4000000 in
theorem ck_mkI {l : Launch} {cc : ByteArray} {y : MethodName} {d maxL : Nat} {D : va_G} {cA : Nat → ClassId} {K : Nat → Nat} {av : List Value} {w : va_W} {S : Type} {post : Int32 → S → Prop} {w' : S → va_W} {rt : FieldType} (hy : plainName y.cls = true) (hn : ∀ r u, post r u → narrow rt (.int r) = .int r) (hlen : (lg_sl av).length ≤ maxL)
    (body : ck_bI l cc y d maxL D cA K av w post w') : ck_I l y (Cond.code y cc maxL (some rt) :: w_all) d D cA K av w post w' := by
  intro sz
  refine Met.ofW (cc := cc) (maxL := maxL) (ret := some rt) hy rfl ?_
  intro p e s m args below meth c s₁ B hml hv
  obtain ⟨rfl, hsz, hP, hK, hD0, hE⟩ := hv
  have hx := B.exec
  have hb := B.bytes
  have hr := B.returns
  have hts0 := atoms_spec (ws := Cond.code y cc maxL (some rt) :: w_all) B.pre
  have hown : s.vm.findClass y.cls = some m.cls := findClass_of_methodNamed B.named
  have hlocks := B.notSynchronized
  subst hsz
  have hl := lv_entry av (n := maxL) hlen
  rw [lg_entry_eq]
  generalize (lg_sl av ++ List.replicate (maxL - (lg_sl av).length) Slot.unset).toArray = ls at hl ⊢
  refine body p e s m _ below meth c _ (va_A w s.heap.size) s.heap [] ls hx hb hml hown (fun x h => hts0 x (List.mem_cons_of_mem _ h)) hK hE (fun q h => Or.inr h) hP (hD0.self) va_S.rf hl ?_
  intro r u H locs ls pc hd hq hP hD hS
  exact W.zret (v := r) hx hb hr (hn r u hq) (fun t ht hW => ⟨⟨r, u, rfl, hq, by rw [ht]; exact hP, va_K.moved hW.alike hK, hD⟩, hS.F ht⟩) hS.2.2 hd
set_option maxHeartbeats 4000000 in
theorem ck_mkV {l : Launch} {cc : ByteArray} {y : MethodName} {d maxL : Nat} {D : va_G} {cA : Nat → ClassId} {K : Nat → Nat} {av : List Value} {w : va_W} {S : Type} {post : S → Prop} {w' : S → va_W} (hy : plainName y.cls = true) (hlen : (lg_sl av).length ≤ maxL)
    (body : ck_bV l cc y d maxL D cA K av w post w') : ck_V l y (Cond.code y cc maxL none :: w_all) d D cA K av w post w' := by
  intro sz
  refine Met.ofW (cc := cc) (maxL := maxL) (ret := none) hy rfl ?_
  intro p e s m args below meth c s₁ B hml hv
  obtain ⟨rfl, hsz, hP, hK, hD0, hE⟩ := hv
  have hx := B.exec
  have hb := B.bytes
  have hr := B.returns
  have hts0 := atoms_spec (ws := Cond.code y cc maxL none :: w_all) B.pre
  have hown : s.vm.findClass y.cls = some m.cls := findClass_of_methodNamed B.named
  have hlocks := B.notSynchronized
  subst hsz
  have hl := lv_entry av (n := maxL) hlen
  rw [lg_entry_eq]
  generalize (lg_sl av ++ List.replicate (maxL - (lg_sl av).length) Slot.unset).toArray = ls at hl ⊢
  refine body p e s m _ below meth c _ (va_A w s.heap.size) s.heap [] ls hx hb hml hown (fun x h => hts0 x (List.mem_cons_of_mem _ h)) hK hE (fun q h => Or.inr h) hP (hD0.self) va_S.rf hl ?_
  intro u H locs ls pc hd hq hP hD hS
  exact W.vret hx hb hr (fun t ht hW => ⟨⟨u, rfl, hq, by rw [ht]; exact hP, va_K.moved hW.alike hK, hD⟩, hS.F ht⟩) hS.2.2 hd
