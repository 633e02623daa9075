/-! what the claim gives of the start -/
abbrev st_A (s : State) : Nat → Prop := fun q => s.heap.size ≤ q
theorem st_nA {s : State} : ∀ a : Nat, a < s.heap.size → ¬ st_A s a := fun _ h z => absurd h (Nat.not_lt.mpr z)
abbrev st_F : List Cond := flatC (Jvm.Cond.and given_1 narrow_1)
theorem st_tb {w : Cond} {k : Nat} (h : tables_1[k]? = some w) : w ∈ lw_tbl := List.mem_append_right _ (List.mem_of_getElem? h)
theorem n_onT {w : Cond} (h : n_isN w = true) : w.onTables = true := by
  cases w <;> first | rfl | (cases h; done)
def st_t (i : Nat) : Term := ([.string "ReadMapper" 159, .string "ReadMapper$RecordWriter" 32, .string "ReadMapper$RecordWriter" 80, .string "ReadMapper$RecordWriter" 82, .string "ReadMapper$RecordWriter" 87] : List Term).getD i (.int 0)
theorem st_m1 : ∀ j, j < 3 → Cond.eq (.elem (.static "ReadMapper" "IMAGE_HEAD" "[I") (.int (Int32.ofNat j))) (.int (ih_f j)) ∈ st_F := by decide +kernel
theorem st_m2 : ∀ j, j < 7 → Cond.eq (.elem (.static "ReadMapper" "COMPLEMENTS" "[I") (.int (Int32.ofNat j))) (.int (cm_f j)) ∈ st_F := by decide +kernel
theorem st_m3 : ∀ i, i < 5 → Cond.exactly (st_t i) "java/lang/String" ∈ st_F := by decide +kernel
theorem st_m4 : ∀ i, i < 5 → Cond.eq (.field (st_t i) "java/lang/String" "coder" "B") (.int 0) ∈ st_F := by decide +kernel
theorem st_m5 : ∀ i, i < 5 → Cond.arrayOf (.field (st_t i) "java/lang/String" "value" "[B") .byte ∈ st_F := by decide +kernel
theorem st_m6 : ∀ i, i < 5 → Cond.eq (.length (.field (st_t i) "java/lang/String" "value" "[B")) (.int (Int32.ofNat (st_l.getD i 0))) ∈ st_F := by decide +kernel
theorem st_m7 : ∀ i, i < 5 → ∀ j, j < st_l.getD i 0 → Cond.eq (.elem (.field (st_t i) "java/lang/String" "value" "[B") (.int (Int32.ofNat j))) (.int ((st_b.getD i []).getD j 0)) ∈ st_F := by decide +kernel
theorem st_m8 : ∀ i, i < 5 → ∀ j, j < 5 → i ≠ j → (Cond.not (Cond.eq (st_t i) (st_t j)) ∈ st_F ∨ Cond.not (Cond.eq (st_t j) (st_t i)) ∈ st_F) := by decide +kernel
theorem st_m9 : ∀ q ∈ th_x, Cond.not (Cond.castable q.1 q.2) ∈ st_F := by decide +kernel
theorem st_w9 : ∀ w ∈ th_w, w ∈ tables_1 := by decide +kernel
theorem st_lays1 : Cond.laysStatic "ReadMapper" "IMAGE_HEAD" "[I" ∈ lw_tbl := st_tb (k := 755) (by decide +kernel)
theorem st_lays2 : Cond.laysStatic "ReadMapper" "COMPLEMENTS" "[I" ∈ lw_tbl := st_tb (k := 698) (by decide +kernel)
theorem st_lays3 : Cond.laysStatic "java/lang/String" "COMPACT_STRINGS" "Z" ∈ lw_tbl := st_tb (k := 293) (by decide +kernel)
theorem st_lays4 : Cond.laysStatic "jdk/internal/util/Preconditions" "SIOOBE_FORMATTER" "Ljava/util/function/BiFunction;" ∈ lw_tbl := st_tb (k := 371) (by decide +kernel)
theorem st_lays5 : Cond.laysStatic "java/lang/Throwable" "UNASSIGNED_STACK" "[Ljava/lang/StackTraceElement;" ∈ lw_tbl := st_tb (k := 527) (by decide +kernel)
theorem st_lays6 : Cond.laysStatic "java/lang/Throwable" "SUPPRESSED_SENTINEL" "Ljava/util/List;" ∈ lw_tbl := st_tb (k := 529) (by decide +kernel)
theorem st_in1 : Cond.initialized "ReadMapper" ∈ tables_1 ∧ Cond.initialized "java/lang/String" ∈ tables_1 ∧ Cond.initialized "jdk/internal/util/Preconditions" ∈ tables_1 ∧ Cond.initialized "java/lang/Throwable" ∈ tables_1 := by decide +kernel
section
variable {s : State} {b : Nat}
theorem st_ws (hts : ∀ w ∈ lw_tbl, w.before #[Value.ref b] s = true) : ∀ w ∈ w_all, w.before #[Value.ref b] s = true := fun w hw => hts w (List.mem_filter.mp hw).1
theorem st_1 (hn : (Jvm.Cond.and given_1 narrow_1).before #[Value.ref b] s = true) : ∃ t, (Term.static "ReadMapper" "IMAGE_HEAD" "[I").eval #[Value.ref b] s none [] s = some (.ref t) ∧ va_T .int t 3 (fun j => .int (ih_f j)) (st_A s) s s.heap := by
  have hs := flat_of_before _ hn
  exact va_Tof (by decide) (hs _ (by decide +kernel)) (va_eqt (hs _ (by decide +kernel))) (fun j hj => va_eqt (hs _ (st_m1 j hj))) st_nA
theorem st_2 (hn : (Jvm.Cond.and given_1 narrow_1).before #[Value.ref b] s = true) : ∃ t, (Term.static "ReadMapper" "COMPLEMENTS" "[I").eval #[Value.ref b] s none [] s = some (.ref t) ∧ va_T .int t 7 (fun j => .int (cm_f j)) (st_A s) s s.heap := by
  have hs := flat_of_before _ hn
  exact va_Tof (by decide) (hs _ (by decide +kernel)) (va_eqt (hs _ (by decide +kernel))) (fun j hj => va_eqt (hs _ (st_m2 j hj))) st_nA
theorem st_3 (hn : (Jvm.Cond.and given_1 narrow_1).before #[Value.ref b] s = true) : ∃ adK adV : Nat → Nat, vk_S 5 st_l st_b adK adV (st_A s) s s.heap ∧ ∀ i : Nat, i < 5 → (st_t i).eval #[Value.ref b] s none [] s = some (.ref (adK i)) := by
  have hs := flat_of_before _ hn
  exact vk_Sof (by decide) (fun i hi => hs _ (st_m3 i hi)) (fun i hi => hs _ (st_m4 i hi)) (fun i hi => hs _ (st_m5 i hi)) (fun i hi => hs _ (st_m6 i hi)) (fun i hi j hj => hs _ (st_m7 i hi j hj)) (fun i j hi hj hne => (st_m8 i hi j hj hne).imp (hs _) (hs _)) st_nA
theorem st_eq {x y : Term} {a : Nat} (h : (Cond.eq x y).before #[Value.ref b] s = true) (hx : x.eval #[Value.ref b] s none [] s = some (.ref a)) : y.eval #[Value.ref b] s none [] s = some (.ref a) := by
  obtain ⟨v, h1, h2⟩ := Cond.eq_one (args := #[Value.ref b]) (first := s) (o := none) (s := s) (idx := []) h
  rw [hx] at h1
  rw [h2, ← h1]
/-- the constants around the law -/
theorem st_en (hts : ∀ w ∈ lw_tbl, w.before #[Value.ref b] s = true) (hn : (Jvm.Cond.and given_1 narrow_1).before #[Value.ref b] s = true) : ∃ K, en_v K (st_A s) s s.heap := by
  have hs := flat_of_before _ hn
  have htb : ∀ w ∈ tables_1, w.before #[Value.ref b] s = true := fun w hw => hts w (List.mem_append_right _ hw)
  obtain ⟨t0, a0, b0⟩ := st_1 hn
  obtain ⟨t1, a1, b1⟩ := st_2 hn
  obtain ⟨adK, adV, hS, hev⟩ := st_3 hn
  obtain ⟨K, hK0, hK1, hKk, hKv⟩ : ∃ K : Nat → Nat, K 0 = t0 ∧ K 1 = t1 ∧ (∀ i, i < 5 → K (10 + i) = adK i) ∧ ∀ i, i < 5 → K (20 + i) = adV i := by
    refine ⟨fun n => if n = 0 then t0 else if n = 1 then t1 else if n < 20 then adK (n - 10) else adV (n - 20), rfl, rfl, fun i hi => ?_, fun i hi => ?_⟩
    · show (if 10 + i = 0 then t0 else if 10 + i = 1 then t1 else if 10 + i < 20 then adK (10 + i - 10) else adV (10 + i - 20)) = adK i
      rw [if_neg (by omega), if_neg (by omega), if_pos (by omega), show 10 + i - 10 = i by omega]
    · show (if 20 + i = 0 then t0 else if 20 + i = 1 then t1 else if 20 + i < 20 then adK (20 + i - 10) else adV (20 + i - 20)) = adV i
      rw [if_neg (by omega), if_neg (by omega), if_neg (by omega), show 20 + i - 20 = i by omega]
  refine ⟨K, fun w hw => va_Nw.of (n_onT (List.mem_filter.mp hw).2) (htb w (List.mem_filter.mp hw).1), fun q hq => ?_, ?_, ?_, ?_, ?_, ?_, ?_, ?_⟩
  · have e0 : (Term.string "ReadMapper" 159).eval #[Value.ref b] s none [] s = some (.ref (adK 0)) := hev 0 (by omega)
    unfold st_r at hq
    rcases List.mem_cons.mp hq with rfl | hq
    · rw [hKk 0 (by omega)]; exact vk_R.of (hts _ (st_tb (k := 283) (by decide +kernel))) e0
    rcases List.mem_cons.mp hq with rfl | hq
    · rw [hKk 0 (by omega)]; exact vk_R.of (hts _ (st_tb (k := 402) (by decide +kernel))) (st_eq (hs _ (by decide +kernel)) e0)
    rcases List.mem_cons.mp hq with rfl | hq
    · rw [hKk 0 (by omega)]; exact vk_R.of (hts _ (st_tb (k := 826) (by decide +kernel))) (st_eq (hs _ (by decide +kernel)) e0)
    rcases List.mem_cons.mp hq with rfl | hq
    · rw [hKk 1 (by omega)]; exact vk_R.of (hts _ (st_tb (k := 350) (by decide +kernel))) (hev 1 (by omega))
    rcases List.mem_cons.mp hq with rfl | hq
    · rw [hKk 2 (by omega)]; exact vk_R.of (hts _ (st_tb (k := 424) (by decide +kernel))) (hev 2 (by omega))
    rcases List.mem_cons.mp hq with rfl | hq
    · rw [hKk 3 (by omega)]; exact vk_R.of (hts _ (st_tb (k := 425) (by decide +kernel))) (hev 3 (by omega))
    rw [List.mem_singleton.mp hq]
    rw [hKk 4 (by omega)]; exact vk_R.of (hts _ (st_tb (k := 426) (by decide +kernel))) (hev 4 (by omega))
  · rw [hK0]; exact va_Zof (hts _ st_lays1) (htb _ st_in1.1) a0 st_nA
  · rw [hK0]; exact b0
  · rw [hK1]; exact va_Zof (hts _ st_lays2) (htb _ st_in1.1) a1 st_nA
  · rw [hK1]; exact b1
  · refine ⟨fun i hi => ?_, fun i j hi hj e => ?_⟩
    · show va_O "java/lang/String" (K (10 + i)) _ _ _ ∧ va_OF "java/lang/String" "coder" "B" (.int 0) (K (10 + i)) _ _ _ ∧ va_OF "java/lang/String" "value" "[B" (.ref (K (20 + i))) (K (10 + i)) _ _ _ ∧ va_T .byte (K (20 + i)) _ _ _ _ _
      rw [hKk i hi, hKv i hi]
      exact hS.1 i hi
    · have e : K (10 + i) = K (10 + j) := e
      rw [hKk i hi, hKk j hj] at e
      exact hS.2 i j hi hj e
  · exact va_Zof (hts _ st_lays3) (htb _ st_in1.2.1) (va_eqi (hs _ (by decide +kernel))) st_nA
  · exact va_Zqof (hts _ st_lays4) (htb _ st_in1.2.2.1) (hs _ (by decide +kernel)) st_nA
theorem st_zt {C n d : String} (hl : (Cond.laysStatic C n d).before #[Value.ref b] s = true) (h : (Cond.isRef (.static C n d)).before #[Value.ref b] s = true) : zt_v C n d (st_A s) s s.heap := by
  obtain ⟨c, k, i, f, a, cell, hc, hi, hst, ha, hcell, hs, hcls, hlt, hty⟩ := Cond.laysStatic_spec hl
  cases hv : (Term.static C n d).eval #[Value.ref b] s none [] s with
  | none => simp [Cond.before, Cond.holds, Cond.value, hv] at h
  | some w =>
    obtain ⟨hst', a', cell', ha', hcell', -, hslot⟩ := Term.static_spec hi hv
    cases ha.symm.trans ha'
    cases hcell.symm.trans hcell'
    refine ⟨c, k, i, f, a, cell, w, hc, hi, hst, ha, hcell, hs, hcls, hslot, ?_, hty, st_nA a (Array.getElem?_eq_some_iff.mp hcell).1⟩
    simp only [Cond.before, Cond.holds, Cond.value, hv] at h
    cases w with
    | null => exact Or.inl rfl
    | ref t => exact Or.inr ⟨t, rfl⟩
    | _ => simp at h
theorem st_th (hts : ∀ w ∈ lw_tbl, w.before #[Value.ref b] s = true) (hn : (Jvm.Cond.and given_1 narrow_1).before #[Value.ref b] s = true) : th_v (st_A s) s s.heap := by
  have hs := flat_of_before _ hn
  have htb : ∀ w ∈ tables_1, w.before #[Value.ref b] s = true := fun w hw => hts w (List.mem_append_right _ hw)
  refine ⟨fun w hw => th_mv (Vm.Alike.refl s.vm) (th_wf w hw) (htb w (st_w9 w hw)), fun q hq x y h1 h2 => ?_, st_zt (hts _ st_lays5) (hs _ (by decide +kernel)), st_zt (hts _ st_lays6) (hs _ (by decide +kernel))⟩
  have h := hs _ (st_m9 q hq)
  simp only [Cond.before, Cond.holds, Cond.value, h1, h2] at h
  cases hb : s.vm.assignable x y with
  | false => rfl
  | true => simp [hb] at h
theorem st_ao (hts : ∀ w ∈ lw_tbl, w.before #[Value.ref b] s = true) : va_AO "ReadMapper$Codes" s := va_AO.of (hts _ (st_tb (k := 57) (by decide +kernel)))
/-- the classes' numbers -/
theorem st_K (hts : ∀ w ∈ lw_tbl, w.before #[Value.ref b] s = true) : ∃ (D : va_G) (cA : Nat → ClassId), va_K D vwCl (ty_s cA) s := by
  have hw := st_ws hts
  obtain ⟨c0, i0, k0⟩ := u_known (T := TX0) (N := 2) (n := 2) hw inX0 (hts _ (st_tb (k := 31) (by decide +kernel)))
  obtain ⟨c1, i1, k1⟩ := u_known (T := TX1) (N := 6) (n := 6) hw inX1 (hts _ (st_tb (k := 126) (by decide +kernel)))
  obtain ⟨c2, i2, k2⟩ := u_known (T := TX2) (N := 2) (n := 2) hw inX2 (hts _ (st_tb (k := 172) (by decide +kernel)))
  obtain ⟨c3, i3, k3⟩ := u_known (T := TX3) (N := 5) (n := 5) hw inX3 (hts _ (st_tb (k := 45) (by decide +kernel)))
  obtain ⟨c4, i4, k4⟩ := u_known (T := TX4) (N := 6) (n := 6) hw inX4 (hts _ (st_tb (k := 51) (by decide +kernel)))
  obtain ⟨c5, i5, k5⟩ := u_known (T := TX5) (N := 4) (n := 4) hw inX5 (hts _ (st_tb (k := 103) (by decide +kernel)))
  obtain ⟨c6, i6, k6⟩ := u_known (T := TX6) (N := 1) (n := 1) hw inX6 (hts _ (st_tb (k := 159) (by decide +kernel)))
  obtain ⟨c7, i7, k7⟩ := u_known (T := TX7) (N := 15) (n := 15) hw inX7 (hts _ (st_tb (k := 23) (by decide +kernel)))
  obtain ⟨c8, i8, k8⟩ := u_known (T := TX8) (N := 43) (n := 43) hw inX8 (hts _ (st_tb (k := 840) (by decide +kernel)))
  have arr : ∀ {ty : FieldType}, (Cond.arrayClass ty).before #[Value.ref b] s = true → ∃ c, ArrOfT s c ty ∧ s.vm.findClass ("[" ++ ty.toString) = some c := fun h => by
    obtain ⟨c, k, comp, h1, h2, h3⟩ := Cond.arrayClass_spec h
    exact ⟨c, fun n z => ⟨fun k h => (by cases h), k, h2, comp, h3⟩, h1⟩
  obtain ⟨a0, p0, q0⟩ := arr (hts _ (st_tb (k := 43) (by decide +kernel)) : (Cond.arrayClass .int).before #[Value.ref b] s = true)
  obtain ⟨a1, p1, q1⟩ := arr (hts _ (st_tb (k := 975) (by decide +kernel)) : (Cond.arrayClass .char).before #[Value.ref b] s = true)
  obtain ⟨a2, p2, q2⟩ := arr (hts _ (st_tb (k := 1198) (by decide +kernel)) : (Cond.arrayClass .long).before #[Value.ref b] s = true)
  obtain ⟨comp, a3, kk, q3, -, q4, q5, q6⟩ := Cond.arrayOver_spec (hts _ (st_tb (k := 57) (by decide +kernel)) : (Cond.arrayOver (.object "ReadMapper$Codes")).before #[Value.ref b] s = true)
  refine ⟨(fun n => match n with | 0 => c0 | 1 => c1 | 2 => c2 | 3 => c3 | 4 => c4 | 5 => c5 | 6 => c6 | 7 => c7 | _ => c8, fun n => match n with | 0 => i0 | 1 => i1 | 2 => i2 | 3 => i3 | 4 => i4 | 5 => i5 | 6 => i6 | 7 => i7 | _ => i8), fun n => match n with | 0 => a0 | 1 => a1 | 2 => a2 | _ => a3, fun n q h => ?_, fun n q h => ?_⟩
  · match n, h with
    | 0, h => cases h; exact k0
    | 1, h => cases h; exact k1
    | 2, h => cases h; exact k2
    | 3, h => cases h; exact k3
    | 4, h => cases h; exact k4
    | 5, h => cases h; exact k5
    | 6, h => cases h; exact k6
    | 7, h => cases h; exact k7
    | 8, h => cases h; exact k8
  · match n, h with
    | 0, h => cases h; exact ⟨p0, q0⟩
    | 1, h => cases h; exact ⟨p1, q1⟩
    | 2, h => cases h; exact ⟨p2, q2⟩
    | 3, h => cases h; exact ⟨fun n z => ⟨fun k h => (by cases h), kk, q4, comp, q5⟩, kk, comp, q4, q5, q3, q6⟩
end
