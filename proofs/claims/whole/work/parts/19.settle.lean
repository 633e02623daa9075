/-! which ending begins one place before; the walk of settleRow -/
noncomputable def lf_c (tr : Nat → Int32) (n i : Nat) : Nat := cn_t (fun j => tr j < tr i ∨ (tr j = tr i ∧ j < i)) n
theorem lf_1 {tr : Nat → Int32} {i o n : Nat} (h : n = lf_c tr o i) (hd : tr o < tr i ∨ (tr o = tr i ∧ o < i)) : n + 1 = lf_c tr (o + 1) i := by
  show _ = cn_t (fun j => tr j < tr i ∨ (tr j = tr i ∧ j < i)) (o + 1)
  rw [cn_yes (P := fun j => tr j < tr i ∨ (tr j = tr i ∧ j < i)) hd, h]; rfl
theorem lf_0 {tr : Nat → Int32} {i o n : Nat} (h : n = lf_c tr o i) (hd : ¬ (tr o < tr i ∨ (tr o = tr i ∧ o < i))) : n = lf_c tr (o + 1) i := by
  show _ = cn_t (fun j => tr j < tr i ∨ (tr j = tr i ∧ j < i)) (o + 1)
  rw [cn_no (P := fun j => tr j < tr i ∨ (tr j = tr i ∧ j < i)) hd, h]; rfl
theorem lf_lt (tr : Nat → Int32) {n i : Nat} (hi : i < n) : lf_c tr n i < n := by
  have h1 : lf_c tr n i < cn_t (fun _ => True) n := cn_lt (fun _ _ _ => trivial) hi trivial (fun z => z.elim (fun z => by rw [Int32.lt_iff_toInt_lt] at z; omega) (fun z => by have := z.2; omega))
  exact Nat.lt_of_lt_of_le h1 (cn_le _ n)
noncomputable def it_c (tr : Nat → Int32) (n : Nat) : Nat → Nat
  | 0 => 0
  | k + 1 => lf_c tr n (it_c tr n k)
theorem it_lt (tr : Nat → Int32) {n : Nat} (hn : 0 < n) (k : Nat) : it_c tr n k < n := by
  induction k with
  | zero => exact hn
  | succ k ih => exact lf_lt tr ih
/-- the symbol that the turned row tells of place p -/
noncomputable def sx_c (tr : Nat → Int32) (n p : Nat) : Int32 := tr (it_c tr n (n - 2 - p))
def sv_c (x y : Int32) : Int32 := if 1 < x ∧ 1 < y then x else y
def so_p (rw tr : Nat → Int32) (n p : Nat) : Prop := (1 < sx_c tr n p ∧ 1 < rw p) ∨ sx_c tr n p = rw p
theorem se_at {rw : Nat → Int32} {p : Nat} {x : Int32} : se_c rw p x p = sv_c x (rw p) := by
  unfold se_c sv_c
  by_cases h : 1 < x ∧ 1 < rw p
  · rw [if_pos h, if_pos h, pk_us]
  · rw [if_neg h, if_neg h]
theorem se_ne {rw : Nat → Int32} {p j : Nat} {x : Int32} (h : j ≠ p) : se_c rw p x j = rw j := by
  unfold se_c
  by_cases z : 1 < x ∧ 1 < rw p
  · rw [if_pos z, pk_un h]
  · rw [if_neg z]
theorem wi_m2 {n : Nat} (h : 0 < n) : nI n - 2 = nI (n - 1) - 1 := by
  cases n with
  | zero => omega
  | succ k =>
    rw [Nat.add_sub_cancel, nI_succ]
    have e : (2 : Int32) = 1 + 1 := by decide
    rw [e, Int32.sub_eq_add_neg, Int32.sub_eq_add_neg, Int32.neg_add, Int32.sub_eq_add_neg, Int32.add_assoc, ← Int32.add_assoc 1, Int32.add_right_neg, Int32.zero_add]

theorem d_In_endingBefore_0 : decode b_In_endingBefore 0 = .ok (.aload_n 0, 1) := by decide +kernel
theorem d_In_endingBefore_1 : decode b_In_endingBefore 1 = .ok (.getfield 22, 3) := by decide +kernel
theorem d_In_endingBefore_4 : decode b_In_endingBefore 4 = .ok (.iload_n 1, 1) := by decide +kernel
theorem d_In_endingBefore_5 : decode b_In_endingBefore 5 = .ok (.iaload, 1) := by decide +kernel
theorem d_In_endingBefore_6 : decode b_In_endingBefore 6 = .ok (.istore_n 2, 1) := by decide +kernel
theorem d_In_endingBefore_7 : decode b_In_endingBefore 7 = .ok (.iconst 0, 1) := by decide +kernel
theorem d_In_endingBefore_8 : decode b_In_endingBefore 8 = .ok (.istore_n 3, 1) := by decide +kernel
theorem d_In_endingBefore_9 : decode b_In_endingBefore 9 = .ok (.iconst 0, 1) := by decide +kernel
theorem d_In_endingBefore_10 : decode b_In_endingBefore 10 = .ok (.istore 4, 2) := by decide +kernel
theorem d_In_endingBefore_12 : decode b_In_endingBefore 12 = .ok (.iload 4, 2) := by decide +kernel
theorem d_In_endingBefore_14 : decode b_In_endingBefore 14 = .ok (.aload_n 0, 1) := by decide +kernel
theorem d_In_endingBefore_15 : decode b_In_endingBefore 15 = .ok (.invokevirtual 35, 3) := by decide +kernel
theorem d_In_endingBefore_18 : decode b_In_endingBefore 18 = .ok (.if_icmp .ge 40, 3) := by decide +kernel
theorem d_In_endingBefore_21 : decode b_In_endingBefore 21 = .ok (.aload_n 0, 1) := by decide +kernel
theorem d_In_endingBefore_22 : decode b_In_endingBefore 22 = .ok (.getfield 22, 3) := by decide +kernel
theorem d_In_endingBefore_25 : decode b_In_endingBefore 25 = .ok (.iload 4, 2) := by decide +kernel
theorem d_In_endingBefore_27 : decode b_In_endingBefore 27 = .ok (.iaload, 1) := by decide +kernel
theorem d_In_endingBefore_28 : decode b_In_endingBefore 28 = .ok (.iload_n 2, 1) := by decide +kernel
theorem d_In_endingBefore_29 : decode b_In_endingBefore 29 = .ok (.if_icmp .lt 20, 3) := by decide +kernel
theorem d_In_endingBefore_32 : decode b_In_endingBefore 32 = .ok (.aload_n 0, 1) := by decide +kernel
theorem d_In_endingBefore_33 : decode b_In_endingBefore 33 = .ok (.getfield 22, 3) := by decide +kernel
theorem d_In_endingBefore_36 : decode b_In_endingBefore 36 = .ok (.iload 4, 2) := by decide +kernel
theorem d_In_endingBefore_38 : decode b_In_endingBefore 38 = .ok (.iaload, 1) := by decide +kernel
theorem d_In_endingBefore_39 : decode b_In_endingBefore 39 = .ok (.iload_n 2, 1) := by decide +kernel
theorem d_In_endingBefore_40 : decode b_In_endingBefore 40 = .ok (.if_icmp .ne 12, 3) := by decide +kernel
theorem d_In_endingBefore_43 : decode b_In_endingBefore 43 = .ok (.iload 4, 2) := by decide +kernel
theorem d_In_endingBefore_45 : decode b_In_endingBefore 45 = .ok (.iload_n 1, 1) := by decide +kernel
theorem d_In_endingBefore_46 : decode b_In_endingBefore 46 = .ok (.if_icmp .ge 6, 3) := by decide +kernel
theorem d_In_endingBefore_49 : decode b_In_endingBefore 49 = .ok (.iinc 3 1, 3) := by decide +kernel
theorem d_In_endingBefore_52 : decode b_In_endingBefore 52 = .ok (.iinc 4 1, 3) := by decide +kernel
theorem d_In_endingBefore_55 : decode b_In_endingBefore 55 = .ok (.goto (-43), 3) := by decide +kernel
theorem d_In_endingBefore_58 : decode b_In_endingBefore 58 = .ok (.iload_n 3, 1) := by decide +kernel
theorem d_In_endingBefore_59 : decode b_In_endingBefore 59 = .ok (.ireturn, 1) := by decide +kernel
theorem d_In_settleRow_0 : decode b_In_settleRow 0 = .ok (.iconst 0, 1) := by decide +kernel
theorem d_In_settleRow_1 : decode b_In_settleRow 1 = .ok (.istore_n 1, 1) := by decide +kernel
theorem d_In_settleRow_2 : decode b_In_settleRow 2 = .ok (.aload_n 0, 1) := by decide +kernel
theorem d_In_settleRow_3 : decode b_In_settleRow 3 = .ok (.invokevirtual 35, 3) := by decide +kernel
theorem d_In_settleRow_6 : decode b_In_settleRow 6 = .ok (.iconst 2, 1) := by decide +kernel
theorem d_In_settleRow_7 : decode b_In_settleRow 7 = .ok (.isub, 1) := by decide +kernel
theorem d_In_settleRow_8 : decode b_In_settleRow 8 = .ok (.istore_n 2, 1) := by decide +kernel
theorem d_In_settleRow_9 : decode b_In_settleRow 9 = .ok (.iload_n 2, 1) := by decide +kernel
theorem d_In_settleRow_10 : decode b_In_settleRow 10 = .ok (.ifCond .lt 34, 3) := by decide +kernel
theorem d_In_settleRow_13 : decode b_In_settleRow 13 = .ok (.aload_n 0, 1) := by decide +kernel
theorem d_In_settleRow_14 : decode b_In_settleRow 14 = .ok (.getfield 12, 3) := by decide +kernel
theorem d_In_settleRow_17 : decode b_In_settleRow 17 = .ok (.iload_n 2, 1) := by decide +kernel
theorem d_In_settleRow_18 : decode b_In_settleRow 18 = .ok (.aload_n 0, 1) := by decide +kernel
theorem d_In_settleRow_19 : decode b_In_settleRow 19 = .ok (.getfield 22, 3) := by decide +kernel
theorem d_In_settleRow_22 : decode b_In_settleRow 22 = .ok (.iload_n 1, 1) := by decide +kernel
theorem d_In_settleRow_23 : decode b_In_settleRow 23 = .ok (.iaload, 1) := by decide +kernel
theorem d_In_settleRow_24 : decode b_In_settleRow 24 = .ok (.invokevirtual 66, 3) := by decide +kernel
theorem d_In_settleRow_27 : decode b_In_settleRow 27 = .ok (.ifCond .ne 5, 3) := by decide +kernel
theorem d_In_settleRow_30 : decode b_In_settleRow 30 = .ok (.iconst 0, 1) := by decide +kernel
theorem d_In_settleRow_31 : decode b_In_settleRow 31 = .ok (.ireturn, 1) := by decide +kernel
theorem d_In_settleRow_32 : decode b_In_settleRow 32 = .ok (.aload_n 0, 1) := by decide +kernel
theorem d_In_settleRow_33 : decode b_In_settleRow 33 = .ok (.iload_n 1, 1) := by decide +kernel
theorem d_In_settleRow_34 : decode b_In_settleRow 34 = .ok (.invokevirtual 69, 3) := by decide +kernel
theorem d_In_settleRow_37 : decode b_In_settleRow 37 = .ok (.istore_n 1, 1) := by decide +kernel
theorem d_In_settleRow_38 : decode b_In_settleRow 38 = .ok (.iinc 2 (-1), 3) := by decide +kernel
theorem d_In_settleRow_41 : decode b_In_settleRow 41 = .ok (.goto (-32), 3) := by decide +kernel
theorem d_In_settleRow_44 : decode b_In_settleRow 44 = .ok (.iconst 1, 1) := by decide +kernel
theorem d_In_settleRow_45 : decode b_In_settleRow 45 = .ok (.ireturn, 1) := by decide +kernel
set_option maxHeartbeats 4000000 in
set_option maxRecDepth 100000 in
theorem c_In_endingBefore (l : Launch) (D : va_G) (cA : Nat → ClassId) (K : Nat → Nat) (ia ix it ik rt : Nat) (pa pn ps pln pr : Nat) (num pl : Nat) (tr : Nat → Int32) (i : Nat) (hpl : pl ≤ 65) (hi : i < pl) : ck_I l y_In_endingBefore (Cond.code y_In_endingBefore b_In_endingBefore 5 (some .int) :: w_all) 2 D cA K [.ref ia, .int (nI i)] [(ia, .inr (3, [.ref pa, .ref ix, .ref it, .ref ik, .int (nI rt)])), (pa, .inr (4, [.ref pn, .ref ps, .ref pln, .ref pr, .int (nI num), .int (nI pl)])), (it, .inl (cA 0, 65, .inl tr))] (fun (r : Int32) (u : Unit) => r = nI (lf_c tr pl i)) (fun u => [(ia, .inr (3, [.ref pa, .ref ix, .ref it, .ref ik, .int (nI rt)])), (pa, .inr (4, [.ref pn, .ref ps, .ref pln, .ref pr, .int (nI num), .int (nI pl)])), (it, .inl (cA 0, 65, .inl tr))]) := by
  refine ck_mkI (by decide) (fun _ _ _ => rfl) (Nat.le_of_ble_eq_true rfl) ?_
  intro pG eG sG mG argsG belowG methG cG Q A H locs ls hx hb hml hown hts hK hE hA hP hD hS hl hret
  have hl : lv_has ls 5 [(0, .ref ia), (1, .int (nI i))] := hl
  refine lv_aload_n hx hb d_In_endingBefore_0 rfl (lv_at hl 0 rfl) ?_
  refine va_get (C := RX3) (T := TX3) (N := 5) hx hb hts inX3 hown hK hP 0 rfl rfl 2 (by decide) (hts _ m_87) (fun _ h9 => h9) rfl d_In_endingBefore_1 ?_
  refine lv_iload_n hx hb d_In_endingBefore_4 rfl (lv_at hl 1 rfl) ?_
  refine wn_iald hx hb hK hP 2 0 rfl rfl (by omega) (by omega) d_In_endingBefore_5 ?_
  refine lv_istore_n (lv' := [(2, .int (tr i)), (0, .ref ia), (1, .int (nI i))]) hx hb d_In_endingBefore_6 rfl hl (by decide) rfl (fun ls hl => ?_)
  refine lv_iconst (v := nI 0) hx hb d_In_endingBefore_7 (by decide) ?_
  refine lv_istore_n (lv' := [(3, .int (nI 0)), (2, .int (tr i)), (0, .ref ia), (1, .int (nI i))]) hx hb d_In_endingBefore_8 rfl hl (by decide) rfl (fun ls hl => ?_)
  refine lv_iconst (v := nI 0) hx hb d_In_endingBefore_9 (by decide) ?_
  refine lv_istore (lv' := [(4, .int (nI 0)), (3, .int (nI 0)), (2, .int (tr i)), (0, .ref ia), (1, .int (nI i))]) hx hb d_In_endingBefore_10 hl (by decide) rfl (fun ls hl => ?_)
  have L12 : ∀ (nG : Nat) (n o : Nat) (H : Heap) (locs : List Loc) (ls : Array Slot), pl - o = nG → (o ≤ pl) → (n = lf_c tr o i) →  va_P D vwCl [(ia, .inr (3, [.ref pa, .ref ix, .ref it, .ref ik, .int (nI rt)])), (pa, .inr (4, [.ref pn, .ref ps, .ref pln, .ref pr, .int (nI num), .int (nI pl)])), (it, .inl (cA 0, 65, .inl tr))] H → va_D A [(ia, .inr (3, [.ref pa, .ref ix, .ref it, .ref ik, .int (nI rt)])), (pa, .inr (4, [.ref pn, .ref ps, .ref pln, .ref pr, .int (nI num), .int (nI pl)])), (it, .inl (cA 0, 65, .inl tr))] → va_S A sG.heap H locs → lv_has ls 5 [(0, .ref ia), (1, .int (nI i)), (2, .int (tr i)), (3, .int (nI n)), (4, .int (nI o))] → W pG l eG (rm_d 2) sG mG argsG belowG methG cG H locs 0 0 Q (F0 mG 12 ls []) := by
    intro nG
    induction nG using Nat.strongRecOn with
    | ind nG ih12 =>
      intro n o H locs ls hn12 ho hn hP hD hS hl
      have hcl := cn_le (fun j => tr j < tr i ∨ (tr j = tr i ∧ j < i)) o
      have hn1 : n = cn_t (fun j => tr j < tr i ∨ (tr j = tr i ∧ j < i)) o := hn
      rw [← hn1] at hcl
      refine lv_iload hx hb d_In_endingBefore_12 (lv_at hl 4 rfl) ?_
      refine lv_aload_n hx hb d_In_endingBefore_14 rfl (lv_at hl 0 rfl) ?_
      refine ck_cV (C := "ReadMapper$Index") (ci := 3) (rest := [.int (nI o)]) (wr := [(it, .inl (cA 0, 65, .inl tr))]) (ws2 := fun u => [(ia, .inr (3, [.ref pa, .ref ix, .ref it, .ref ik, .int (nI rt)])), (pa, .inr (4, [.ref pn, .ref ps, .ref pln, .ref pr, .int (nI num), .int (nI pl)])), (it, .inl (cA 0, 65, .inl tr))]) (c_In_places l D cA K ia ix it ik rt pa pn ps pln pr num pl ) hx hb hml hown hts hK hE hA hP hD hS k_In_places m_267 (by decide) 0 rfl rfl rfl hl.1 rfl (Nat.le_of_ble_eq_true rfl) d_In_endingBefore_15  [0, 1] [2] [1, 2, 0] rfl rfl (by decide) (fun _ => rfl) (fun r15 u15 H locs hq15 hP hD hS => ?_)
      try dsimp only at hq15
      have hP : va_P D vwCl [(ia, .inr (3, [.ref pa, .ref ix, .ref it, .ref ik, .int (nI rt)])), (pa, .inr (4, [.ref pn, .ref ps, .ref pln, .ref pr, .int (nI num), .int (nI pl)])), (it, .inl (cA 0, 65, .inl tr))] H := hP
      have hD : va_D A [(ia, .inr (3, [.ref pa, .ref ix, .ref it, .ref ik, .int (nI rt)])), (pa, .inr (4, [.ref pn, .ref ps, .ref pln, .ref pr, .int (nI num), .int (nI pl)])), (it, .inl (cA 0, 65, .inl tr))] := hD
      obtain rfl := hq15
      refine wn_icmp_ge (by omega) (by omega) (tgt := 58) hx hb d_In_endingBefore_18 (by decide) ?_ ?_
      · intro h18
        refine lv_iload_n hx hb d_In_endingBefore_58 rfl (lv_at hl 3 rfl) ?_
        exact hret (nI n) () _ _ _ 59 d_In_endingBefore_59 (by rw [hn, show o = pl by omega]) hP hD hS
      · intro h18
        refine lv_aload_n hx hb d_In_endingBefore_21 rfl (lv_at hl 0 rfl) ?_
        refine va_get (C := RX3) (T := TX3) (N := 5) hx hb hts inX3 hown hK hP 0 rfl rfl 2 (by decide) (hts _ m_87) (fun _ h9 => h9) rfl d_In_endingBefore_22 ?_
        refine lv_iload hx hb d_In_endingBefore_25 (lv_at hl 4 rfl) ?_
        refine wn_iald hx hb hK hP 2 0 rfl rfl (by omega) (by omega) d_In_endingBefore_27 ?_
        refine lv_iload_n hx hb d_In_endingBefore_28 rfl (lv_at hl 2 rfl) ?_
        refine lv_icmp_lt (tgt := 49) hx hb d_In_endingBefore_29 (by decide) ?_ ?_
        · intro h29
          refine lv_iinc (k := 3) (v := nI (n + 1)) (lv' := [(3, .int (nI (n + 1))), (0, .ref ia), (1, .int (nI i)), (2, .int (tr i)), (4, .int (nI o))]) hx hb d_In_endingBefore_49 hl rfl (wi_inc1 _) (by decide) rfl (fun ls hl => ?_)
          refine lv_iinc (k := 4) (v := nI (o + 1)) (lv' := [(4, .int (nI (o + 1))), (3, .int (nI (n + 1))), (0, .ref ia), (1, .int (nI i)), (2, .int (tr i))]) hx hb d_In_endingBefore_52 hl rfl (wi_inc1 _) (by decide) rfl (fun ls hl => ?_)
          refine lv_goto (tgt := 12) hx hb d_In_endingBefore_55 (by decide) ?_
          exact ih12 _ (by omega) (n + 1) (o + 1) _ _ _ rfl (by first | assumption | omega) (by first | exact lf_1 hn (Or.inl h29) | exact lf_1 hn (Or.inr ⟨h40, h46⟩) | exact lf_0 hn (fun z => z.elim h29 (fun z => h40 z.1)) | exact lf_0 hn (fun z => z.elim h29 (fun z => by have := z.2; omega))) hP hD hS (lv_sub hl [2, 3, 4, 1, 0] rfl)
        · intro h29
          refine lv_aload_n hx hb d_In_endingBefore_32 rfl (lv_at hl 0 rfl) ?_
          refine va_get (C := RX3) (T := TX3) (N := 5) hx hb hts inX3 hown hK hP 0 rfl rfl 2 (by decide) (hts _ m_87) (fun _ h9 => h9) rfl d_In_endingBefore_33 ?_
          refine lv_iload hx hb d_In_endingBefore_36 (lv_at hl 4 rfl) ?_
          refine wn_iald hx hb hK hP 2 0 rfl rfl (by omega) (by omega) d_In_endingBefore_38 ?_
          refine lv_iload_n hx hb d_In_endingBefore_39 rfl (lv_at hl 2 rfl) ?_
          refine lv_icmp_ne (tgt := 52) hx hb d_In_endingBefore_40 (by decide) ?_ ?_
          · intro h40
            refine lv_iinc (k := 4) (v := nI (o + 1)) (lv' := [(4, .int (nI (o + 1))), (0, .ref ia), (1, .int (nI i)), (2, .int (tr i)), (3, .int (nI n))]) hx hb d_In_endingBefore_52 hl rfl (wi_inc1 _) (by decide) rfl (fun ls hl => ?_)
            refine lv_goto (tgt := 12) hx hb d_In_endingBefore_55 (by decide) ?_
            exact ih12 _ (by omega) n (o + 1) _ _ _ rfl (by first | assumption | omega) (by first | exact lf_1 hn (Or.inl h29) | exact lf_1 hn (Or.inr ⟨h40, h46⟩) | exact lf_0 hn (fun z => z.elim h29 (fun z => h40 z.1)) | exact lf_0 hn (fun z => z.elim h29 (fun z => by have := z.2; omega))) hP hD hS (lv_sub hl [1, 2, 3, 4, 0] rfl)
          · intro h40
            refine lv_iload hx hb d_In_endingBefore_43 (lv_at hl 4 rfl) ?_
            refine lv_iload_n hx hb d_In_endingBefore_45 rfl (lv_at hl 1 rfl) ?_
            refine wn_icmp_ge (by omega) (by omega) (tgt := 52) hx hb d_In_endingBefore_46 (by decide) ?_ ?_
            · intro h46
              refine lv_iinc (k := 4) (v := nI (o + 1)) (lv' := [(4, .int (nI (o + 1))), (0, .ref ia), (1, .int (nI i)), (2, .int (tr i)), (3, .int (nI n))]) hx hb d_In_endingBefore_52 hl rfl (wi_inc1 _) (by decide) rfl (fun ls hl => ?_)
              refine lv_goto (tgt := 12) hx hb d_In_endingBefore_55 (by decide) ?_
              exact ih12 _ (by omega) n (o + 1) _ _ _ rfl (by first | assumption | omega) (by first | exact lf_1 hn (Or.inl h29) | exact lf_1 hn (Or.inr ⟨h40, h46⟩) | exact lf_0 hn (fun z => z.elim h29 (fun z => h40 z.1)) | exact lf_0 hn (fun z => z.elim h29 (fun z => by have := z.2; omega))) hP hD hS (lv_sub hl [1, 2, 3, 4, 0] rfl)
            · intro h46
              refine lv_iinc (k := 3) (v := nI (n + 1)) (lv' := [(3, .int (nI (n + 1))), (0, .ref ia), (1, .int (nI i)), (2, .int (tr i)), (4, .int (nI o))]) hx hb d_In_endingBefore_49 hl rfl (wi_inc1 _) (by decide) rfl (fun ls hl => ?_)
              refine lv_iinc (k := 4) (v := nI (o + 1)) (lv' := [(4, .int (nI (o + 1))), (3, .int (nI (n + 1))), (0, .ref ia), (1, .int (nI i)), (2, .int (tr i))]) hx hb d_In_endingBefore_52 hl rfl (wi_inc1 _) (by decide) rfl (fun ls hl => ?_)
              refine lv_goto (tgt := 12) hx hb d_In_endingBefore_55 (by decide) ?_
              exact ih12 _ (by omega) (n + 1) (o + 1) _ _ _ rfl (by first | assumption | omega) (by first | exact lf_1 hn (Or.inl h29) | exact lf_1 hn (Or.inr ⟨h40, h46⟩) | exact lf_0 hn (fun z => z.elim h29 (fun z => h40 z.1)) | exact lf_0 hn (fun z => z.elim h29 (fun z => by have := z.2; omega))) hP hD hS (lv_sub hl [2, 3, 4, 1, 0] rfl)
  exact L12 _ 0 0 _ _ _ rfl (by first | assumption | omega) rfl hP hD hS (lv_sub hl [3, 4, 2, 1, 0] rfl)
theorem k_In_endingBefore : cf_V y_In_endingBefore b_In_endingBefore 5 (some .int) "ReadMapper$Index" 1 := ⟨⟨m_835, (wm_s (q := (y_In_endingBefore, 5)) (by decide +kernel)), m_3, m_836⟩, by decide +kernel⟩
set_option maxHeartbeats 4000000 in
set_option maxRecDepth 100000 in
theorem c_In_settleRow (l : Launch) (D : va_G) (cA : Nat → ClassId) (K : Nat → Nat) (ia ix it ik rt : Nat) (pa pn ps pln pr : Nat) (num pl : Nat) (rw tr : Nat → Int32) (hpl0 : 0 < pl) (hpl : pl ≤ 65) : ck_I l y_In_settleRow (Cond.code y_In_settleRow b_In_settleRow 3 (some .boolean) :: w_all) 3 D cA K [.ref ia] [(ia, .inr (3, [.ref pa, .ref ix, .ref it, .ref ik, .int (nI rt)])), (pa, .inr (4, [.ref pn, .ref ps, .ref pln, .ref pr, .int (nI num), .int (nI pl)])), (pr, .inl (cA 0, 65, .inl rw)), (it, .inl (cA 0, 65, .inl tr))] (fun (r : Int32) (u : Nat → Int32) => (r = 1 ∧ (∀ p, p + 1 < pl → so_p rw tr pl p) ∧ ∀ p, p < pl → u p = if p + 1 < pl then sv_c (sx_c tr pl p) (rw p) else rw p) ∨ (r = 0 ∧ ¬ ∀ p, p + 1 < pl → so_p rw tr pl p)) (fun u => [(ia, .inr (3, [.ref pa, .ref ix, .ref it, .ref ik, .int (nI rt)])), (pa, .inr (4, [.ref pn, .ref ps, .ref pln, .ref pr, .int (nI num), .int (nI pl)])), (pr, .inl (cA 0, 65, .inl u)), (it, .inl (cA 0, 65, .inl tr))]) := by
  refine ck_mkI (by decide) (fun r u h => by rcases h with ⟨rfl, _⟩ | ⟨rfl, _⟩ <;> rfl) (Nat.le_of_ble_eq_true rfl) ?_
  intro pG eG sG mG argsG belowG methG cG Q A H locs ls hx hb hml hown hts hK hE hA hP hD hS hl hret
  have hl : lv_has ls 3 [(0, .ref ia)] := hl
  refine lv_iconst (v := nI 0) hx hb d_In_settleRow_0 (by decide) ?_
  refine lv_istore_n (lv' := [(1, .int (nI 0)), (0, .ref ia)]) hx hb d_In_settleRow_1 rfl hl (by decide) rfl (fun ls hl => ?_)
  refine lv_aload_n hx hb d_In_settleRow_2 rfl (lv_at hl 1 rfl) ?_
  refine ck_cV (C := "ReadMapper$Index") (ci := 3) (rest := []) (wr := [(pr, .inl (cA 0, 65, .inl rw)), (it, .inl (cA 0, 65, .inl tr))]) (ws2 := fun u => [(ia, .inr (3, [.ref pa, .ref ix, .ref it, .ref ik, .int (nI rt)])), (pa, .inr (4, [.ref pn, .ref ps, .ref pln, .ref pr, .int (nI num), .int (nI pl)])), (pr, .inl (cA 0, 65, .inl rw)), (it, .inl (cA 0, 65, .inl tr))]) (c_In_places l D cA K ia ix it ik rt pa pn ps pln pr num pl ) hx hb hml hown hts hK hE hA hP hD hS k_In_places m_267 (by decide) 0 rfl rfl rfl hl.1 rfl (Nat.le_of_ble_eq_true rfl) d_In_settleRow_3  [0, 1] [2, 3] [2, 3, 0, 1] rfl rfl (by decide) (fun _ => rfl) (fun r3 u3 H locs hq3 hP hD hS => ?_)
  try dsimp only at hq3
  have hP : va_P D vwCl [(ia, .inr (3, [.ref pa, .ref ix, .ref it, .ref ik, .int (nI rt)])), (pa, .inr (4, [.ref pn, .ref ps, .ref pln, .ref pr, .int (nI num), .int (nI pl)])), (pr, .inl (cA 0, 65, .inl rw)), (it, .inl (cA 0, 65, .inl tr))] H := hP
  have hD : va_D A [(ia, .inr (3, [.ref pa, .ref ix, .ref it, .ref ik, .int (nI rt)])), (pa, .inr (4, [.ref pn, .ref ps, .ref pln, .ref pr, .int (nI num), .int (nI pl)])), (pr, .inl (cA 0, 65, .inl rw)), (it, .inl (cA 0, 65, .inl tr))] := hD
  obtain rfl := hq3
  refine lv_iconst (v := 2) hx hb d_In_settleRow_6 (by decide) ?_
  refine lv_isub hx hb d_In_settleRow_7 ?_
  refine wn_eq (y := nI (pl - 1) - 1) (wi_m2 hpl0) ?_
  refine lv_istore_n (lv' := [(2, .int (nI (pl - 1) - 1)), (1, .int (nI 0)), (0, .ref ia)]) hx hb d_In_settleRow_8 rfl hl (by decide) rfl (fun ls hl => ?_)
  have L9 : ∀ (nG : Nat) (i o : Nat) (rw1 : Nat → Int32) (H : Heap) (locs : List Loc) (ls : Array Slot), o = nG → (o + 1 ≤ pl) → (i = it_c tr pl (pl - 1 - o)) → (∀ p, o ≤ p → p + 1 < pl → so_p rw tr pl p ∧ rw1 p = sv_c (sx_c tr pl p) (rw p)) → (∀ p, p < o ∨ pl ≤ p + 1 → rw1 p = rw p) →  va_P D vwCl [(ia, .inr (3, [.ref pa, .ref ix, .ref it, .ref ik, .int (nI rt)])), (pa, .inr (4, [.ref pn, .ref ps, .ref pln, .ref pr, .int (nI num), .int (nI pl)])), (pr, .inl (cA 0, 65, .inl rw1)), (it, .inl (cA 0, 65, .inl tr))] H → va_D A [(ia, .inr (3, [.ref pa, .ref ix, .ref it, .ref ik, .int (nI rt)])), (pa, .inr (4, [.ref pn, .ref ps, .ref pln, .ref pr, .int (nI num), .int (nI pl)])), (pr, .inl (cA 0, 65, .inl rw1)), (it, .inl (cA 0, 65, .inl tr))] → va_S A sG.heap H locs → lv_has ls 3 [(0, .ref ia), (1, .int (nI i)), (2, .int (nI o - 1))] → W pG l eG (rm_d 3) sG mG argsG belowG methG cG H locs 0 0 Q (F0 mG 9 ls []) := by
    intro nG
    induction nG using Nat.strongRecOn with
    | ind nG ih9 =>
      intro i o rw1 H locs ls hn9 ho hi hr1 hr2 hP hD hS hl
      have hil : i < pl := by rw [hi]; exact it_lt tr hpl0 _
      refine lv_iload_n hx hb d_In_settleRow_9 rfl (lv_at hl 2 rfl) ?_
      refine lv_if_lt (tgt := 44) hx hb d_In_settleRow_10 (by decide) ?_ ?_
      · intro h10
        refine lv_iconst (v := 1) hx hb d_In_settleRow_44 (by decide) ?_
        exact hret 1 rw1 _ _ _ 45 d_In_settleRow_45 (by have ho0 := in_zero hpl (show o ≤ pl by omega) h10; subst ho0; exact Or.inl ⟨rfl, fun p hp => (hr1 p (Nat.zero_le _) hp).1, fun p hp => if e : p + 1 < pl then (by rw [if_pos e]; exact (hr1 p (Nat.zero_le _) e).2) else (by rw [if_neg e]; exact hr2 p (Or.inr (by omega)))⟩) hP hD hS
      · intro h10
        obtain ⟨k, rfl⟩ : ∃ k, o = k + 1 := by
          cases o with
          | zero => exact absurd (by decide) h10
          | succ k => exact ⟨k, rfl⟩
        have hl : lv_has ls 3 [(0, .ref ia), (1, .int (nI i)), (2, .int (nI k))] := by rw [nI_pred] at hl; exact hl
        have hk0 : rw1 k = rw k := hr2 k (Or.inl (by omega))
        refine lv_aload_n hx hb d_In_settleRow_13 rfl (lv_at hl 0 rfl) ?_
        refine va_get (C := RX3) (T := TX3) (N := 5) hx hb hts inX3 hown hK hP 0 rfl rfl 0 (by decide) (hts _ m_83) (fun _ h9 => h9) rfl d_In_settleRow_14 ?_
        refine lv_iload_n hx hb d_In_settleRow_17 rfl (lv_at hl 2 rfl) ?_
        refine lv_aload_n hx hb d_In_settleRow_18 rfl (lv_at hl 0 rfl) ?_
        refine va_get (C := RX3) (T := TX3) (N := 5) hx hb hts inX3 hown hK hP 0 rfl rfl 2 (by decide) (hts _ m_87) (fun _ h9 => h9) rfl d_In_settleRow_19 ?_
        refine lv_iload_n hx hb d_In_settleRow_22 rfl (lv_at hl 1 rfl) ?_
        refine wn_iald hx hb hK hP 3 0 rfl rfl (by omega) (by omega) d_In_settleRow_23 ?_
        refine ck_cV (C := "ReadMapper$Pieces") (ci := 4) (rest := []) (wr := [(ia, .inr (3, [.ref pa, .ref ix, .ref it, .ref ik, .int (nI rt)])), (it, .inl (cA 0, 65, .inl tr))]) (ws2 := fun u => [(ia, .inr (3, [.ref pa, .ref ix, .ref it, .ref ik, .int (nI rt)])), (pa, .inr (4, [.ref pn, .ref ps, .ref pln, .ref pr, .int (nI num), .int (nI pl)])), (pr, .inl (cA 0, 65, .inl (se_c rw1 k (tr i)))), (it, .inl (cA 0, 65, .inl tr))]) (c_Pi_settle l D cA K pa pn ps pln pr num pl rw1 k (tr i) (by first | assumption | omega)) hx hb hml hown hts hK hE hA hP hD hS k_Pi_settle m_832 (by decide) 1 rfl rfl rfl hl.1 rfl (Nat.le_of_ble_eq_true rfl) d_In_settleRow_24  [1, 2] [0, 3] [0, 2, 3, 1] rfl rfl (by decide) (fun _ => rfl) (fun r24 u24 H locs hq24 hP hD hS => ?_)
        try dsimp only at hq24
        have hP : va_P D vwCl [(ia, .inr (3, [.ref pa, .ref ix, .ref it, .ref ik, .int (nI rt)])), (pa, .inr (4, [.ref pn, .ref ps, .ref pln, .ref pr, .int (nI num), .int (nI pl)])), (pr, .inl (cA 0, 65, .inl (se_c rw1 k (tr i)))), (it, .inl (cA 0, 65, .inl tr))] H := hP
        have hD : va_D A [(ia, .inr (3, [.ref pa, .ref ix, .ref it, .ref ik, .int (nI rt)])), (pa, .inr (4, [.ref pn, .ref ps, .ref pln, .ref pr, .int (nI num), .int (nI pl)])), (pr, .inl (cA 0, 65, .inl (se_c rw1 k (tr i)))), (it, .inl (cA 0, 65, .inl tr))] := hD
        rcases hq24 with ⟨rfl, hq24⟩ | ⟨rfl, hq24⟩
        ·
          refine lv_if_ne (tgt := 32) hx hb d_In_settleRow_27 (by decide) (fun _ => ?_) (fun h9 => absurd h9 (by decide))
          refine lv_aload_n hx hb d_In_settleRow_32 rfl (lv_at hl 0 rfl) ?_
          refine lv_iload_n hx hb d_In_settleRow_33 rfl (lv_at hl 1 rfl) ?_
          refine ck_cV (C := "ReadMapper$Index") (ci := 3) (rest := []) (wr := [(pr, .inl (cA 0, 65, .inl (se_c rw1 k (tr i))))]) (ws2 := fun u => [(ia, .inr (3, [.ref pa, .ref ix, .ref it, .ref ik, .int (nI rt)])), (pa, .inr (4, [.ref pn, .ref ps, .ref pln, .ref pr, .int (nI num), .int (nI pl)])), (pr, .inl (cA 0, 65, .inl (se_c rw1 k (tr i)))), (it, .inl (cA 0, 65, .inl tr))]) (c_In_endingBefore l D cA K ia ix it ik rt pa pn ps pln pr num pl tr i (by first | assumption | omega) (by first | assumption | omega)) hx hb hml hown hts hK hE hA hP hD hS k_In_endingBefore m_833 (by decide) 0 rfl rfl rfl hl.1 rfl (Nat.le_of_ble_eq_true rfl) d_In_settleRow_34  [0, 1, 3] [2] [1, 2, 0, 3] rfl rfl (by decide) (fun _ => rfl) (fun r34 u34 H locs hq34 hP hD hS => ?_)
          try dsimp only at hq34
          have hP : va_P D vwCl [(ia, .inr (3, [.ref pa, .ref ix, .ref it, .ref ik, .int (nI rt)])), (pa, .inr (4, [.ref pn, .ref ps, .ref pln, .ref pr, .int (nI num), .int (nI pl)])), (pr, .inl (cA 0, 65, .inl (se_c rw1 k (tr i)))), (it, .inl (cA 0, 65, .inl tr))] H := hP
          have hD : va_D A [(ia, .inr (3, [.ref pa, .ref ix, .ref it, .ref ik, .int (nI rt)])), (pa, .inr (4, [.ref pn, .ref ps, .ref pln, .ref pr, .int (nI num), .int (nI pl)])), (pr, .inl (cA 0, 65, .inl (se_c rw1 k (tr i)))), (it, .inl (cA 0, 65, .inl tr))] := hD
          obtain rfl := hq34
          refine lv_istore_n (lv' := [(1, .int (nI (lf_c tr pl i))), (0, .ref ia), (2, .int (nI k))]) hx hb d_In_settleRow_37 rfl hl (by decide) rfl (fun ls hl => ?_)
          refine lv_iinc (k := 2) (v := nI k - 1) (lv' := [(2, .int (nI k - 1)), (1, .int (nI (lf_c tr pl i))), (0, .ref ia)]) hx hb d_In_settleRow_38 hl rfl (wi_m1 _) (by decide) rfl (fun ls hl => ?_)
          refine lv_goto (tgt := 9) hx hb d_In_settleRow_41 (by decide) ?_
          exact ih9 _ (by omega) (lf_c tr pl i) k (se_c rw1 k (tr i)) _ _ _ rfl (by first | assumption | omega) (by rw [hi, show pl - 1 - k = pl - 1 - (k + 1) + 1 by omega]; rfl) (fun p h1 h2 => if e : p = k then by subst e; have hx1 : tr i = sx_c tr pl p := (by rw [hi]; unfold sx_c; rw [show pl - 2 - p = pl - 1 - (p + 1) by omega]); rw [hk0, hx1] at hq24; exact ⟨hq24, by rw [se_at, hk0, hx1]⟩ else ⟨(hr1 p (by omega) h2).1, (se_ne e).trans (hr1 p (by omega) h2).2⟩) (fun p h1 => (se_ne (by omega)).trans (hr2 p (by omega))) hP hD hS (lv_sub hl [2, 1, 0] rfl)
        ·
          refine lv_if_ne (tgt := 32) hx hb d_In_settleRow_27 (by decide) (fun h9 => absurd h9 (by decide)) (fun _ => ?_)
          refine lv_iconst (v := 0) hx hb d_In_settleRow_30 (by decide) ?_
          exact hret 0 (se_c rw1 k (tr i)) _ _ _ 31 d_In_settleRow_31 (Or.inr ⟨rfl, fun z => by have z1 := z k (by omega); have hx1 : tr i = sx_c tr pl k := (by rw [hi]; unfold sx_c; rw [show pl - 2 - k = pl - 1 - (k + 1) by omega]); rw [hk0, hx1] at hq24; exact hq24 z1⟩) hP hD hS
  exact L9 _ 0 (pl - 1) rw _ _ _ rfl (by first | assumption | omega) (by rw [Nat.sub_self]; rfl) (fun p h1 h2 => by omega) (fun _ _ => rfl) hP hD hS (lv_sub hl [2, 1, 0] rfl)
theorem k_In_settleRow : cf_V y_In_settleRow b_In_settleRow 3 (some .boolean) "ReadMapper$Index" 0 := ⟨⟨m_829, m_830, m_3, m_831⟩, by decide +kernel⟩
