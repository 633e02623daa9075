/-! what arrange leaves; an ending begins with what is sought -/
def ar_p (rw sf tr : Nat → Int32) (pl : Nat) : Prop := ∀ j, j < pl → sf (rk_a (ky_c rw) pl j) = nI j ∧ tr (rk_a (ky_c rw) pl j) = if j = 0 then 0 else rw (j - 1)
def bw_p (rw : Nat → Int32) (pl : Nat) (B : List Int32) (p : Nat) : Prop := B.length ≤ pl - p ∧ ∀ z, z < B.length → rw (p + z) = B.getD z 0
theorem wi_m1 (x : Int32) : x + Int32.ofInt (-1) = x - 1 := by rw [Int32.sub_eq_add_neg]; rfl
theorem in_zero {i : Nat} {n : Nat} (hn : n ≤ 65) (hi : i ≤ n) (h : nI i - 1 < 0) : i = 0 := by
  cases i with
  | zero => rfl
  | succ k =>
    rw [nI_pred] at h
    exact absurd h (nI_pos (by omega))

theorem d_In_arrange_0 : decode b_In_arrange 0 = .ok (.aload_n 0, 1) := by decide +kernel
theorem d_In_arrange_1 : decode b_In_arrange 1 = .ok (.iload_n 1, 1) := by decide +kernel
theorem d_In_arrange_2 : decode b_In_arrange 2 = .ok (.putfield 28, 3) := by decide +kernel
theorem d_In_arrange_5 : decode b_In_arrange 5 = .ok (.aload_n 0, 1) := by decide +kernel
theorem d_In_arrange_6 : decode b_In_arrange 6 = .ok (.getfield 25, 3) := by decide +kernel
theorem d_In_arrange_9 : decode b_In_arrange 9 = .ok (.aload_n 0, 1) := by decide +kernel
theorem d_In_arrange_10 : decode b_In_arrange 10 = .ok (.invokevirtual 35, 3) := by decide +kernel
theorem d_In_arrange_13 : decode b_In_arrange 13 = .ok (.iconst (-1), 1) := by decide +kernel
theorem d_In_arrange_14 : decode b_In_arrange 14 = .ok (.iastore, 1) := by decide +kernel
theorem d_In_arrange_15 : decode b_In_arrange 15 = .ok (.aload_n 0, 1) := by decide +kernel
theorem d_In_arrange_16 : decode b_In_arrange 16 = .ok (.invokevirtual 35, 3) := by decide +kernel
theorem d_In_arrange_19 : decode b_In_arrange 19 = .ok (.iconst 1, 1) := by decide +kernel
theorem d_In_arrange_20 : decode b_In_arrange 20 = .ok (.isub, 1) := by decide +kernel
theorem d_In_arrange_21 : decode b_In_arrange 21 = .ok (.istore_n 2, 1) := by decide +kernel
theorem d_In_arrange_22 : decode b_In_arrange 22 = .ok (.iload_n 2, 1) := by decide +kernel
theorem d_In_arrange_23 : decode b_In_arrange 23 = .ok (.ifCond .lt 14, 3) := by decide +kernel
theorem d_In_arrange_26 : decode b_In_arrange 26 = .ok (.aload_n 0, 1) := by decide +kernel
theorem d_In_arrange_27 : decode b_In_arrange 27 = .ok (.iload_n 2, 1) := by decide +kernel
theorem d_In_arrange_28 : decode b_In_arrange 28 = .ok (.invokevirtual 42, 3) := by decide +kernel
theorem d_In_arrange_31 : decode b_In_arrange 31 = .ok (.iinc 2 (-1), 3) := by decide +kernel
theorem d_In_arrange_34 : decode b_In_arrange 34 = .ok (.goto (-12), 3) := by decide +kernel
theorem d_In_arrange_37 : decode b_In_arrange 37 = .ok (.iconst 0, 1) := by decide +kernel
theorem d_In_arrange_38 : decode b_In_arrange 38 = .ok (.istore_n 2, 1) := by decide +kernel
theorem d_In_arrange_39 : decode b_In_arrange 39 = .ok (.iload_n 2, 1) := by decide +kernel
theorem d_In_arrange_40 : decode b_In_arrange 40 = .ok (.aload_n 0, 1) := by decide +kernel
theorem d_In_arrange_41 : decode b_In_arrange 41 = .ok (.invokevirtual 35, 3) := by decide +kernel
theorem d_In_arrange_44 : decode b_In_arrange 44 = .ok (.if_icmp .ge 48, 3) := by decide +kernel
theorem d_In_arrange_47 : decode b_In_arrange 47 = .ok (.aload_n 0, 1) := by decide +kernel
theorem d_In_arrange_48 : decode b_In_arrange 48 = .ok (.getfield 25, 3) := by decide +kernel
theorem d_In_arrange_51 : decode b_In_arrange 51 = .ok (.iload_n 2, 1) := by decide +kernel
theorem d_In_arrange_52 : decode b_In_arrange 52 = .ok (.iaload, 1) := by decide +kernel
theorem d_In_arrange_53 : decode b_In_arrange 53 = .ok (.istore_n 3, 1) := by decide +kernel
theorem d_In_arrange_54 : decode b_In_arrange 54 = .ok (.aload_n 0, 1) := by decide +kernel
theorem d_In_arrange_55 : decode b_In_arrange 55 = .ok (.getfield 18, 3) := by decide +kernel
theorem d_In_arrange_58 : decode b_In_arrange 58 = .ok (.iload_n 3, 1) := by decide +kernel
theorem d_In_arrange_59 : decode b_In_arrange 59 = .ok (.iload_n 2, 1) := by decide +kernel
theorem d_In_arrange_60 : decode b_In_arrange 60 = .ok (.iastore, 1) := by decide +kernel
theorem d_In_arrange_61 : decode b_In_arrange 61 = .ok (.aload_n 0, 1) := by decide +kernel
theorem d_In_arrange_62 : decode b_In_arrange 62 = .ok (.getfield 22, 3) := by decide +kernel
theorem d_In_arrange_65 : decode b_In_arrange 65 = .ok (.iload_n 3, 1) := by decide +kernel
theorem d_In_arrange_66 : decode b_In_arrange 66 = .ok (.iload_n 2, 1) := by decide +kernel
theorem d_In_arrange_67 : decode b_In_arrange 67 = .ok (.ifCond .ne 7, 3) := by decide +kernel
theorem d_In_arrange_70 : decode b_In_arrange 70 = .ok (.iconst 0, 1) := by decide +kernel
theorem d_In_arrange_71 : decode b_In_arrange 71 = .ok (.goto 14, 3) := by decide +kernel
theorem d_In_arrange_74 : decode b_In_arrange 74 = .ok (.aload_n 0, 1) := by decide +kernel
theorem d_In_arrange_75 : decode b_In_arrange 75 = .ok (.getfield 12, 3) := by decide +kernel
theorem d_In_arrange_78 : decode b_In_arrange 78 = .ok (.getfield 46, 3) := by decide +kernel
theorem d_In_arrange_81 : decode b_In_arrange 81 = .ok (.iload_n 2, 1) := by decide +kernel
theorem d_In_arrange_82 : decode b_In_arrange 82 = .ok (.iconst 1, 1) := by decide +kernel
theorem d_In_arrange_83 : decode b_In_arrange 83 = .ok (.isub, 1) := by decide +kernel
theorem d_In_arrange_84 : decode b_In_arrange 84 = .ok (.iaload, 1) := by decide +kernel
theorem d_In_arrange_85 : decode b_In_arrange 85 = .ok (.iastore, 1) := by decide +kernel
theorem d_In_arrange_86 : decode b_In_arrange 86 = .ok (.iinc 2 1, 3) := by decide +kernel
theorem d_In_arrange_89 : decode b_In_arrange 89 = .ok (.goto (-50), 3) := by decide +kernel
theorem d_In_arrange_92 : decode b_In_arrange 92 = .ok (.return_, 1) := by decide +kernel
theorem d_In_beginsWith_0 : decode b_In_beginsWith 0 = .ok (.aload_n 0, 1) := by decide +kernel
theorem d_In_beginsWith_1 : decode b_In_beginsWith 1 = .ok (.getfield 18, 3) := by decide +kernel
theorem d_In_beginsWith_4 : decode b_In_beginsWith 4 = .ok (.iload_n 1, 1) := by decide +kernel
theorem d_In_beginsWith_5 : decode b_In_beginsWith 5 = .ok (.iaload, 1) := by decide +kernel
theorem d_In_beginsWith_6 : decode b_In_beginsWith 6 = .ok (.istore_n 3, 1) := by decide +kernel
theorem d_In_beginsWith_7 : decode b_In_beginsWith 7 = .ok (.aload_n 2, 1) := by decide +kernel
theorem d_In_beginsWith_8 : decode b_In_beginsWith 8 = .ok (.invokevirtual 53, 3) := by decide +kernel
theorem d_In_beginsWith_11 : decode b_In_beginsWith 11 = .ok (.aload_n 0, 1) := by decide +kernel
theorem d_In_beginsWith_12 : decode b_In_beginsWith 12 = .ok (.invokevirtual 35, 3) := by decide +kernel
theorem d_In_beginsWith_15 : decode b_In_beginsWith 15 = .ok (.iload_n 3, 1) := by decide +kernel
theorem d_In_beginsWith_16 : decode b_In_beginsWith 16 = .ok (.isub, 1) := by decide +kernel
theorem d_In_beginsWith_17 : decode b_In_beginsWith 17 = .ok (.if_icmp .le 5, 3) := by decide +kernel
theorem d_In_beginsWith_20 : decode b_In_beginsWith 20 = .ok (.iconst 0, 1) := by decide +kernel
theorem d_In_beginsWith_21 : decode b_In_beginsWith 21 = .ok (.ireturn, 1) := by decide +kernel
theorem d_In_beginsWith_22 : decode b_In_beginsWith 22 = .ok (.iconst 0, 1) := by decide +kernel
theorem d_In_beginsWith_23 : decode b_In_beginsWith 23 = .ok (.istore 4, 2) := by decide +kernel
theorem d_In_beginsWith_25 : decode b_In_beginsWith 25 = .ok (.iload 4, 2) := by decide +kernel
theorem d_In_beginsWith_27 : decode b_In_beginsWith 27 = .ok (.aload_n 2, 1) := by decide +kernel
theorem d_In_beginsWith_28 : decode b_In_beginsWith 28 = .ok (.invokevirtual 53, 3) := by decide +kernel
theorem d_In_beginsWith_31 : decode b_In_beginsWith 31 = .ok (.if_icmp .ge 32, 3) := by decide +kernel
theorem d_In_beginsWith_34 : decode b_In_beginsWith 34 = .ok (.aload_n 0, 1) := by decide +kernel
theorem d_In_beginsWith_35 : decode b_In_beginsWith 35 = .ok (.getfield 12, 3) := by decide +kernel
theorem d_In_beginsWith_38 : decode b_In_beginsWith 38 = .ok (.getfield 46, 3) := by decide +kernel
theorem d_In_beginsWith_41 : decode b_In_beginsWith 41 = .ok (.iload_n 3, 1) := by decide +kernel
theorem d_In_beginsWith_42 : decode b_In_beginsWith 42 = .ok (.iload 4, 2) := by decide +kernel
theorem d_In_beginsWith_44 : decode b_In_beginsWith 44 = .ok (.iadd, 1) := by decide +kernel
theorem d_In_beginsWith_45 : decode b_In_beginsWith 45 = .ok (.iaload, 1) := by decide +kernel
theorem d_In_beginsWith_46 : decode b_In_beginsWith 46 = .ok (.aload_n 2, 1) := by decide +kernel
theorem d_In_beginsWith_47 : decode b_In_beginsWith 47 = .ok (.iload 4, 2) := by decide +kernel
theorem d_In_beginsWith_49 : decode b_In_beginsWith 49 = .ok (.invokevirtual 58, 3) := by decide +kernel
theorem d_In_beginsWith_52 : decode b_In_beginsWith 52 = .ok (.if_icmp .eq 5, 3) := by decide +kernel
theorem d_In_beginsWith_55 : decode b_In_beginsWith 55 = .ok (.iconst 0, 1) := by decide +kernel
theorem d_In_beginsWith_56 : decode b_In_beginsWith 56 = .ok (.ireturn, 1) := by decide +kernel
theorem d_In_beginsWith_57 : decode b_In_beginsWith 57 = .ok (.iinc 4 1, 3) := by decide +kernel
theorem d_In_beginsWith_60 : decode b_In_beginsWith 60 = .ok (.goto (-35), 3) := by decide +kernel
theorem d_In_beginsWith_63 : decode b_In_beginsWith 63 = .ok (.iconst 1, 1) := by decide +kernel
theorem d_In_beginsWith_64 : decode b_In_beginsWith 64 = .ok (.ireturn, 1) := by decide +kernel
theorem d_In_leastWith_0 : decode b_In_leastWith 0 = .ok (.iconst 0, 1) := by decide +kernel
theorem d_In_leastWith_1 : decode b_In_leastWith 1 = .ok (.istore_n 2, 1) := by decide +kernel
theorem d_In_leastWith_2 : decode b_In_leastWith 2 = .ok (.iload_n 2, 1) := by decide +kernel
theorem d_In_leastWith_3 : decode b_In_leastWith 3 = .ok (.aload_n 0, 1) := by decide +kernel
theorem d_In_leastWith_4 : decode b_In_leastWith 4 = .ok (.invokevirtual 35, 3) := by decide +kernel
theorem d_In_leastWith_7 : decode b_In_leastWith 7 = .ok (.if_icmp .ge 20, 3) := by decide +kernel
theorem d_In_leastWith_10 : decode b_In_leastWith 10 = .ok (.aload_n 0, 1) := by decide +kernel
theorem d_In_leastWith_11 : decode b_In_leastWith 11 = .ok (.iload_n 2, 1) := by decide +kernel
theorem d_In_leastWith_12 : decode b_In_leastWith 12 = .ok (.aload_n 1, 1) := by decide +kernel
theorem d_In_leastWith_13 : decode b_In_leastWith 13 = .ok (.invokevirtual 62, 3) := by decide +kernel
theorem d_In_leastWith_16 : decode b_In_leastWith 16 = .ok (.ifCond .eq 5, 3) := by decide +kernel
theorem d_In_leastWith_19 : decode b_In_leastWith 19 = .ok (.iload_n 2, 1) := by decide +kernel
theorem d_In_leastWith_20 : decode b_In_leastWith 20 = .ok (.ireturn, 1) := by decide +kernel
theorem d_In_leastWith_21 : decode b_In_leastWith 21 = .ok (.iinc 2 1, 3) := by decide +kernel
theorem d_In_leastWith_24 : decode b_In_leastWith 24 = .ok (.goto (-22), 3) := by decide +kernel
theorem d_In_leastWith_27 : decode b_In_leastWith 27 = .ok (.iconst (-1), 1) := by decide +kernel
theorem d_In_leastWith_28 : decode b_In_leastWith 28 = .ok (.ireturn, 1) := by decide +kernel
theorem d_In_countWith_0 : decode b_In_countWith 0 = .ok (.iconst 0, 1) := by decide +kernel
theorem d_In_countWith_1 : decode b_In_countWith 1 = .ok (.istore_n 2, 1) := by decide +kernel
theorem d_In_countWith_2 : decode b_In_countWith 2 = .ok (.iconst 0, 1) := by decide +kernel
theorem d_In_countWith_3 : decode b_In_countWith 3 = .ok (.istore_n 3, 1) := by decide +kernel
theorem d_In_countWith_4 : decode b_In_countWith 4 = .ok (.iload_n 3, 1) := by decide +kernel
theorem d_In_countWith_5 : decode b_In_countWith 5 = .ok (.aload_n 0, 1) := by decide +kernel
theorem d_In_countWith_6 : decode b_In_countWith 6 = .ok (.invokevirtual 35, 3) := by decide +kernel
theorem d_In_countWith_9 : decode b_In_countWith 9 = .ok (.if_icmp .ge 21, 3) := by decide +kernel
theorem d_In_countWith_12 : decode b_In_countWith 12 = .ok (.aload_n 0, 1) := by decide +kernel
theorem d_In_countWith_13 : decode b_In_countWith 13 = .ok (.iload_n 3, 1) := by decide +kernel
theorem d_In_countWith_14 : decode b_In_countWith 14 = .ok (.aload_n 1, 1) := by decide +kernel
theorem d_In_countWith_15 : decode b_In_countWith 15 = .ok (.invokevirtual 62, 3) := by decide +kernel
theorem d_In_countWith_18 : decode b_In_countWith 18 = .ok (.ifCond .eq 6, 3) := by decide +kernel
theorem d_In_countWith_21 : decode b_In_countWith 21 = .ok (.iinc 2 1, 3) := by decide +kernel
theorem d_In_countWith_24 : decode b_In_countWith 24 = .ok (.iinc 3 1, 3) := by decide +kernel
theorem d_In_countWith_27 : decode b_In_countWith 27 = .ok (.goto (-23), 3) := by decide +kernel
theorem d_In_countWith_30 : decode b_In_countWith 30 = .ok (.iload_n 2, 1) := by decide +kernel
theorem d_In_countWith_31 : decode b_In_countWith 31 = .ok (.ireturn, 1) := by decide +kernel
set_option maxHeartbeats 4000000 in
set_option maxRecDepth 100000 in
theorem c_In_arrange (l : Launch) (D : va_G) (cA : Nat → ClassId) (K : Nat → Nat) (ia ix it ik rt : Nat) (pa pn ps pln pr : Nat) (num pl : Nat) (rw sf tr rk : Nat → Int32) (rt2 : Nat) (hpl0 : 0 < pl) (hpl : pl ≤ 65) (hk : rw_k (ky_c rw) pl) : ck_V l y_In_arrange (Cond.code y_In_arrange b_In_arrange 4 none :: w_all) 3 D cA K [.ref ia, .int (nI rt2)] [(ia, .inr (3, [.ref pa, .ref ix, .ref it, .ref ik, .int (nI rt)])), (pa, .inr (4, [.ref pn, .ref ps, .ref pln, .ref pr, .int (nI num), .int (nI pl)])), (pr, .inl (cA 0, 65, .inl rw)), (ix, .inl (cA 0, 65, .inl sf)), (it, .inl (cA 0, 65, .inl tr)), (ik, .inl (cA 0, 66, .inl rk))] (fun (u : (Nat → Int32) × (Nat → Int32) × (Nat → Int32)) => ar_p rw u.1 u.2.1 pl) (fun u => [(ia, .inr (3, [.ref pa, .ref ix, .ref it, .ref ik, .int (nI rt2)])), (pa, .inr (4, [.ref pn, .ref ps, .ref pln, .ref pr, .int (nI num), .int (nI pl)])), (pr, .inl (cA 0, 65, .inl rw)), (ix, .inl (cA 0, 65, .inl u.1)), (it, .inl (cA 0, 65, .inl u.2.1)), (ik, .inl (cA 0, 66, .inl u.2.2))]) := by
  refine ck_mkV (by decide) (Nat.le_of_ble_eq_true rfl) ?_
  intro pG eG sG mG argsG belowG methG cG Q A H locs ls hx hb hml hown hts hK hE hA hP hD hS hl hret
  have hl : lv_has ls 4 [(0, .ref ia), (1, .int (nI rt2))] := hl
  refine lv_aload_n hx hb d_In_arrange_0 rfl (lv_at hl 0 rfl) ?_
  refine lv_iload_n hx hb d_In_arrange_1 rfl (lv_at hl 1 rfl) ?_
  refine va_put (D := D) (ci := 3) (v := .int (nI rt2)) (ty := .int) (C := RX3) (T := TX3) (N := 5) hx hb hts inX3 tyX3 tyX3_ok nmX3 hown hK hP hD hS 0 rfl rfl 4 (by decide) (hts _ m_90) (fun _ h9 => h9) rfl (by decide +kernel) rfl rfl (Nat.le_of_ble_eq_true rfl) d_In_arrange_2 (fun H locs hP hD hS => ?_)
  have hP : va_P D vwCl [(ia, .inr (3, [.ref pa, .ref ix, .ref it, .ref ik, .int (nI rt2)])), (pa, .inr (4, [.ref pn, .ref ps, .ref pln, .ref pr, .int (nI num), .int (nI pl)])), (pr, .inl (cA 0, 65, .inl rw)), (ix, .inl (cA 0, 65, .inl sf)), (it, .inl (cA 0, 65, .inl tr)), (ik, .inl (cA 0, 66, .inl rk))] H := hP
  have hD : va_D A [(ia, .inr (3, [.ref pa, .ref ix, .ref it, .ref ik, .int (nI rt2)])), (pa, .inr (4, [.ref pn, .ref ps, .ref pln, .ref pr, .int (nI num), .int (nI pl)])), (pr, .inl (cA 0, 65, .inl rw)), (ix, .inl (cA 0, 65, .inl sf)), (it, .inl (cA 0, 65, .inl tr)), (ik, .inl (cA 0, 66, .inl rk))] := hD
  refine lv_aload_n hx hb d_In_arrange_5 rfl (lv_at hl 0 rfl) ?_
  refine va_get (C := RX3) (T := TX3) (N := 5) hx hb hts inX3 hown hK hP 0 rfl rfl 3 (by decide) (hts _ m_89) (fun _ h9 => h9) rfl d_In_arrange_6 ?_
  refine lv_aload_n hx hb d_In_arrange_9 rfl (lv_at hl 0 rfl) ?_
  refine ck_cV (C := "ReadMapper$Index") (ci := 3) (rest := [.ref ik]) (wr := [(pr, .inl (cA 0, 65, .inl rw)), (ix, .inl (cA 0, 65, .inl sf)), (it, .inl (cA 0, 65, .inl tr)), (ik, .inl (cA 0, 66, .inl rk))]) (ws2 := fun u => [(ia, .inr (3, [.ref pa, .ref ix, .ref it, .ref ik, .int (nI rt2)])), (pa, .inr (4, [.ref pn, .ref ps, .ref pln, .ref pr, .int (nI num), .int (nI pl)])), (pr, .inl (cA 0, 65, .inl rw)), (ix, .inl (cA 0, 65, .inl sf)), (it, .inl (cA 0, 65, .inl tr)), (ik, .inl (cA 0, 66, .inl rk))]) (c_In_places l D cA K ia ix it ik rt2 pa pn ps pln pr num pl ) hx hb hml hown hts hK hE hA hP hD hS k_In_places m_267 (by decide) 0 rfl rfl rfl hl.1 rfl (Nat.le_of_ble_eq_true rfl) d_In_arrange_10  [0, 1] [2, 3, 4, 5] [4, 5, 0, 1, 2, 3] rfl rfl (by decide) (fun _ => rfl) (fun r10 u10 H locs hq10 hP hD hS => ?_)
  try dsimp only at hq10
  have hP : va_P D vwCl [(ia, .inr (3, [.ref pa, .ref ix, .ref it, .ref ik, .int (nI rt2)])), (pa, .inr (4, [.ref pn, .ref ps, .ref pln, .ref pr, .int (nI num), .int (nI pl)])), (pr, .inl (cA 0, 65, .inl rw)), (ix, .inl (cA 0, 65, .inl sf)), (it, .inl (cA 0, 65, .inl tr)), (ik, .inl (cA 0, 66, .inl rk))] H := hP
  have hD : va_D A [(ia, .inr (3, [.ref pa, .ref ix, .ref it, .ref ik, .int (nI rt2)])), (pa, .inr (4, [.ref pn, .ref ps, .ref pln, .ref pr, .int (nI num), .int (nI pl)])), (pr, .inl (cA 0, 65, .inl rw)), (ix, .inl (cA 0, 65, .inl sf)), (it, .inl (cA 0, 65, .inl tr)), (ik, .inl (cA 0, 66, .inl rk))] := hD
  obtain rfl := hq10
  refine lv_iconst (v := (-1)) hx hb d_In_arrange_13 (by decide) ?_
  refine wn_iast hx hb hK hP hD hS 5 0 rfl rfl (by omega) (by omega) d_In_arrange_14 (fun H locs hP hD hS => ?_)
  have hP : va_P D vwCl [(ia, .inr (3, [.ref pa, .ref ix, .ref it, .ref ik, .int (nI rt2)])), (pa, .inr (4, [.ref pn, .ref ps, .ref pln, .ref pr, .int (nI num), .int (nI pl)])), (pr, .inl (cA 0, 65, .inl rw)), (ix, .inl (cA 0, 65, .inl sf)), (it, .inl (cA 0, 65, .inl tr)), (ik, .inl (cA 0, 66, .inl (upd rk pl (-1))))] H := hP
  have hD : va_D A [(ia, .inr (3, [.ref pa, .ref ix, .ref it, .ref ik, .int (nI rt2)])), (pa, .inr (4, [.ref pn, .ref ps, .ref pln, .ref pr, .int (nI num), .int (nI pl)])), (pr, .inl (cA 0, 65, .inl rw)), (ix, .inl (cA 0, 65, .inl sf)), (it, .inl (cA 0, 65, .inl tr)), (ik, .inl (cA 0, 66, .inl (upd rk pl (-1))))] := hD
  refine lv_aload_n hx hb d_In_arrange_15 rfl (lv_at hl 0 rfl) ?_
  refine ck_cV (C := "ReadMapper$Index") (ci := 3) (rest := []) (wr := [(pr, .inl (cA 0, 65, .inl rw)), (ix, .inl (cA 0, 65, .inl sf)), (it, .inl (cA 0, 65, .inl tr)), (ik, .inl (cA 0, 66, .inl (upd rk pl (-1))))]) (ws2 := fun u => [(ia, .inr (3, [.ref pa, .ref ix, .ref it, .ref ik, .int (nI rt2)])), (pa, .inr (4, [.ref pn, .ref ps, .ref pln, .ref pr, .int (nI num), .int (nI pl)])), (pr, .inl (cA 0, 65, .inl rw)), (ix, .inl (cA 0, 65, .inl sf)), (it, .inl (cA 0, 65, .inl tr)), (ik, .inl (cA 0, 66, .inl (upd rk pl (-1))))]) (c_In_places l D cA K ia ix it ik rt2 pa pn ps pln pr num pl ) hx hb hml hown hts hK hE hA hP hD hS k_In_places m_267 (by decide) 0 rfl rfl rfl hl.1 rfl (Nat.le_of_ble_eq_true rfl) d_In_arrange_16  [0, 1] [2, 3, 4, 5] [4, 5, 0, 1, 2, 3] rfl rfl (by decide) (fun _ => rfl) (fun r16 u16 H locs hq16 hP hD hS => ?_)
  try dsimp only at hq16
  have hP : va_P D vwCl [(ia, .inr (3, [.ref pa, .ref ix, .ref it, .ref ik, .int (nI rt2)])), (pa, .inr (4, [.ref pn, .ref ps, .ref pln, .ref pr, .int (nI num), .int (nI pl)])), (pr, .inl (cA 0, 65, .inl rw)), (ix, .inl (cA 0, 65, .inl sf)), (it, .inl (cA 0, 65, .inl tr)), (ik, .inl (cA 0, 66, .inl (upd rk pl (-1))))] H := hP
  have hD : va_D A [(ia, .inr (3, [.ref pa, .ref ix, .ref it, .ref ik, .int (nI rt2)])), (pa, .inr (4, [.ref pn, .ref ps, .ref pln, .ref pr, .int (nI num), .int (nI pl)])), (pr, .inl (cA 0, 65, .inl rw)), (ix, .inl (cA 0, 65, .inl sf)), (it, .inl (cA 0, 65, .inl tr)), (ik, .inl (cA 0, 66, .inl (upd rk pl (-1))))] := hD
  obtain rfl := hq16
  refine lv_iconst (v := 1) hx hb d_In_arrange_19 (by decide) ?_
  refine lv_isub hx hb d_In_arrange_20 ?_
  refine lv_istore_n (lv' := [(2, .int ((nI pl) - 1)), (0, .ref ia), (1, .int (nI rt2))]) hx hb d_In_arrange_21 rfl hl (by decide) rfl (fun ls hl => ?_)
  have L22 : ∀ (nG : Nat) (i : Nat) (rk1 : Nat → Int32) (H : Heap) (locs : List Loc) (ls : Array Slot), i = nG → (i ≤ pl) → ((∀ j, i ≤ j → j < pl → rk1 j = nI (rk_m (ky_c rw) pl i j))) → (rk1 pl = -1) →  va_P D vwCl [(ia, .inr (3, [.ref pa, .ref ix, .ref it, .ref ik, .int (nI rt2)])), (pa, .inr (4, [.ref pn, .ref ps, .ref pln, .ref pr, .int (nI num), .int (nI pl)])), (pr, .inl (cA 0, 65, .inl rw)), (ix, .inl (cA 0, 65, .inl sf)), (it, .inl (cA 0, 65, .inl tr)), (ik, .inl (cA 0, 66, .inl rk1))] H → va_D A [(ia, .inr (3, [.ref pa, .ref ix, .ref it, .ref ik, .int (nI rt2)])), (pa, .inr (4, [.ref pn, .ref ps, .ref pln, .ref pr, .int (nI num), .int (nI pl)])), (pr, .inl (cA 0, 65, .inl rw)), (ix, .inl (cA 0, 65, .inl sf)), (it, .inl (cA 0, 65, .inl tr)), (ik, .inl (cA 0, 66, .inl rk1))] → va_S A sG.heap H locs → lv_has ls 4 [(0, .ref ia), (2, .int (nI i - 1))] → W pG l eG (rm_d 3) sG mG argsG belowG methG cG H locs 0 0 Q (F0 mG 22 ls []) := by
    intro nG
    induction nG using Nat.strongRecOn with
    | ind nG ih22 =>
      intro i rk1 H locs ls hn22 hi hr1 hr2 hP hD hS hl
      refine lv_iload_n hx hb d_In_arrange_22 rfl (lv_at hl 1 rfl) ?_
      refine lv_if_lt (tgt := 37) hx hb d_In_arrange_23 (by decide) ?_ ?_
      · intro h23
        have hi0 : i = 0 := in_zero hpl hi h23
        subst hi0
        refine lv_iconst (v := nI 0) hx hb d_In_arrange_37 (by decide) ?_
        refine lv_istore_n (lv' := [(2, .int (nI 0)), (0, .ref ia)]) hx hb d_In_arrange_38 rfl hl (by decide) rfl (fun ls hl => ?_)
        have L39 : ∀ (nG : Nat) (i : Nat) (sf1 tr1 : Nat → Int32) (H : Heap) (locs : List Loc) (ls : Array Slot), pl - i = nG → (i ≤ pl) → ((∀ j, j < i → sf1 (rk_a (ky_c rw) pl j) = nI j)) → ((∀ j, j < i → tr1 (rk_a (ky_c rw) pl j) = if j = 0 then 0 else rw (j - 1))) →  va_P D vwCl [(ia, .inr (3, [.ref pa, .ref ix, .ref it, .ref ik, .int (nI rt2)])), (pa, .inr (4, [.ref pn, .ref ps, .ref pln, .ref pr, .int (nI num), .int (nI pl)])), (pr, .inl (cA 0, 65, .inl rw)), (ix, .inl (cA 0, 65, .inl sf1)), (it, .inl (cA 0, 65, .inl tr1)), (ik, .inl (cA 0, 66, .inl rk1))] H → va_D A [(ia, .inr (3, [.ref pa, .ref ix, .ref it, .ref ik, .int (nI rt2)])), (pa, .inr (4, [.ref pn, .ref ps, .ref pln, .ref pr, .int (nI num), .int (nI pl)])), (pr, .inl (cA 0, 65, .inl rw)), (ix, .inl (cA 0, 65, .inl sf1)), (it, .inl (cA 0, 65, .inl tr1)), (ik, .inl (cA 0, 66, .inl rk1))] → va_S A sG.heap H locs → lv_has ls 4 [(0, .ref ia), (2, .int (nI i))] → W pG l eG (rm_d 3) sG mG argsG belowG methG cG H locs 0 0 Q (F0 mG 39 ls []) := by
          intro nG
          induction nG using Nat.strongRecOn with
          | ind nG ih39 =>
            intro i sf1 tr1 H locs ls hn39 hi3 hs1 hs2 hP hD hS hl
            refine lv_iload_n hx hb d_In_arrange_39 rfl (lv_at hl 1 rfl) ?_
            refine lv_aload_n hx hb d_In_arrange_40 rfl (lv_at hl 0 rfl) ?_
            refine ck_cV (C := "ReadMapper$Index") (ci := 3) (rest := [.int (nI i)]) (wr := [(pr, .inl (cA 0, 65, .inl rw)), (ix, .inl (cA 0, 65, .inl sf1)), (it, .inl (cA 0, 65, .inl tr1)), (ik, .inl (cA 0, 66, .inl rk1))]) (ws2 := fun u => [(ia, .inr (3, [.ref pa, .ref ix, .ref it, .ref ik, .int (nI rt2)])), (pa, .inr (4, [.ref pn, .ref ps, .ref pln, .ref pr, .int (nI num), .int (nI pl)])), (pr, .inl (cA 0, 65, .inl rw)), (ix, .inl (cA 0, 65, .inl sf1)), (it, .inl (cA 0, 65, .inl tr1)), (ik, .inl (cA 0, 66, .inl rk1))]) (c_In_places l D cA K ia ix it ik rt2 pa pn ps pln pr num pl ) hx hb hml hown hts hK hE hA hP hD hS k_In_places m_267 (by decide) 0 rfl rfl rfl hl.1 rfl (Nat.le_of_ble_eq_true rfl) d_In_arrange_41  [0, 1] [2, 3, 4, 5] [4, 5, 0, 1, 2, 3] rfl rfl (by decide) (fun _ => rfl) (fun r41 u41 H locs hq41 hP hD hS => ?_)
            try dsimp only at hq41
            have hP : va_P D vwCl [(ia, .inr (3, [.ref pa, .ref ix, .ref it, .ref ik, .int (nI rt2)])), (pa, .inr (4, [.ref pn, .ref ps, .ref pln, .ref pr, .int (nI num), .int (nI pl)])), (pr, .inl (cA 0, 65, .inl rw)), (ix, .inl (cA 0, 65, .inl sf1)), (it, .inl (cA 0, 65, .inl tr1)), (ik, .inl (cA 0, 66, .inl rk1))] H := hP
            have hD : va_D A [(ia, .inr (3, [.ref pa, .ref ix, .ref it, .ref ik, .int (nI rt2)])), (pa, .inr (4, [.ref pn, .ref ps, .ref pln, .ref pr, .int (nI num), .int (nI pl)])), (pr, .inl (cA 0, 65, .inl rw)), (ix, .inl (cA 0, 65, .inl sf1)), (it, .inl (cA 0, 65, .inl tr1)), (ik, .inl (cA 0, 66, .inl rk1))] := hD
            obtain rfl := hq41
            refine wn_icmp_ge (by omega) (by omega) (tgt := 92) hx hb d_In_arrange_44 (by decide) ?_ ?_
            · intro h44
              exact hret (sf1, tr1, rk1) _ _ _ 92 d_In_arrange_92 (fun j hj => ⟨hs1 j (by omega), hs2 j (by omega)⟩) hP hD hS
            · intro h44
              have hrb := (rk_ij hk).1 i h44
              refine lv_aload_n hx hb d_In_arrange_47 rfl (lv_at hl 0 rfl) ?_
              refine va_get (C := RX3) (T := TX3) (N := 5) hx hb hts inX3 hown hK hP 0 rfl rfl 3 (by decide) (hts _ m_89) (fun _ h9 => h9) rfl d_In_arrange_48 ?_
              refine lv_iload_n hx hb d_In_arrange_51 rfl (lv_at hl 1 rfl) ?_
              refine wn_iald hx hb hK hP 5 0 rfl rfl (by omega) (by omega) d_In_arrange_52 ?_
              refine wn_eq (y := nI (rk_a (ky_c rw) pl i)) (hr1 i (Nat.zero_le _) h44) ?_
              refine lv_istore_n (lv' := [(3, .int (nI (rk_a (ky_c rw) pl i))), (0, .ref ia), (2, .int (nI i))]) hx hb d_In_arrange_53 rfl hl (by decide) rfl (fun ls hl => ?_)
              refine lv_aload_n hx hb d_In_arrange_54 rfl (lv_at hl 1 rfl) ?_
              refine va_get (C := RX3) (T := TX3) (N := 5) hx hb hts inX3 hown hK hP 0 rfl rfl 1 (by decide) (hts _ m_86) (fun _ h9 => h9) rfl d_In_arrange_55 ?_
              refine lv_iload_n hx hb d_In_arrange_58 rfl (lv_at hl 0 rfl) ?_
              refine lv_iload_n hx hb d_In_arrange_59 rfl (lv_at hl 2 rfl) ?_
              refine wn_iast hx hb hK hP hD hS 3 0 rfl rfl (by omega) (by omega) d_In_arrange_60 (fun H locs hP hD hS => ?_)
              have hP : va_P D vwCl [(ia, .inr (3, [.ref pa, .ref ix, .ref it, .ref ik, .int (nI rt2)])), (pa, .inr (4, [.ref pn, .ref ps, .ref pln, .ref pr, .int (nI num), .int (nI pl)])), (pr, .inl (cA 0, 65, .inl rw)), (ix, .inl (cA 0, 65, .inl (upd sf1 (rk_a (ky_c rw) pl i) (nI i)))), (it, .inl (cA 0, 65, .inl tr1)), (ik, .inl (cA 0, 66, .inl rk1))] H := hP
              have hD : va_D A [(ia, .inr (3, [.ref pa, .ref ix, .ref it, .ref ik, .int (nI rt2)])), (pa, .inr (4, [.ref pn, .ref ps, .ref pln, .ref pr, .int (nI num), .int (nI pl)])), (pr, .inl (cA 0, 65, .inl rw)), (ix, .inl (cA 0, 65, .inl (upd sf1 (rk_a (ky_c rw) pl i) (nI i)))), (it, .inl (cA 0, 65, .inl tr1)), (ik, .inl (cA 0, 66, .inl rk1))] := hD
              have L85 : ∀ (v : Int32) (H : Heap) (locs : List Loc) (ls : Array Slot), (v = if i = 0 then 0 else rw (i - 1)) →  va_P D vwCl [(ia, .inr (3, [.ref pa, .ref ix, .ref it, .ref ik, .int (nI rt2)])), (pa, .inr (4, [.ref pn, .ref ps, .ref pln, .ref pr, .int (nI num), .int (nI pl)])), (pr, .inl (cA 0, 65, .inl rw)), (ix, .inl (cA 0, 65, .inl (upd sf1 (rk_a (ky_c rw) pl i) (nI i)))), (it, .inl (cA 0, 65, .inl tr1)), (ik, .inl (cA 0, 66, .inl rk1))] H → va_D A [(ia, .inr (3, [.ref pa, .ref ix, .ref it, .ref ik, .int (nI rt2)])), (pa, .inr (4, [.ref pn, .ref ps, .ref pln, .ref pr, .int (nI num), .int (nI pl)])), (pr, .inl (cA 0, 65, .inl rw)), (ix, .inl (cA 0, 65, .inl (upd sf1 (rk_a (ky_c rw) pl i) (nI i)))), (it, .inl (cA 0, 65, .inl tr1)), (ik, .inl (cA 0, 66, .inl rk1))] → va_S A sG.heap H locs → lv_has ls 4 [(0, .ref ia), (3, .int (nI (rk_a (ky_c rw) pl i))), (2, .int (nI i))] → W pG l eG (rm_d 3) sG mG argsG belowG methG cG H locs 0 0 Q (F0 mG 85 ls [.int v, .int (nI (rk_a (ky_c rw) pl i)), .ref it]) := by
                intro v H locs ls hv hP hD hS hl
                refine wn_iast hx hb hK hP hD hS 4 0 rfl rfl (by omega) (by omega) d_In_arrange_85 (fun H locs hP hD hS => ?_)
                have hP : va_P D vwCl [(ia, .inr (3, [.ref pa, .ref ix, .ref it, .ref ik, .int (nI rt2)])), (pa, .inr (4, [.ref pn, .ref ps, .ref pln, .ref pr, .int (nI num), .int (nI pl)])), (pr, .inl (cA 0, 65, .inl rw)), (ix, .inl (cA 0, 65, .inl (upd sf1 (rk_a (ky_c rw) pl i) (nI i)))), (it, .inl (cA 0, 65, .inl (upd tr1 (rk_a (ky_c rw) pl i) v))), (ik, .inl (cA 0, 66, .inl rk1))] H := hP
                have hD : va_D A [(ia, .inr (3, [.ref pa, .ref ix, .ref it, .ref ik, .int (nI rt2)])), (pa, .inr (4, [.ref pn, .ref ps, .ref pln, .ref pr, .int (nI num), .int (nI pl)])), (pr, .inl (cA 0, 65, .inl rw)), (ix, .inl (cA 0, 65, .inl (upd sf1 (rk_a (ky_c rw) pl i) (nI i)))), (it, .inl (cA 0, 65, .inl (upd tr1 (rk_a (ky_c rw) pl i) v))), (ik, .inl (cA 0, 66, .inl rk1))] := hD
                refine lv_iinc (k := 2) (v := nI (i + 1)) (lv' := [(2, .int (nI (i + 1))), (0, .ref ia), (3, .int (nI (rk_a (ky_c rw) pl i)))]) hx hb d_In_arrange_86 hl rfl (wi_inc1 _) (by decide) rfl (fun ls hl => ?_)
                refine lv_goto (tgt := 39) hx hb d_In_arrange_89 (by decide) ?_
                exact ih39 _ (by omega) (i + 1) (upd sf1 (rk_a (ky_c rw) pl i) (nI i)) (upd tr1 (rk_a (ky_c rw) pl i) v) _ _ _ rfl (by first | assumption | omega) (fun j hj => if e : j = i then by subst e; exact pk_us else (pk_un (fun z => e ((rk_ij hk).2 j i (by omega) h44 z))).trans (hs1 j (by omega))) (fun j hj => if e : j = i then by subst e; rw [pk_us, hv] else (pk_un (fun z => e ((rk_ij hk).2 j i (by omega) h44 z))).trans (hs2 j (by omega))) hP hD hS (lv_sub hl [1, 0] rfl)
              refine lv_aload_n hx hb d_In_arrange_61 rfl (lv_at hl 1 rfl) ?_
              refine va_get (C := RX3) (T := TX3) (N := 5) hx hb hts inX3 hown hK hP 0 rfl rfl 2 (by decide) (hts _ m_87) (fun _ h9 => h9) rfl d_In_arrange_62 ?_
              refine lv_iload_n hx hb d_In_arrange_65 rfl (lv_at hl 0 rfl) ?_
              refine lv_iload_n hx hb d_In_arrange_66 rfl (lv_at hl 2 rfl) ?_
              refine wn_if_ne (by omega) (tgt := 74) hx hb d_In_arrange_67 (by decide) ?_ ?_
              · intro h67
                refine lv_aload_n hx hb d_In_arrange_74 rfl (lv_at hl 1 rfl) ?_
                refine va_get (C := RX3) (T := TX3) (N := 5) hx hb hts inX3 hown hK hP 0 rfl rfl 0 (by decide) (hts _ m_83) (fun _ h9 => h9) rfl d_In_arrange_75 ?_
                refine va_getN (C := RX4) (T := TX4) (N := 6) hx hb hts inX4 hown hK hP 1 rfl rfl 3 (by decide) (va_Nw.use rfl (hE.1 _ n_65)) (fun _ h9 => h9) rfl d_In_arrange_78 ?_
                refine lv_iload_n hx hb d_In_arrange_81 rfl (lv_at hl 2 rfl) ?_
                refine lv_iconst (v := nI 1) hx hb d_In_arrange_82 (by decide) ?_
                refine wn_isub (by omega) hx hb d_In_arrange_83 ?_
                refine wn_iald hx hb hK hP 2 0 rfl rfl (by omega) (by omega) d_In_arrange_84 ?_
                exact L85 _ _ _ _ (by first | rw [if_pos h67] | rw [if_neg h67]) hP hD hS (lv_sub hl [1, 0, 2] rfl)
              · intro h67
                refine lv_iconst (v := 0) hx hb d_In_arrange_70 (by decide) ?_
                refine lv_goto (tgt := 85) hx hb d_In_arrange_71 (by decide) ?_
                exact L85 _ _ _ _ (by first | rw [if_pos h67] | rw [if_neg h67]) hP hD hS (lv_sub hl [1, 0, 2] rfl)
        exact L39 _ 0 sf tr _ _ _ rfl (by first | assumption | omega) (fun j hj => absurd hj (Nat.not_lt_zero j)) (fun j hj => absurd hj (Nat.not_lt_zero j)) hP hD hS (lv_sub hl [1, 0] rfl)
      · intro h23
        obtain ⟨k, rfl⟩ : ∃ k, i = k + 1 := by
          cases i with
          | zero => exact absurd (by decide) h23
          | succ k => exact ⟨k, rfl⟩
        have hl : lv_has ls 4 [(0, .ref ia), (2, .int (nI k))] := by rw [nI_pred] at hl; exact hl
        refine lv_aload_n hx hb d_In_arrange_26 rfl (lv_at hl 0 rfl) ?_
        refine lv_iload_n hx hb d_In_arrange_27 rfl (lv_at hl 1 rfl) ?_
        refine ck_cVv (C := "ReadMapper$Index") (ci := 3) (rest := []) (wr := [(ix, .inl (cA 0, 65, .inl sf)), (it, .inl (cA 0, 65, .inl tr))]) (ws2 := fun u => [(ia, .inr (3, [.ref pa, .ref ix, .ref it, .ref ik, .int (nI rt2)])), (pa, .inr (4, [.ref pn, .ref ps, .ref pln, .ref pr, .int (nI num), .int (nI pl)])), (pr, .inl (cA 0, 65, .inl rw)), (ix, .inl (cA 0, 65, .inl sf)), (it, .inl (cA 0, 65, .inl tr)), (ik, .inl (cA 0, 66, .inl u))]) (c_In_rankAmongLater l D cA K ia ix it ik rt2 pa pn ps pln pr num pl rw rk1 k (by first | assumption | omega) (by first | assumption | omega) (by first | assumption | omega) (fun j h1 h2 => hr1 j h1 h2) hr2) hx hb hml hown hts hK hE hA hP hD hS k_In_rankAmongLater m_621 (by decide) 0 rfl rfl rfl hl.1 rfl (Nat.le_of_ble_eq_true rfl) d_In_arrange_28  [0, 1, 2, 5] [3, 4] [2, 3, 4, 0, 1, 5] rfl rfl (by decide) (fun _ => rfl) (fun u28 H locs hq28 hP hD hS => ?_)
        obtain ⟨rk2_28, rfl⟩ : ∃ z, z = u28 := ⟨_, rfl⟩
        try dsimp only at hq28
        have hP : va_P D vwCl [(ia, .inr (3, [.ref pa, .ref ix, .ref it, .ref ik, .int (nI rt2)])), (pa, .inr (4, [.ref pn, .ref ps, .ref pln, .ref pr, .int (nI num), .int (nI pl)])), (pr, .inl (cA 0, 65, .inl rw)), (ix, .inl (cA 0, 65, .inl sf)), (it, .inl (cA 0, 65, .inl tr)), (ik, .inl (cA 0, 66, .inl rk2_28))] H := hP
        have hD : va_D A [(ia, .inr (3, [.ref pa, .ref ix, .ref it, .ref ik, .int (nI rt2)])), (pa, .inr (4, [.ref pn, .ref ps, .ref pln, .ref pr, .int (nI num), .int (nI pl)])), (pr, .inl (cA 0, 65, .inl rw)), (ix, .inl (cA 0, 65, .inl sf)), (it, .inl (cA 0, 65, .inl tr)), (ik, .inl (cA 0, 66, .inl rk2_28))] := hD
        refine lv_iinc (k := 1) (v := nI k - 1) (lv' := [(2, .int (nI k - 1)), (0, .ref ia)]) hx hb d_In_arrange_31 hl rfl (wi_m1 _) (by decide) rfl (fun ls hl => ?_)
        refine lv_goto (tgt := 22) hx hb d_In_arrange_34 (by decide) ?_
        exact ih22 _ (by omega) k rk2_28 _ _ _ rfl (by first | assumption | omega) hq28.1 hq28.2 hP hD hS (lv_sub hl [1, 0] rfl)
  exact L22 _ pl (upd rk pl (-1)) _ _ _ rfl (by first | assumption | omega) (fun j h1 h2 => by omega) pk_us hP hD hS (lv_sub hl [1, 0] rfl)
theorem k_In_arrange : cf_V y_In_arrange b_In_arrange 4 none "ReadMapper$Index" 1 := ⟨⟨m_618, m_619, m_3, m_620⟩, by decide +kernel⟩
set_option maxHeartbeats 4000000 in
set_option maxRecDepth 100000 in
theorem c_In_beginsWith (l : Launch) (D : va_G) (cA : Nat → ClassId) (K : Nat → Nat) (ia ix it ik rt : Nat) (pa pn ps pln pr : Nat) (num pl : Nat) (rw sf : Nat → Int32) (sa : Nat → Nat) (a b cap : Nat) (f : Nat → Int32) (B : List Int32) (i : Nat) (hpl : pl ≤ 65) (hsf : ∀ j, j < pl → sf j = nI (sa j) ∧ sa j < pl) (hc : cd_r cap f B) (hi : i < pl) : ck_I l y_In_beginsWith (Cond.code y_In_beginsWith b_In_beginsWith 5 (some .boolean) :: w_all) 2 D cA K [.ref ia, .int (nI i), .ref a] [(ia, .inr (3, [.ref pa, .ref ix, .ref it, .ref ik, .int (nI rt)])), (pa, .inr (4, [.ref pn, .ref ps, .ref pln, .ref pr, .int (nI num), .int (nI pl)])), (pr, .inl (cA 0, 65, .inl rw)), (ix, .inl (cA 0, 65, .inl sf)), (a, .inr (0, [.ref b, .int (nI B.length)])), (b, .inl (cA 0, cap, .inl f))] (fun (r : Int32) (u : Unit) => (r = 1 ∧ bw_p rw pl B (sa i)) ∨ (r = 0 ∧ ¬ bw_p rw pl B (sa i))) (fun u => [(ia, .inr (3, [.ref pa, .ref ix, .ref it, .ref ik, .int (nI rt)])), (pa, .inr (4, [.ref pn, .ref ps, .ref pln, .ref pr, .int (nI num), .int (nI pl)])), (pr, .inl (cA 0, 65, .inl rw)), (ix, .inl (cA 0, 65, .inl sf)), (a, .inr (0, [.ref b, .int (nI B.length)])), (b, .inl (cA 0, cap, .inl f))]) := by
  refine ck_mkI (by decide) (fun r u h => by rcases h with ⟨rfl, _⟩ | ⟨rfl, _⟩ <;> rfl) (Nat.le_of_ble_eq_true rfl) ?_
  intro pG eG sG mG argsG belowG methG cG Q A H locs ls hx hb hml hown hts hK hE hA hP hD hS hl hret
  have hl : lv_has ls 5 [(0, .ref ia), (1, .int (nI i)), (2, .ref a)] := hl
  have hl1 := cd_len hc
  have hsi := (hsf i hi).2
  refine lv_aload_n hx hb d_In_beginsWith_0 rfl (lv_at hl 0 rfl) ?_
  refine va_get (C := RX3) (T := TX3) (N := 5) hx hb hts inX3 hown hK hP 0 rfl rfl 1 (by decide) (hts _ m_86) (fun _ h9 => h9) rfl d_In_beginsWith_1 ?_
  refine lv_iload_n hx hb d_In_beginsWith_4 rfl (lv_at hl 1 rfl) ?_
  refine wn_iald hx hb hK hP 3 0 rfl rfl (by omega) (by omega) d_In_beginsWith_5 ?_
  refine wn_eq (y := nI (sa i)) (hsf i hi).1 ?_
  refine lv_istore_n (lv' := [(3, .int (nI (sa i))), (0, .ref ia), (1, .int (nI i)), (2, .ref a)]) hx hb d_In_beginsWith_6 rfl hl (by decide) rfl (fun ls hl => ?_)
  refine lv_aload_n hx hb d_In_beginsWith_7 rfl (lv_at hl 3 rfl) ?_
  refine ck_cV (C := "ReadMapper$Codes") (ci := 0) (rest := []) (wr := [(ia, .inr (3, [.ref pa, .ref ix, .ref it, .ref ik, .int (nI rt)])), (pa, .inr (4, [.ref pn, .ref ps, .ref pln, .ref pr, .int (nI num), .int (nI pl)])), (pr, .inl (cA 0, 65, .inl rw)), (ix, .inl (cA 0, 65, .inl sf))]) (ws2 := fun u => [(ia, .inr (3, [.ref pa, .ref ix, .ref it, .ref ik, .int (nI rt)])), (pa, .inr (4, [.ref pn, .ref ps, .ref pln, .ref pr, .int (nI num), .int (nI pl)])), (pr, .inl (cA 0, 65, .inl rw)), (ix, .inl (cA 0, 65, .inl sf)), (a, .inr (0, [.ref b, .int (nI B.length)])), (b, .inl (cA 0, cap, .inl f))]) (c_Co_size l D cA K a b cap f B (by first | assumption | omega)) hx hb hml hown hts hK hE hA hP hD hS k_Co_size m_672 (by decide) 4 rfl rfl rfl hl.1 rfl (Nat.le_of_ble_eq_true rfl) d_In_beginsWith_8  [4, 5] [0, 1, 2, 3] [0, 1, 2, 3, 4, 5] rfl rfl (by decide) (fun _ => rfl) (fun r8 u8 H locs hq8 hP hD hS => ?_)
  try dsimp only at hq8
  have hP : va_P D vwCl [(ia, .inr (3, [.ref pa, .ref ix, .ref it, .ref ik, .int (nI rt)])), (pa, .inr (4, [.ref pn, .ref ps, .ref pln, .ref pr, .int (nI num), .int (nI pl)])), (pr, .inl (cA 0, 65, .inl rw)), (ix, .inl (cA 0, 65, .inl sf)), (a, .inr (0, [.ref b, .int (nI B.length)])), (b, .inl (cA 0, cap, .inl f))] H := hP
  have hD : va_D A [(ia, .inr (3, [.ref pa, .ref ix, .ref it, .ref ik, .int (nI rt)])), (pa, .inr (4, [.ref pn, .ref ps, .ref pln, .ref pr, .int (nI num), .int (nI pl)])), (pr, .inl (cA 0, 65, .inl rw)), (ix, .inl (cA 0, 65, .inl sf)), (a, .inr (0, [.ref b, .int (nI B.length)])), (b, .inl (cA 0, cap, .inl f))] := hD
  obtain rfl := hq8
  refine lv_aload_n hx hb d_In_beginsWith_11 rfl (lv_at hl 1 rfl) ?_
  refine ck_cV (C := "ReadMapper$Index") (ci := 3) (rest := [.int (nI B.length)]) (wr := [(pr, .inl (cA 0, 65, .inl rw)), (ix, .inl (cA 0, 65, .inl sf)), (a, .inr (0, [.ref b, .int (nI B.length)])), (b, .inl (cA 0, cap, .inl f))]) (ws2 := fun u => [(ia, .inr (3, [.ref pa, .ref ix, .ref it, .ref ik, .int (nI rt)])), (pa, .inr (4, [.ref pn, .ref ps, .ref pln, .ref pr, .int (nI num), .int (nI pl)])), (pr, .inl (cA 0, 65, .inl rw)), (ix, .inl (cA 0, 65, .inl sf)), (a, .inr (0, [.ref b, .int (nI B.length)])), (b, .inl (cA 0, cap, .inl f))]) (c_In_places l D cA K ia ix it ik rt pa pn ps pln pr num pl ) hx hb hml hown hts hK hE hA hP hD hS k_In_places m_267 (by decide) 0 rfl rfl rfl hl.1 rfl (Nat.le_of_ble_eq_true rfl) d_In_beginsWith_12  [0, 1] [2, 3, 4, 5] [4, 5, 0, 1, 2, 3] rfl rfl (by decide) (fun _ => rfl) (fun r12 u12 H locs hq12 hP hD hS => ?_)
  try dsimp only at hq12
  have hP : va_P D vwCl [(ia, .inr (3, [.ref pa, .ref ix, .ref it, .ref ik, .int (nI rt)])), (pa, .inr (4, [.ref pn, .ref ps, .ref pln, .ref pr, .int (nI num), .int (nI pl)])), (pr, .inl (cA 0, 65, .inl rw)), (ix, .inl (cA 0, 65, .inl sf)), (a, .inr (0, [.ref b, .int (nI B.length)])), (b, .inl (cA 0, cap, .inl f))] H := hP
  have hD : va_D A [(ia, .inr (3, [.ref pa, .ref ix, .ref it, .ref ik, .int (nI rt)])), (pa, .inr (4, [.ref pn, .ref ps, .ref pln, .ref pr, .int (nI num), .int (nI pl)])), (pr, .inl (cA 0, 65, .inl rw)), (ix, .inl (cA 0, 65, .inl sf)), (a, .inr (0, [.ref b, .int (nI B.length)])), (b, .inl (cA 0, cap, .inl f))] := hD
  obtain rfl := hq12
  refine lv_iload_n hx hb d_In_beginsWith_15 rfl (lv_at hl 0 rfl) ?_
  refine wn_isub (by omega) hx hb d_In_beginsWith_16 ?_
  refine wn_icmp_le (by omega) (by omega) (tgt := 22) hx hb d_In_beginsWith_17 (by decide) ?_ ?_
  · intro h17
    refine lv_iconst (v := nI 0) hx hb d_In_beginsWith_22 (by decide) ?_
    refine lv_istore (lv' := [(4, .int (nI 0)), (3, .int (nI (sa i))), (0, .ref ia), (1, .int (nI i)), (2, .ref a)]) hx hb d_In_beginsWith_23 hl (by decide) rfl (fun ls hl => ?_)
    have L25 : ∀ (nG : Nat) (j : Nat) (H : Heap) (locs : List Loc) (ls : Array Slot), B.length - j = nG → (j ≤ B.length) → ((∀ z, z < j → rw (sa i + z) = B.getD z 0)) →  va_P D vwCl [(ia, .inr (3, [.ref pa, .ref ix, .ref it, .ref ik, .int (nI rt)])), (pa, .inr (4, [.ref pn, .ref ps, .ref pln, .ref pr, .int (nI num), .int (nI pl)])), (pr, .inl (cA 0, 65, .inl rw)), (ix, .inl (cA 0, 65, .inl sf)), (a, .inr (0, [.ref b, .int (nI B.length)])), (b, .inl (cA 0, cap, .inl f))] H → va_D A [(ia, .inr (3, [.ref pa, .ref ix, .ref it, .ref ik, .int (nI rt)])), (pa, .inr (4, [.ref pn, .ref ps, .ref pln, .ref pr, .int (nI num), .int (nI pl)])), (pr, .inl (cA 0, 65, .inl rw)), (ix, .inl (cA 0, 65, .inl sf)), (a, .inr (0, [.ref b, .int (nI B.length)])), (b, .inl (cA 0, cap, .inl f))] → va_S A sG.heap H locs → lv_has ls 5 [(0, .ref ia), (2, .ref a), (3, .int (nI (sa i))), (4, .int (nI j))] → W pG l eG (rm_d 2) sG mG argsG belowG methG cG H locs 0 0 Q (F0 mG 25 ls []) := by
      intro nG
      induction nG using Nat.strongRecOn with
      | ind nG ih25 =>
        intro j H locs ls hn25 hj hs hP hD hS hl
        refine lv_iload hx hb d_In_beginsWith_25 (lv_at hl 3 rfl) ?_
        refine lv_aload_n hx hb d_In_beginsWith_27 rfl (lv_at hl 1 rfl) ?_
        refine ck_cV (C := "ReadMapper$Codes") (ci := 0) (rest := [.int (nI j)]) (wr := [(ia, .inr (3, [.ref pa, .ref ix, .ref it, .ref ik, .int (nI rt)])), (pa, .inr (4, [.ref pn, .ref ps, .ref pln, .ref pr, .int (nI num), .int (nI pl)])), (pr, .inl (cA 0, 65, .inl rw)), (ix, .inl (cA 0, 65, .inl sf))]) (ws2 := fun u => [(ia, .inr (3, [.ref pa, .ref ix, .ref it, .ref ik, .int (nI rt)])), (pa, .inr (4, [.ref pn, .ref ps, .ref pln, .ref pr, .int (nI num), .int (nI pl)])), (pr, .inl (cA 0, 65, .inl rw)), (ix, .inl (cA 0, 65, .inl sf)), (a, .inr (0, [.ref b, .int (nI B.length)])), (b, .inl (cA 0, cap, .inl f))]) (c_Co_size l D cA K a b cap f B (by first | assumption | omega)) hx hb hml hown hts hK hE hA hP hD hS k_Co_size m_672 (by decide) 4 rfl rfl rfl hl.1 rfl (Nat.le_of_ble_eq_true rfl) d_In_beginsWith_28  [4, 5] [0, 1, 2, 3] [0, 1, 2, 3, 4, 5] rfl rfl (by decide) (fun _ => rfl) (fun r28 u28 H locs hq28 hP hD hS => ?_)
        try dsimp only at hq28
        have hP : va_P D vwCl [(ia, .inr (3, [.ref pa, .ref ix, .ref it, .ref ik, .int (nI rt)])), (pa, .inr (4, [.ref pn, .ref ps, .ref pln, .ref pr, .int (nI num), .int (nI pl)])), (pr, .inl (cA 0, 65, .inl rw)), (ix, .inl (cA 0, 65, .inl sf)), (a, .inr (0, [.ref b, .int (nI B.length)])), (b, .inl (cA 0, cap, .inl f))] H := hP
        have hD : va_D A [(ia, .inr (3, [.ref pa, .ref ix, .ref it, .ref ik, .int (nI rt)])), (pa, .inr (4, [.ref pn, .ref ps, .ref pln, .ref pr, .int (nI num), .int (nI pl)])), (pr, .inl (cA 0, 65, .inl rw)), (ix, .inl (cA 0, 65, .inl sf)), (a, .inr (0, [.ref b, .int (nI B.length)])), (b, .inl (cA 0, cap, .inl f))] := hD
        obtain rfl := hq28
        refine wn_icmp_ge (by omega) (by omega) (tgt := 63) hx hb d_In_beginsWith_31 (by decide) ?_ ?_
        · intro h31
          refine lv_iconst (v := 1) hx hb d_In_beginsWith_63 (by decide) ?_
          exact hret 1 () _ _ _ 64 d_In_beginsWith_64 (Or.inl ⟨rfl, by omega, fun z hz => hs z (by omega)⟩) hP hD hS
        · intro h31
          refine lv_aload_n hx hb d_In_beginsWith_34 rfl (lv_at hl 0 rfl) ?_
          refine va_get (C := RX3) (T := TX3) (N := 5) hx hb hts inX3 hown hK hP 0 rfl rfl 0 (by decide) (hts _ m_83) (fun _ h9 => h9) rfl d_In_beginsWith_35 ?_
          refine va_getN (C := RX4) (T := TX4) (N := 6) hx hb hts inX4 hown hK hP 1 rfl rfl 3 (by decide) (va_Nw.use rfl (hE.1 _ n_65)) (fun _ h9 => h9) rfl d_In_beginsWith_38 ?_
          refine lv_iload_n hx hb d_In_beginsWith_41 rfl (lv_at hl 2 rfl) ?_
          refine lv_iload hx hb d_In_beginsWith_42 (lv_at hl 3 rfl) ?_
          refine wn_iadd hx hb d_In_beginsWith_44 ?_
          refine wn_iald hx hb hK hP 2 0 rfl rfl (by omega) (by omega) d_In_beginsWith_45 ?_
          refine lv_aload_n hx hb d_In_beginsWith_46 rfl (lv_at hl 1 rfl) ?_
          refine lv_iload hx hb d_In_beginsWith_47 (lv_at hl 3 rfl) ?_
          refine ck_cV (C := "ReadMapper$Codes") (ci := 0) (rest := [.int (rw ((sa i) + j))]) (wr := [(ia, .inr (3, [.ref pa, .ref ix, .ref it, .ref ik, .int (nI rt)])), (pa, .inr (4, [.ref pn, .ref ps, .ref pln, .ref pr, .int (nI num), .int (nI pl)])), (pr, .inl (cA 0, 65, .inl rw)), (ix, .inl (cA 0, 65, .inl sf))]) (ws2 := fun u => [(ia, .inr (3, [.ref pa, .ref ix, .ref it, .ref ik, .int (nI rt)])), (pa, .inr (4, [.ref pn, .ref ps, .ref pln, .ref pr, .int (nI num), .int (nI pl)])), (pr, .inl (cA 0, 65, .inl rw)), (ix, .inl (cA 0, 65, .inl sf)), (a, .inr (0, [.ref b, .int (nI B.length)])), (b, .inl (cA 0, cap, .inl f))]) (c_Co_at l D cA K a b cap f B (nI j) (by first | assumption | omega)) hx hb hml hown hts hK hE hA hP hD hS k_Co_at m_673 (by decide) 4 rfl rfl rfl hl.1 rfl (Nat.le_of_ble_eq_true rfl) d_In_beginsWith_49  [4, 5] [0, 1, 2, 3] [0, 1, 2, 3, 4, 5] rfl rfl (by decide) (fun _ => rfl) (fun r49 u49 H locs hq49 hP hD hS => ?_)
          try dsimp only at hq49
          have hP : va_P D vwCl [(ia, .inr (3, [.ref pa, .ref ix, .ref it, .ref ik, .int (nI rt)])), (pa, .inr (4, [.ref pn, .ref ps, .ref pln, .ref pr, .int (nI num), .int (nI pl)])), (pr, .inl (cA 0, 65, .inl rw)), (ix, .inl (cA 0, 65, .inl sf)), (a, .inr (0, [.ref b, .int (nI B.length)])), (b, .inl (cA 0, cap, .inl f))] H := hP
          have hD : va_D A [(ia, .inr (3, [.ref pa, .ref ix, .ref it, .ref ik, .int (nI rt)])), (pa, .inr (4, [.ref pn, .ref ps, .ref pln, .ref pr, .int (nI num), .int (nI pl)])), (pr, .inl (cA 0, 65, .inl rw)), (ix, .inl (cA 0, 65, .inl sf)), (a, .inr (0, [.ref b, .int (nI B.length)])), (b, .inl (cA 0, cap, .inl f))] := hD
          obtain rfl := hq49
          refine wn_eq (y := B.getD j 0) (at_n (by omega) (by omega)) ?_
          refine lv_icmp_eq (tgt := 57) hx hb d_In_beginsWith_52 (by decide) ?_ ?_
          · intro h52
            refine lv_iinc (k := 3) (v := nI (j + 1)) (lv' := [(4, .int (nI (j + 1))), (0, .ref ia), (2, .ref a), (3, .int (nI (sa i)))]) hx hb d_In_beginsWith_57 hl rfl (wi_inc1 _) (by decide) rfl (fun ls hl => ?_)
            refine lv_goto (tgt := 25) hx hb d_In_beginsWith_60 (by decide) ?_
            exact ih25 _ (by omega) (j + 1) _ _ _ rfl (by first | assumption | omega) (lt_s hs h52) hP hD hS (lv_sub hl [1, 2, 3, 0] rfl)
          · intro h52
            refine lv_iconst (v := 0) hx hb d_In_beginsWith_55 (by decide) ?_
            exact hret 0 () _ _ _ 56 d_In_beginsWith_56 (Or.inr ⟨rfl, fun z => h52 (z.2 j h31)⟩) hP hD hS
    exact L25 _ 0 _ _ _ rfl (by first | assumption | omega) (fun j hj => absurd hj (Nat.not_lt_zero j)) hP hD hS (lv_sub hl [2, 4, 1, 0] rfl)
  · intro h17
    refine lv_iconst (v := 0) hx hb d_In_beginsWith_20 (by decide) ?_
    exact hret 0 () _ _ _ 21 d_In_beginsWith_21 (Or.inr ⟨rfl, fun z => by have := z.1; omega⟩) hP hD hS
theorem k_In_beginsWith : cf_V y_In_beginsWith b_In_beginsWith 5 (some .boolean) "ReadMapper$Index" 2 := ⟨⟨m_670, (wm_s (q := (y_In_beginsWith, 5)) (by decide +kernel)), m_3, m_671⟩, by decide +kernel⟩
set_option maxHeartbeats 4000000 in
set_option maxRecDepth 100000 in
theorem c_In_leastWith (l : Launch) (D : va_G) (cA : Nat → ClassId) (K : Nat → Nat) (ia ix it ik rt : Nat) (pa pn ps pln pr : Nat) (num pl : Nat) (rw sf : Nat → Int32) (sa : Nat → Nat) (a b cap : Nat) (f : Nat → Int32) (B : List Int32) (hpl : pl ≤ 65) (hsf : ∀ j, j < pl → sf j = nI (sa j) ∧ sa j < pl) (hc : cd_r cap f B) : ck_I l y_In_leastWith (Cond.code y_In_leastWith b_In_leastWith 3 (some .int) :: w_all) 3 D cA K [.ref ia, .ref a] [(ia, .inr (3, [.ref pa, .ref ix, .ref it, .ref ik, .int (nI rt)])), (pa, .inr (4, [.ref pn, .ref ps, .ref pln, .ref pr, .int (nI num), .int (nI pl)])), (pr, .inl (cA 0, 65, .inl rw)), (ix, .inl (cA 0, 65, .inl sf)), (a, .inr (0, [.ref b, .int (nI B.length)])), (b, .inl (cA 0, cap, .inl f))] (fun (r : Int32) (u : Unit) => (∃ k, r = nI k ∧ k < pl ∧ bw_p rw pl B (sa k) ∧ ∀ j, j < k → ¬ bw_p rw pl B (sa j)) ∨ (r = -1 ∧ ∀ j, j < pl → ¬ bw_p rw pl B (sa j))) (fun u => [(ia, .inr (3, [.ref pa, .ref ix, .ref it, .ref ik, .int (nI rt)])), (pa, .inr (4, [.ref pn, .ref ps, .ref pln, .ref pr, .int (nI num), .int (nI pl)])), (pr, .inl (cA 0, 65, .inl rw)), (ix, .inl (cA 0, 65, .inl sf)), (a, .inr (0, [.ref b, .int (nI B.length)])), (b, .inl (cA 0, cap, .inl f))]) := by
  refine ck_mkI (by decide) (fun _ _ _ => rfl) (Nat.le_of_ble_eq_true rfl) ?_
  intro pG eG sG mG argsG belowG methG cG Q A H locs ls hx hb hml hown hts hK hE hA hP hD hS hl hret
  have hl : lv_has ls 3 [(0, .ref ia), (1, .ref a)] := hl
  have hl1 := cd_len hc
  refine lv_iconst (v := nI 0) hx hb d_In_leastWith_0 (by decide) ?_
  refine lv_istore_n (lv' := [(2, .int (nI 0)), (0, .ref ia), (1, .ref a)]) hx hb d_In_leastWith_1 rfl hl (by decide) rfl (fun ls hl => ?_)
  have L2 : ∀ (nG : Nat) (i : Nat) (H : Heap) (locs : List Loc) (ls : Array Slot), pl - i = nG → (i ≤ pl) → ((∀ j, j < i → ¬ bw_p rw pl B (sa j))) →  va_P D vwCl [(ia, .inr (3, [.ref pa, .ref ix, .ref it, .ref ik, .int (nI rt)])), (pa, .inr (4, [.ref pn, .ref ps, .ref pln, .ref pr, .int (nI num), .int (nI pl)])), (pr, .inl (cA 0, 65, .inl rw)), (ix, .inl (cA 0, 65, .inl sf)), (a, .inr (0, [.ref b, .int (nI B.length)])), (b, .inl (cA 0, cap, .inl f))] H → va_D A [(ia, .inr (3, [.ref pa, .ref ix, .ref it, .ref ik, .int (nI rt)])), (pa, .inr (4, [.ref pn, .ref ps, .ref pln, .ref pr, .int (nI num), .int (nI pl)])), (pr, .inl (cA 0, 65, .inl rw)), (ix, .inl (cA 0, 65, .inl sf)), (a, .inr (0, [.ref b, .int (nI B.length)])), (b, .inl (cA 0, cap, .inl f))] → va_S A sG.heap H locs → lv_has ls 3 [(0, .ref ia), (1, .ref a), (2, .int (nI i))] → W pG l eG (rm_d 3) sG mG argsG belowG methG cG H locs 0 0 Q (F0 mG 2 ls []) := by
    intro nG
    induction nG using Nat.strongRecOn with
    | ind nG ih2 =>
      intro i H locs ls hn2 hi hs hP hD hS hl
      refine lv_iload_n hx hb d_In_leastWith_2 rfl (lv_at hl 2 rfl) ?_
      refine lv_aload_n hx hb d_In_leastWith_3 rfl (lv_at hl 0 rfl) ?_
      refine ck_cV (C := "ReadMapper$Index") (ci := 3) (rest := [.int (nI i)]) (wr := [(pr, .inl (cA 0, 65, .inl rw)), (ix, .inl (cA 0, 65, .inl sf)), (a, .inr (0, [.ref b, .int (nI B.length)])), (b, .inl (cA 0, cap, .inl f))]) (ws2 := fun u => [(ia, .inr (3, [.ref pa, .ref ix, .ref it, .ref ik, .int (nI rt)])), (pa, .inr (4, [.ref pn, .ref ps, .ref pln, .ref pr, .int (nI num), .int (nI pl)])), (pr, .inl (cA 0, 65, .inl rw)), (ix, .inl (cA 0, 65, .inl sf)), (a, .inr (0, [.ref b, .int (nI B.length)])), (b, .inl (cA 0, cap, .inl f))]) (c_In_places l D cA K ia ix it ik rt pa pn ps pln pr num pl ) hx hb hml hown hts hK hE hA hP hD hS k_In_places m_267 (by decide) 0 rfl rfl rfl hl.1 rfl (Nat.le_of_ble_eq_true rfl) d_In_leastWith_4  [0, 1] [2, 3, 4, 5] [4, 5, 0, 1, 2, 3] rfl rfl (by decide) (fun _ => rfl) (fun r4 u4 H locs hq4 hP hD hS => ?_)
      try dsimp only at hq4
      have hP : va_P D vwCl [(ia, .inr (3, [.ref pa, .ref ix, .ref it, .ref ik, .int (nI rt)])), (pa, .inr (4, [.ref pn, .ref ps, .ref pln, .ref pr, .int (nI num), .int (nI pl)])), (pr, .inl (cA 0, 65, .inl rw)), (ix, .inl (cA 0, 65, .inl sf)), (a, .inr (0, [.ref b, .int (nI B.length)])), (b, .inl (cA 0, cap, .inl f))] H := hP
      have hD : va_D A [(ia, .inr (3, [.ref pa, .ref ix, .ref it, .ref ik, .int (nI rt)])), (pa, .inr (4, [.ref pn, .ref ps, .ref pln, .ref pr, .int (nI num), .int (nI pl)])), (pr, .inl (cA 0, 65, .inl rw)), (ix, .inl (cA 0, 65, .inl sf)), (a, .inr (0, [.ref b, .int (nI B.length)])), (b, .inl (cA 0, cap, .inl f))] := hD
      obtain rfl := hq4
      refine wn_icmp_ge (by omega) (by omega) (tgt := 27) hx hb d_In_leastWith_7 (by decide) ?_ ?_
      · intro h7
        refine lv_iconst (v := (-1)) hx hb d_In_leastWith_27 (by decide) ?_
        exact hret (-1) () _ _ _ 28 d_In_leastWith_28 (Or.inr ⟨rfl, fun j hj => hs j (by omega)⟩) hP hD hS
      · intro h7
        refine lv_aload_n hx hb d_In_leastWith_10 rfl (lv_at hl 0 rfl) ?_
        refine lv_iload_n hx hb d_In_leastWith_11 rfl (lv_at hl 2 rfl) ?_
        refine lv_aload_n hx hb d_In_leastWith_12 rfl (lv_at hl 1 rfl) ?_
        refine ck_cV (C := "ReadMapper$Index") (ci := 3) (rest := []) (wr := []) (ws2 := fun u => [(ia, .inr (3, [.ref pa, .ref ix, .ref it, .ref ik, .int (nI rt)])), (pa, .inr (4, [.ref pn, .ref ps, .ref pln, .ref pr, .int (nI num), .int (nI pl)])), (pr, .inl (cA 0, 65, .inl rw)), (ix, .inl (cA 0, 65, .inl sf)), (a, .inr (0, [.ref b, .int (nI B.length)])), (b, .inl (cA 0, cap, .inl f))]) (c_In_beginsWith l D cA K ia ix it ik rt pa pn ps pln pr num pl rw sf sa a b cap f B i (by first | assumption | omega) (by first | assumption | omega) (by first | assumption | omega) (by first | assumption | omega)) hx hb hml hown hts hK hE hA hP hD hS k_In_beginsWith m_668 (by decide) 0 rfl rfl rfl hl.1 rfl (Nat.le_of_ble_eq_true rfl) d_In_leastWith_13  [0, 1, 2, 3, 4, 5] [] [0, 1, 2, 3, 4, 5] rfl rfl (by decide) (fun _ => rfl) (fun r13 u13 H locs hq13 hP hD hS => ?_)
        try dsimp only at hq13
        have hP : va_P D vwCl [(ia, .inr (3, [.ref pa, .ref ix, .ref it, .ref ik, .int (nI rt)])), (pa, .inr (4, [.ref pn, .ref ps, .ref pln, .ref pr, .int (nI num), .int (nI pl)])), (pr, .inl (cA 0, 65, .inl rw)), (ix, .inl (cA 0, 65, .inl sf)), (a, .inr (0, [.ref b, .int (nI B.length)])), (b, .inl (cA 0, cap, .inl f))] H := hP
        have hD : va_D A [(ia, .inr (3, [.ref pa, .ref ix, .ref it, .ref ik, .int (nI rt)])), (pa, .inr (4, [.ref pn, .ref ps, .ref pln, .ref pr, .int (nI num), .int (nI pl)])), (pr, .inl (cA 0, 65, .inl rw)), (ix, .inl (cA 0, 65, .inl sf)), (a, .inr (0, [.ref b, .int (nI B.length)])), (b, .inl (cA 0, cap, .inl f))] := hD
        rcases hq13 with ⟨rfl, hq13⟩ | ⟨rfl, hq13⟩
        ·
          refine lv_if_eq (tgt := 21) hx hb d_In_leastWith_16 (by decide) (fun h9 => absurd h9 (by decide)) (fun _ => ?_)
          refine lv_iload_n hx hb d_In_leastWith_19 rfl (lv_at hl 2 rfl) ?_
          exact hret (nI i) () _ _ _ 20 d_In_leastWith_20 (Or.inl ⟨i, rfl, h7, hq13, hs⟩) hP hD hS
        ·
          refine lv_if_eq (tgt := 21) hx hb d_In_leastWith_16 (by decide) (fun _ => ?_) (fun h9 => absurd h9 (by decide))
          refine lv_iinc (k := 2) (v := nI (i + 1)) (lv' := [(2, .int (nI (i + 1))), (0, .ref ia), (1, .ref a)]) hx hb d_In_leastWith_21 hl rfl (wi_inc1 _) (by decide) rfl (fun ls hl => ?_)
          refine lv_goto (tgt := 2) hx hb d_In_leastWith_24 (by decide) ?_
          exact ih2 _ (by omega) (i + 1) _ _ _ rfl (by first | assumption | omega) (lt_s hs hq13) hP hD hS (lv_sub hl [1, 2, 0] rfl)
  exact L2 _ 0 _ _ _ rfl (by first | assumption | omega) (fun j hj => absurd hj (Nat.not_lt_zero j)) hP hD hS (lv_sub hl [1, 2, 0] rfl)
theorem k_In_leastWith : cf_V y_In_leastWith b_In_leastWith 3 (some .int) "ReadMapper$Index" 1 := ⟨⟨m_665, m_666, m_3, m_667⟩, by decide +kernel⟩
set_option maxHeartbeats 4000000 in
set_option maxRecDepth 100000 in
theorem c_In_countWith (l : Launch) (D : va_G) (cA : Nat → ClassId) (K : Nat → Nat) (ia ix it ik rt : Nat) (pa pn ps pln pr : Nat) (num pl : Nat) (rw sf : Nat → Int32) (sa : Nat → Nat) (a b cap : Nat) (f : Nat → Int32) (B : List Int32) (hpl : pl ≤ 65) (hsf : ∀ j, j < pl → sf j = nI (sa j) ∧ sa j < pl) (hc : cd_r cap f B) : ck_I l y_In_countWith (Cond.code y_In_countWith b_In_countWith 4 (some .int) :: w_all) 3 D cA K [.ref ia, .ref a] [(ia, .inr (3, [.ref pa, .ref ix, .ref it, .ref ik, .int (nI rt)])), (pa, .inr (4, [.ref pn, .ref ps, .ref pln, .ref pr, .int (nI num), .int (nI pl)])), (pr, .inl (cA 0, 65, .inl rw)), (ix, .inl (cA 0, 65, .inl sf)), (a, .inr (0, [.ref b, .int (nI B.length)])), (b, .inl (cA 0, cap, .inl f))] (fun (r : Int32) (u : Unit) => r = nI (cn_t (fun i => bw_p rw pl B (sa i)) pl)) (fun u => [(ia, .inr (3, [.ref pa, .ref ix, .ref it, .ref ik, .int (nI rt)])), (pa, .inr (4, [.ref pn, .ref ps, .ref pln, .ref pr, .int (nI num), .int (nI pl)])), (pr, .inl (cA 0, 65, .inl rw)), (ix, .inl (cA 0, 65, .inl sf)), (a, .inr (0, [.ref b, .int (nI B.length)])), (b, .inl (cA 0, cap, .inl f))]) := by
  refine ck_mkI (by decide) (fun _ _ _ => rfl) (Nat.le_of_ble_eq_true rfl) ?_
  intro pG eG sG mG argsG belowG methG cG Q A H locs ls hx hb hml hown hts hK hE hA hP hD hS hl hret
  have hl : lv_has ls 4 [(0, .ref ia), (1, .ref a)] := hl
  have hl1 := cd_len hc
  refine lv_iconst (v := nI 0) hx hb d_In_countWith_0 (by decide) ?_
  refine lv_istore_n (lv' := [(2, .int (nI 0)), (0, .ref ia), (1, .ref a)]) hx hb d_In_countWith_1 rfl hl (by decide) rfl (fun ls hl => ?_)
  refine lv_iconst (v := nI 0) hx hb d_In_countWith_2 (by decide) ?_
  refine lv_istore_n (lv' := [(3, .int (nI 0)), (2, .int (nI 0)), (0, .ref ia), (1, .ref a)]) hx hb d_In_countWith_3 rfl hl (by decide) rfl (fun ls hl => ?_)
  have L4 : ∀ (nG : Nat) (n i : Nat) (H : Heap) (locs : List Loc) (ls : Array Slot), pl - i = nG → (i ≤ pl) → (n = cn_t (fun i => bw_p rw pl B (sa i)) i) →  va_P D vwCl [(ia, .inr (3, [.ref pa, .ref ix, .ref it, .ref ik, .int (nI rt)])), (pa, .inr (4, [.ref pn, .ref ps, .ref pln, .ref pr, .int (nI num), .int (nI pl)])), (pr, .inl (cA 0, 65, .inl rw)), (ix, .inl (cA 0, 65, .inl sf)), (a, .inr (0, [.ref b, .int (nI B.length)])), (b, .inl (cA 0, cap, .inl f))] H → va_D A [(ia, .inr (3, [.ref pa, .ref ix, .ref it, .ref ik, .int (nI rt)])), (pa, .inr (4, [.ref pn, .ref ps, .ref pln, .ref pr, .int (nI num), .int (nI pl)])), (pr, .inl (cA 0, 65, .inl rw)), (ix, .inl (cA 0, 65, .inl sf)), (a, .inr (0, [.ref b, .int (nI B.length)])), (b, .inl (cA 0, cap, .inl f))] → va_S A sG.heap H locs → lv_has ls 4 [(0, .ref ia), (1, .ref a), (2, .int (nI n)), (3, .int (nI i))] → W pG l eG (rm_d 3) sG mG argsG belowG methG cG H locs 0 0 Q (F0 mG 4 ls []) := by
    intro nG
    induction nG using Nat.strongRecOn with
    | ind nG ih4 =>
      intro n i H locs ls hn4 hi hn hP hD hS hl
      have hcl := cn_le (fun i => bw_p rw pl B (sa i)) i
      rw [← hn] at hcl
      refine lv_iload_n hx hb d_In_countWith_4 rfl (lv_at hl 3 rfl) ?_
      refine lv_aload_n hx hb d_In_countWith_5 rfl (lv_at hl 0 rfl) ?_
      refine ck_cV (C := "ReadMapper$Index") (ci := 3) (rest := [.int (nI i)]) (wr := [(pr, .inl (cA 0, 65, .inl rw)), (ix, .inl (cA 0, 65, .inl sf)), (a, .inr (0, [.ref b, .int (nI B.length)])), (b, .inl (cA 0, cap, .inl f))]) (ws2 := fun u => [(ia, .inr (3, [.ref pa, .ref ix, .ref it, .ref ik, .int (nI rt)])), (pa, .inr (4, [.ref pn, .ref ps, .ref pln, .ref pr, .int (nI num), .int (nI pl)])), (pr, .inl (cA 0, 65, .inl rw)), (ix, .inl (cA 0, 65, .inl sf)), (a, .inr (0, [.ref b, .int (nI B.length)])), (b, .inl (cA 0, cap, .inl f))]) (c_In_places l D cA K ia ix it ik rt pa pn ps pln pr num pl ) hx hb hml hown hts hK hE hA hP hD hS k_In_places m_267 (by decide) 0 rfl rfl rfl hl.1 rfl (Nat.le_of_ble_eq_true rfl) d_In_countWith_6  [0, 1] [2, 3, 4, 5] [4, 5, 0, 1, 2, 3] rfl rfl (by decide) (fun _ => rfl) (fun r6 u6 H locs hq6 hP hD hS => ?_)
      try dsimp only at hq6
      have hP : va_P D vwCl [(ia, .inr (3, [.ref pa, .ref ix, .ref it, .ref ik, .int (nI rt)])), (pa, .inr (4, [.ref pn, .ref ps, .ref pln, .ref pr, .int (nI num), .int (nI pl)])), (pr, .inl (cA 0, 65, .inl rw)), (ix, .inl (cA 0, 65, .inl sf)), (a, .inr (0, [.ref b, .int (nI B.length)])), (b, .inl (cA 0, cap, .inl f))] H := hP
      have hD : va_D A [(ia, .inr (3, [.ref pa, .ref ix, .ref it, .ref ik, .int (nI rt)])), (pa, .inr (4, [.ref pn, .ref ps, .ref pln, .ref pr, .int (nI num), .int (nI pl)])), (pr, .inl (cA 0, 65, .inl rw)), (ix, .inl (cA 0, 65, .inl sf)), (a, .inr (0, [.ref b, .int (nI B.length)])), (b, .inl (cA 0, cap, .inl f))] := hD
      obtain rfl := hq6
      refine wn_icmp_ge (by omega) (by omega) (tgt := 30) hx hb d_In_countWith_9 (by decide) ?_ ?_
      · intro h9
        refine lv_iload_n hx hb d_In_countWith_30 rfl (lv_at hl 2 rfl) ?_
        exact hret (nI n) () _ _ _ 31 d_In_countWith_31 (by rw [hn, show i = pl by omega]) hP hD hS
      · intro h9
        refine lv_aload_n hx hb d_In_countWith_12 rfl (lv_at hl 0 rfl) ?_
        refine lv_iload_n hx hb d_In_countWith_13 rfl (lv_at hl 3 rfl) ?_
        refine lv_aload_n hx hb d_In_countWith_14 rfl (lv_at hl 1 rfl) ?_
        refine ck_cV (C := "ReadMapper$Index") (ci := 3) (rest := []) (wr := []) (ws2 := fun u => [(ia, .inr (3, [.ref pa, .ref ix, .ref it, .ref ik, .int (nI rt)])), (pa, .inr (4, [.ref pn, .ref ps, .ref pln, .ref pr, .int (nI num), .int (nI pl)])), (pr, .inl (cA 0, 65, .inl rw)), (ix, .inl (cA 0, 65, .inl sf)), (a, .inr (0, [.ref b, .int (nI B.length)])), (b, .inl (cA 0, cap, .inl f))]) (c_In_beginsWith l D cA K ia ix it ik rt pa pn ps pln pr num pl rw sf sa a b cap f B i (by first | assumption | omega) (by first | assumption | omega) (by first | assumption | omega) (by first | assumption | omega)) hx hb hml hown hts hK hE hA hP hD hS k_In_beginsWith m_668 (by decide) 0 rfl rfl rfl hl.1 rfl (Nat.le_of_ble_eq_true rfl) d_In_countWith_15  [0, 1, 2, 3, 4, 5] [] [0, 1, 2, 3, 4, 5] rfl rfl (by decide) (fun _ => rfl) (fun r15 u15 H locs hq15 hP hD hS => ?_)
        try dsimp only at hq15
        have hP : va_P D vwCl [(ia, .inr (3, [.ref pa, .ref ix, .ref it, .ref ik, .int (nI rt)])), (pa, .inr (4, [.ref pn, .ref ps, .ref pln, .ref pr, .int (nI num), .int (nI pl)])), (pr, .inl (cA 0, 65, .inl rw)), (ix, .inl (cA 0, 65, .inl sf)), (a, .inr (0, [.ref b, .int (nI B.length)])), (b, .inl (cA 0, cap, .inl f))] H := hP
        have hD : va_D A [(ia, .inr (3, [.ref pa, .ref ix, .ref it, .ref ik, .int (nI rt)])), (pa, .inr (4, [.ref pn, .ref ps, .ref pln, .ref pr, .int (nI num), .int (nI pl)])), (pr, .inl (cA 0, 65, .inl rw)), (ix, .inl (cA 0, 65, .inl sf)), (a, .inr (0, [.ref b, .int (nI B.length)])), (b, .inl (cA 0, cap, .inl f))] := hD
        rcases hq15 with ⟨rfl, hq15⟩ | ⟨rfl, hq15⟩
        ·
          refine lv_if_eq (tgt := 24) hx hb d_In_countWith_18 (by decide) (fun h9 => absurd h9 (by decide)) (fun _ => ?_)
          refine lv_iinc (k := 2) (v := nI (n + 1)) (lv' := [(2, .int (nI (n + 1))), (0, .ref ia), (1, .ref a), (3, .int (nI i))]) hx hb d_In_countWith_21 hl rfl (wi_inc1 _) (by decide) rfl (fun ls hl => ?_)
          refine lv_iinc (k := 3) (v := nI (i + 1)) (lv' := [(3, .int (nI (i + 1))), (2, .int (nI (n + 1))), (0, .ref ia), (1, .ref a)]) hx hb d_In_countWith_24 hl rfl (wi_inc1 _) (by decide) rfl (fun ls hl => ?_)
          refine lv_goto (tgt := 4) hx hb d_In_countWith_27 (by decide) ?_
          exact ih4 _ (by omega) (n + 1) (i + 1) _ _ _ rfl (by first | assumption | omega) (by first | exact (congrArg (· + 1) hn).trans (cn_yes (P := fun i => bw_p rw pl B (sa i)) hq15).symm | exact hn.trans (cn_no (P := fun i => bw_p rw pl B (sa i)) hq15).symm) hP hD hS (lv_sub hl [2, 3, 1, 0] rfl)
        ·
          refine lv_if_eq (tgt := 24) hx hb d_In_countWith_18 (by decide) (fun _ => ?_) (fun h9 => absurd h9 (by decide))
          refine lv_iinc (k := 3) (v := nI (i + 1)) (lv' := [(3, .int (nI (i + 1))), (0, .ref ia), (1, .ref a), (2, .int (nI n))]) hx hb d_In_countWith_24 hl rfl (wi_inc1 _) (by decide) rfl (fun ls hl => ?_)
          refine lv_goto (tgt := 4) hx hb d_In_countWith_27 (by decide) ?_
          exact ih4 _ (by omega) n (i + 1) _ _ _ rfl (by first | assumption | omega) (by first | exact (congrArg (· + 1) hn).trans (cn_yes (P := fun i => bw_p rw pl B (sa i)) hq15).symm | exact hn.trans (cn_no (P := fun i => bw_p rw pl B (sa i)) hq15).symm) hP hD hS (lv_sub hl [1, 2, 3, 0] rfl)
  exact L4 _ 0 0 _ _ _ rfl (by first | assumption | omega) rfl hP hD hS (lv_sub hl [2, 3, 1, 0] rfl)
theorem k_In_countWith : cf_V y_In_countWith b_In_countWith 4 (some .int) "ReadMapper$Index" 1 := ⟨⟨m_675, m_676, m_3, m_677⟩, by decide +kernel⟩
