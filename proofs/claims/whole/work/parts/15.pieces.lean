theorem d_Pi_number_0 : decode b_Pi_number 0 = .ok (.aload_n 0, 1) := by decide +kernel
theorem d_Pi_number_1 : decode b_Pi_number 1 = .ok (.getfield 30, 3) := by decide +kernel
theorem d_Pi_number_4 : decode b_Pi_number 4 = .ok (.ireturn, 1) := by decide +kernel
theorem d_Pi_lengthOf_0 : decode b_Pi_lengthOf 0 = .ok (.aload_n 0, 1) := by decide +kernel
theorem d_Pi_lengthOf_1 : decode b_Pi_lengthOf 1 = .ok (.getfield 21, 3) := by decide +kernel
theorem d_Pi_lengthOf_4 : decode b_Pi_lengthOf 4 = .ok (.iload_n 1, 1) := by decide +kernel
theorem d_Pi_lengthOf_5 : decode b_Pi_lengthOf 5 = .ok (.iaload, 1) := by decide +kernel
theorem d_Pi_lengthOf_6 : decode b_Pi_lengthOf 6 = .ok (.ireturn, 1) := by decide +kernel
theorem d_Pi_nameOf_0 : decode b_Pi_nameOf 0 = .ok (.aload_n 0, 1) := by decide +kernel
theorem d_Pi_nameOf_1 : decode b_Pi_nameOf 1 = .ok (.getfield 11, 3) := by decide +kernel
theorem d_Pi_nameOf_4 : decode b_Pi_nameOf 4 = .ok (.iload_n 1, 1) := by decide +kernel
theorem d_Pi_nameOf_5 : decode b_Pi_nameOf 5 = .ok (.aaload, 1) := by decide +kernel
theorem d_Pi_nameOf_6 : decode b_Pi_nameOf 6 = .ok (.areturn, 1) := by decide +kernel
theorem d_Pi_symbolAt_0 : decode b_Pi_symbolAt 0 = .ok (.aload_n 0, 1) := by decide +kernel
theorem d_Pi_symbolAt_1 : decode b_Pi_symbolAt 1 = .ok (.getfield 24, 3) := by decide +kernel
theorem d_Pi_symbolAt_4 : decode b_Pi_symbolAt 4 = .ok (.aload_n 0, 1) := by decide +kernel
theorem d_Pi_symbolAt_5 : decode b_Pi_symbolAt 5 = .ok (.getfield 17, 3) := by decide +kernel
theorem d_Pi_symbolAt_8 : decode b_Pi_symbolAt 8 = .ok (.iload_n 1, 1) := by decide +kernel
theorem d_Pi_symbolAt_9 : decode b_Pi_symbolAt 9 = .ok (.iaload, 1) := by decide +kernel
theorem d_Pi_symbolAt_10 : decode b_Pi_symbolAt 10 = .ok (.iload_n 2, 1) := by decide +kernel
theorem d_Pi_symbolAt_11 : decode b_Pi_symbolAt 11 = .ok (.iadd, 1) := by decide +kernel
theorem d_Pi_symbolAt_12 : decode b_Pi_symbolAt 12 = .ok (.iaload, 1) := by decide +kernel
theorem d_Pi_symbolAt_13 : decode b_Pi_symbolAt 13 = .ok (.ireturn, 1) := by decide +kernel
theorem d_Pi_clear_0 : decode b_Pi_clear 0 = .ok (.aload_n 0, 1) := by decide +kernel
theorem d_Pi_clear_1 : decode b_Pi_clear 1 = .ok (.iconst 0, 1) := by decide +kernel
theorem d_Pi_clear_2 : decode b_Pi_clear 2 = .ok (.putfield 30, 3) := by decide +kernel
theorem d_Pi_clear_5 : decode b_Pi_clear 5 = .ok (.aload_n 0, 1) := by decide +kernel
theorem d_Pi_clear_6 : decode b_Pi_clear 6 = .ok (.iconst 0, 1) := by decide +kernel
theorem d_Pi_clear_7 : decode b_Pi_clear 7 = .ok (.putfield 34, 3) := by decide +kernel
theorem d_Pi_clear_10 : decode b_Pi_clear 10 = .ok (.return_, 1) := by decide +kernel
theorem d_Pi_hasRoom_0 : decode b_Pi_hasRoom 0 = .ok (.aload_n 0, 1) := by decide +kernel
theorem d_Pi_hasRoom_1 : decode b_Pi_hasRoom 1 = .ok (.getfield 30, 3) := by decide +kernel
theorem d_Pi_hasRoom_4 : decode b_Pi_hasRoom 4 = .ok (.iconst 5, 1) := by decide +kernel
theorem d_Pi_hasRoom_5 : decode b_Pi_hasRoom 5 = .ok (.if_icmp .ge 23, 3) := by decide +kernel
theorem d_Pi_hasRoom_8 : decode b_Pi_hasRoom 8 = .ok (.iload_n 1, 1) := by decide +kernel
theorem d_Pi_hasRoom_9 : decode b_Pi_hasRoom 9 = .ok (.bipush 60, 2) := by decide +kernel
theorem d_Pi_hasRoom_11 : decode b_Pi_hasRoom 11 = .ok (.aload_n 0, 1) := by decide +kernel
theorem d_Pi_hasRoom_12 : decode b_Pi_hasRoom 12 = .ok (.getfield 34, 3) := by decide +kernel
theorem d_Pi_hasRoom_15 : decode b_Pi_hasRoom 15 = .ok (.aload_n 0, 1) := by decide +kernel
theorem d_Pi_hasRoom_16 : decode b_Pi_hasRoom 16 = .ok (.getfield 30, 3) := by decide +kernel
theorem d_Pi_hasRoom_19 : decode b_Pi_hasRoom 19 = .ok (.isub, 1) := by decide +kernel
theorem d_Pi_hasRoom_20 : decode b_Pi_hasRoom 20 = .ok (.isub, 1) := by decide +kernel
theorem d_Pi_hasRoom_21 : decode b_Pi_hasRoom 21 = .ok (.if_icmp .gt 7, 3) := by decide +kernel
theorem d_Pi_hasRoom_24 : decode b_Pi_hasRoom 24 = .ok (.iconst 1, 1) := by decide +kernel
theorem d_Pi_hasRoom_25 : decode b_Pi_hasRoom 25 = .ok (.goto 4, 3) := by decide +kernel
theorem d_Pi_hasRoom_28 : decode b_Pi_hasRoom 28 = .ok (.iconst 0, 1) := by decide +kernel
theorem d_Pi_hasRoom_29 : decode b_Pi_hasRoom 29 = .ok (.ireturn, 1) := by decide +kernel
theorem d_Pi_hasName_0 : decode b_Pi_hasName 0 = .ok (.iconst 0, 1) := by decide +kernel
theorem d_Pi_hasName_1 : decode b_Pi_hasName 1 = .ok (.istore_n 2, 1) := by decide +kernel
theorem d_Pi_hasName_2 : decode b_Pi_hasName 2 = .ok (.iload_n 2, 1) := by decide +kernel
theorem d_Pi_hasName_3 : decode b_Pi_hasName 3 = .ok (.aload_n 0, 1) := by decide +kernel
theorem d_Pi_hasName_4 : decode b_Pi_hasName 4 = .ok (.getfield 30, 3) := by decide +kernel
theorem d_Pi_hasName_7 : decode b_Pi_hasName 7 = .ok (.if_icmp .ge 24, 3) := by decide +kernel
theorem d_Pi_hasName_10 : decode b_Pi_hasName 10 = .ok (.aload_n 0, 1) := by decide +kernel
theorem d_Pi_hasName_11 : decode b_Pi_hasName 11 = .ok (.getfield 11, 3) := by decide +kernel
theorem d_Pi_hasName_14 : decode b_Pi_hasName 14 = .ok (.iload_n 2, 1) := by decide +kernel
theorem d_Pi_hasName_15 : decode b_Pi_hasName 15 = .ok (.aaload, 1) := by decide +kernel
theorem d_Pi_hasName_16 : decode b_Pi_hasName 16 = .ok (.aload_n 1, 1) := by decide +kernel
theorem d_Pi_hasName_17 : decode b_Pi_hasName 17 = .ok (.invokevirtual 37, 3) := by decide +kernel
theorem d_Pi_hasName_20 : decode b_Pi_hasName 20 = .ok (.ifCond .eq 5, 3) := by decide +kernel
theorem d_Pi_hasName_23 : decode b_Pi_hasName 23 = .ok (.iconst 1, 1) := by decide +kernel
theorem d_Pi_hasName_24 : decode b_Pi_hasName 24 = .ok (.ireturn, 1) := by decide +kernel
theorem d_Pi_hasName_25 : decode b_Pi_hasName 25 = .ok (.iinc 2 1, 3) := by decide +kernel
theorem d_Pi_hasName_28 : decode b_Pi_hasName 28 = .ok (.goto (-26), 3) := by decide +kernel
theorem d_Pi_hasName_31 : decode b_Pi_hasName 31 = .ok (.iconst 0, 1) := by decide +kernel
theorem d_Pi_hasName_32 : decode b_Pi_hasName 32 = .ok (.ireturn, 1) := by decide +kernel
theorem d_Pi_settle_0 : decode b_Pi_settle 0 = .ok (.iload_n 2, 1) := by decide +kernel
theorem d_Pi_settle_1 : decode b_Pi_settle 1 = .ok (.invokestatic 61, 3) := by decide +kernel
theorem d_Pi_settle_4 : decode b_Pi_settle 4 = .ok (.ifCond .ne 15, 3) := by decide +kernel
theorem d_Pi_settle_7 : decode b_Pi_settle 7 = .ok (.aload_n 0, 1) := by decide +kernel
theorem d_Pi_settle_8 : decode b_Pi_settle 8 = .ok (.getfield 24, 3) := by decide +kernel
theorem d_Pi_settle_11 : decode b_Pi_settle 11 = .ok (.iload_n 1, 1) := by decide +kernel
theorem d_Pi_settle_12 : decode b_Pi_settle 12 = .ok (.iaload, 1) := by decide +kernel
theorem d_Pi_settle_13 : decode b_Pi_settle 13 = .ok (.invokestatic 61, 3) := by decide +kernel
theorem d_Pi_settle_16 : decode b_Pi_settle 16 = .ok (.ifCond .eq 19, 3) := by decide +kernel
theorem d_Pi_settle_19 : decode b_Pi_settle 19 = .ok (.iload_n 2, 1) := by decide +kernel
theorem d_Pi_settle_20 : decode b_Pi_settle 20 = .ok (.aload_n 0, 1) := by decide +kernel
theorem d_Pi_settle_21 : decode b_Pi_settle 21 = .ok (.getfield 24, 3) := by decide +kernel
theorem d_Pi_settle_24 : decode b_Pi_settle 24 = .ok (.iload_n 1, 1) := by decide +kernel
theorem d_Pi_settle_25 : decode b_Pi_settle 25 = .ok (.iaload, 1) := by decide +kernel
theorem d_Pi_settle_26 : decode b_Pi_settle 26 = .ok (.if_icmp .ne 7, 3) := by decide +kernel
theorem d_Pi_settle_29 : decode b_Pi_settle 29 = .ok (.iconst 1, 1) := by decide +kernel
theorem d_Pi_settle_30 : decode b_Pi_settle 30 = .ok (.goto 4, 3) := by decide +kernel
theorem d_Pi_settle_33 : decode b_Pi_settle 33 = .ok (.iconst 0, 1) := by decide +kernel
theorem d_Pi_settle_34 : decode b_Pi_settle 34 = .ok (.ireturn, 1) := by decide +kernel
theorem d_Pi_settle_35 : decode b_Pi_settle 35 = .ok (.aload_n 0, 1) := by decide +kernel
theorem d_Pi_settle_36 : decode b_Pi_settle 36 = .ok (.getfield 24, 3) := by decide +kernel
theorem d_Pi_settle_39 : decode b_Pi_settle 39 = .ok (.iload_n 1, 1) := by decide +kernel
theorem d_Pi_settle_40 : decode b_Pi_settle 40 = .ok (.iload_n 2, 1) := by decide +kernel
theorem d_Pi_settle_41 : decode b_Pi_settle 41 = .ok (.iastore, 1) := by decide +kernel
theorem d_Pi_settle_42 : decode b_Pi_settle 42 = .ok (.iconst 1, 1) := by decide +kernel
theorem d_Pi_settle_43 : decode b_Pi_settle 43 = .ok (.ireturn, 1) := by decide +kernel
theorem d_Pi_mismatches_0 : decode b_Pi_mismatches 0 = .ok (.iconst 0, 1) := by decide +kernel
theorem d_Pi_mismatches_1 : decode b_Pi_mismatches 1 = .ok (.istore 5, 2) := by decide +kernel
theorem d_Pi_mismatches_3 : decode b_Pi_mismatches 3 = .ok (.iconst 0, 1) := by decide +kernel
theorem d_Pi_mismatches_4 : decode b_Pi_mismatches 4 = .ok (.istore 6, 2) := by decide +kernel
theorem d_Pi_mismatches_6 : decode b_Pi_mismatches 6 = .ok (.iload 6, 2) := by decide +kernel
theorem d_Pi_mismatches_8 : decode b_Pi_mismatches 8 = .ok (.aload_n 3, 1) := by decide +kernel
theorem d_Pi_mismatches_9 : decode b_Pi_mismatches 9 = .ok (.invokevirtual 41, 3) := by decide +kernel
theorem d_Pi_mismatches_12 : decode b_Pi_mismatches 12 = .ok (.if_icmp .ge 40, 3) := by decide +kernel
theorem d_Pi_mismatches_15 : decode b_Pi_mismatches 15 = .ok (.iload 5, 2) := by decide +kernel
theorem d_Pi_mismatches_17 : decode b_Pi_mismatches 17 = .ok (.iload 4, 2) := by decide +kernel
theorem d_Pi_mismatches_19 : decode b_Pi_mismatches 19 = .ok (.if_icmp .gt 33, 3) := by decide +kernel
theorem d_Pi_mismatches_22 : decode b_Pi_mismatches 22 = .ok (.aload_n 0, 1) := by decide +kernel
theorem d_Pi_mismatches_23 : decode b_Pi_mismatches 23 = .ok (.iload_n 1, 1) := by decide +kernel
theorem d_Pi_mismatches_24 : decode b_Pi_mismatches 24 = .ok (.iload_n 2, 1) := by decide +kernel
theorem d_Pi_mismatches_25 : decode b_Pi_mismatches 25 = .ok (.iload 6, 2) := by decide +kernel
theorem d_Pi_mismatches_27 : decode b_Pi_mismatches 27 = .ok (.iadd, 1) := by decide +kernel
theorem d_Pi_mismatches_28 : decode b_Pi_mismatches 28 = .ok (.invokevirtual 65, 3) := by decide +kernel
theorem d_Pi_mismatches_31 : decode b_Pi_mismatches 31 = .ok (.aload_n 3, 1) := by decide +kernel
theorem d_Pi_mismatches_32 : decode b_Pi_mismatches 32 = .ok (.iload 6, 2) := by decide +kernel
theorem d_Pi_mismatches_34 : decode b_Pi_mismatches 34 = .ok (.invokevirtual 49, 3) := by decide +kernel
theorem d_Pi_mismatches_37 : decode b_Pi_mismatches 37 = .ok (.invokestatic 69, 3) := by decide +kernel
theorem d_Pi_mismatches_40 : decode b_Pi_mismatches 40 = .ok (.ifCond .eq 6, 3) := by decide +kernel
theorem d_Pi_mismatches_43 : decode b_Pi_mismatches 43 = .ok (.iinc 5 1, 3) := by decide +kernel
theorem d_Pi_mismatches_46 : decode b_Pi_mismatches 46 = .ok (.iinc 6 1, 3) := by decide +kernel
theorem d_Pi_mismatches_49 : decode b_Pi_mismatches 49 = .ok (.goto (-43), 3) := by decide +kernel
theorem d_Pi_mismatches_52 : decode b_Pi_mismatches 52 = .ok (.iload 5, 2) := by decide +kernel
theorem d_Pi_mismatches_54 : decode b_Pi_mismatches 54 = .ok (.ireturn, 1) := by decide +kernel
set_option maxHeartbeats 4000000 in
set_option maxRecDepth 100000 in
theorem c_Pi_number (l : Launch) (D : va_G) (cA : Nat → ClassId) (K : Nat → Nat) (pa pn ps pln pr : Nat) (num pl : Nat) : ck_I l y_Pi_number (Cond.code y_Pi_number b_Pi_number 1 (some .int) :: w_all) 1 D cA K [.ref pa] [(pa, .inr (4, [.ref pn, .ref ps, .ref pln, .ref pr, .int (nI num), .int (nI pl)]))] (fun (r : Int32) (u : Unit) => r = nI num) (fun u => [(pa, .inr (4, [.ref pn, .ref ps, .ref pln, .ref pr, .int (nI num), .int (nI pl)]))]) := by
  refine ck_mkI (by decide) (fun _ _ _ => rfl) (Nat.le_of_ble_eq_true rfl) ?_
  intro pG eG sG mG argsG belowG methG cG Q A H locs ls hx hb hml hown hts hK hE hA hP hD hS hl hret
  have hl : lv_has ls 1 [(0, .ref pa)] := hl
  refine lv_aload_n hx hb d_Pi_number_0 rfl (lv_at hl 0 rfl) ?_
  refine va_get (C := RX4) (T := TX4) (N := 6) hx hb hts inX4 hown hK hP 0 rfl rfl 4 (by decide) (hts _ m_66) (fun _ h9 => h9) rfl d_Pi_number_1 ?_
  exact hret (nI num) () _ _ _ 4 d_Pi_number_4 rfl hP hD hS
theorem k_Pi_number : cf_V y_Pi_number b_Pi_number 1 (some .int) "ReadMapper$Pieces" 0 := ⟨⟨m_614, m_615, m_4, m_616⟩, by decide +kernel⟩
set_option maxHeartbeats 4000000 in
set_option maxRecDepth 100000 in
theorem c_Pi_lengthOf (l : Launch) (D : va_G) (cA : Nat → ClassId) (K : Nat → Nat) (pa pn ps pln pr : Nat) (num pl : Nat) (ln : Nat → Int32) (pp : Nat) (hp : pp < 5) : ck_I l y_Pi_lengthOf (Cond.code y_Pi_lengthOf b_Pi_lengthOf 2 (some .int) :: w_all) 1 D cA K [.ref pa, .int (nI pp)] [(pa, .inr (4, [.ref pn, .ref ps, .ref pln, .ref pr, .int (nI num), .int (nI pl)])), (pln, .inl (cA 0, 5, .inl ln))] (fun (r : Int32) (u : Unit) => r = ln pp) (fun u => [(pa, .inr (4, [.ref pn, .ref ps, .ref pln, .ref pr, .int (nI num), .int (nI pl)])), (pln, .inl (cA 0, 5, .inl ln))]) := by
  refine ck_mkI (by decide) (fun _ _ _ => rfl) (Nat.le_of_ble_eq_true rfl) ?_
  intro pG eG sG mG argsG belowG methG cG Q A H locs ls hx hb hml hown hts hK hE hA hP hD hS hl hret
  have hl : lv_has ls 2 [(0, .ref pa), (1, .int (nI pp))] := hl
  refine lv_aload_n hx hb d_Pi_lengthOf_0 rfl (lv_at hl 0 rfl) ?_
  refine va_get (C := RX4) (T := TX4) (N := 6) hx hb hts inX4 hown hK hP 0 rfl rfl 2 (by decide) (hts _ m_62) (fun _ h9 => h9) rfl d_Pi_lengthOf_1 ?_
  refine lv_iload_n hx hb d_Pi_lengthOf_4 rfl (lv_at hl 1 rfl) ?_
  refine wn_iald hx hb hK hP 1 0 rfl rfl (by omega) (by omega) d_Pi_lengthOf_5 ?_
  exact hret (ln pp) () _ _ _ 6 d_Pi_lengthOf_6 rfl hP hD hS
theorem k_Pi_lengthOf : cf_V y_Pi_lengthOf b_Pi_lengthOf 2 (some .int) "ReadMapper$Pieces" 1 := ⟨⟨m_712, m_713, m_4, m_714⟩, by decide +kernel⟩
set_option maxHeartbeats 4000000 in
set_option maxRecDepth 100000 in
theorem c_Pi_nameOf (l : Launch) (D : va_G) (cA : Nat → ClassId) (K : Nat → Nat) (pa pn ps pln pr : Nat) (num pl : Nat) (g : Nat → Option Nat) (na : Nat → Nat) (pp : Nat) (hg : ∀ i, i < 5 → g i = some (na i)) (hp : pp < 5) : ck_R l y_Pi_nameOf (Cond.code y_Pi_nameOf b_Pi_nameOf 2 (some (.object "ReadMapper$Codes")) :: w_all) 1 D cA K [.ref pa, .int (nI pp)] [(pa, .inr (4, [.ref pn, .ref ps, .ref pln, .ref pr, .int (nI num), .int (nI pl)])), (pn, .inl (cA 3, 5, .inr (.inr (.inr (.inr g)))))] (fun (r : Nat) (u : Unit) => r = na pp) (fun u => [(pa, .inr (4, [.ref pn, .ref ps, .ref pln, .ref pr, .int (nI num), .int (nI pl)])), (pn, .inl (cA 3, 5, .inr (.inr (.inr (.inr g)))))]) := by
  refine ck_mkR (by decide) (Nat.le_of_ble_eq_true rfl) ?_
  intro pG eG sG mG argsG belowG methG cG Q A H locs ls hx hb hml hown hts hK hE hA hP hD hS hl hret
  have hl : lv_has ls 2 [(0, .ref pa), (1, .int (nI pp))] := hl
  refine lv_aload_n hx hb d_Pi_nameOf_0 rfl (lv_at hl 0 rfl) ?_
  refine va_get (C := RX4) (T := TX4) (N := 6) hx hb hts inX4 hown hK hP 0 rfl rfl 0 (by decide) (hts _ m_59) (fun _ h9 => h9) rfl d_Pi_nameOf_1 ?_
  refine lv_iload_n hx hb d_Pi_nameOf_4 rfl (lv_at hl 1 rfl) ?_
  refine wn_aldq (q := na pp) hx hb hK hP 1 3 rfl rfl (by omega) (by omega) (hg pp hp) d_Pi_nameOf_5 ?_
  exact hret (na pp) () _ _ _ 6 d_Pi_nameOf_6 rfl hP hD hS
theorem k_Pi_nameOf : cf_V y_Pi_nameOf b_Pi_nameOf 2 (some (.object "ReadMapper$Codes")) "ReadMapper$Pieces" 1 := ⟨⟨m_416, m_417, m_4, m_418⟩, by decide +kernel⟩
set_option maxHeartbeats 4000000 in
set_option maxRecDepth 100000 in
theorem c_Pi_symbolAt (l : Launch) (D : va_G) (cA : Nat → ClassId) (K : Nat → Nat) (pa pn ps pln pr : Nat) (num pl : Nat) (st rw : Nat → Int32) (pp o sp : Nat) (hp : pp < 5) (hsp : st pp = nI sp) (ho : sp + o < 65) : ck_I l y_Pi_symbolAt (Cond.code y_Pi_symbolAt b_Pi_symbolAt 3 (some .int) :: w_all) 1 D cA K [.ref pa, .int (nI pp), .int (nI o)] [(pa, .inr (4, [.ref pn, .ref ps, .ref pln, .ref pr, .int (nI num), .int (nI pl)])), (ps, .inl (cA 0, 5, .inl st)), (pr, .inl (cA 0, 65, .inl rw))] (fun (r : Int32) (u : Unit) => r = rw (sp + o)) (fun u => [(pa, .inr (4, [.ref pn, .ref ps, .ref pln, .ref pr, .int (nI num), .int (nI pl)])), (ps, .inl (cA 0, 5, .inl st)), (pr, .inl (cA 0, 65, .inl rw))]) := by
  refine ck_mkI (by decide) (fun _ _ _ => rfl) (Nat.le_of_ble_eq_true rfl) ?_
  intro pG eG sG mG argsG belowG methG cG Q A H locs ls hx hb hml hown hts hK hE hA hP hD hS hl hret
  have hl : lv_has ls 3 [(0, .ref pa), (1, .int (nI pp)), (2, .int (nI o))] := hl
  refine lv_aload_n hx hb d_Pi_symbolAt_0 rfl (lv_at hl 0 rfl) ?_
  refine va_get (C := RX4) (T := TX4) (N := 6) hx hb hts inX4 hown hK hP 0 rfl rfl 3 (by decide) (hts _ m_64) (fun _ h9 => h9) rfl d_Pi_symbolAt_1 ?_
  refine lv_aload_n hx hb d_Pi_symbolAt_4 rfl (lv_at hl 0 rfl) ?_
  refine va_get (C := RX4) (T := TX4) (N := 6) hx hb hts inX4 hown hK hP 0 rfl rfl 1 (by decide) (hts _ m_61) (fun _ h9 => h9) rfl d_Pi_symbolAt_5 ?_
  refine lv_iload_n hx hb d_Pi_symbolAt_8 rfl (lv_at hl 1 rfl) ?_
  refine wn_iald hx hb hK hP 1 0 rfl rfl (by omega) (by omega) d_Pi_symbolAt_9 ?_
  refine wn_eq (y := nI sp) hsp ?_
  refine lv_iload_n hx hb d_Pi_symbolAt_10 rfl (lv_at hl 2 rfl) ?_
  refine wn_iadd hx hb d_Pi_symbolAt_11 ?_
  refine wn_iald hx hb hK hP 2 0 rfl rfl (by omega) (by omega) d_Pi_symbolAt_12 ?_
  exact hret (rw (sp + o)) () _ _ _ 13 d_Pi_symbolAt_13 rfl hP hD hS
theorem k_Pi_symbolAt : cf_V y_Pi_symbolAt b_Pi_symbolAt 3 (some .int) "ReadMapper$Pieces" 2 := ⟨⟨m_432, m_433, m_4, m_434⟩, by decide +kernel⟩
set_option maxHeartbeats 4000000 in
set_option maxRecDepth 100000 in
theorem c_Pi_clear (l : Launch) (D : va_G) (cA : Nat → ClassId) (K : Nat → Nat) (pa pn ps pln pr : Nat) (num pl : Nat) : ck_V l y_Pi_clear (Cond.code y_Pi_clear b_Pi_clear 1 none :: w_all) 1 D cA K [.ref pa] [(pa, .inr (4, [.ref pn, .ref ps, .ref pln, .ref pr, .int (nI num), .int (nI pl)]))] (fun (u : Unit) => True) (fun u => [(pa, .inr (4, [.ref pn, .ref ps, .ref pln, .ref pr, .int (nI 0), .int (nI 0)]))]) := by
  refine ck_mkV (by decide) (Nat.le_of_ble_eq_true rfl) ?_
  intro pG eG sG mG argsG belowG methG cG Q A H locs ls hx hb hml hown hts hK hE hA hP hD hS hl hret
  have hl : lv_has ls 1 [(0, .ref pa)] := hl
  refine lv_aload_n hx hb d_Pi_clear_0 rfl (lv_at hl 0 rfl) ?_
  refine lv_iconst (v := nI 0) hx hb d_Pi_clear_1 (by decide) ?_
  refine va_put (D := D) (ci := 4) (v := .int (nI 0)) (ty := .int) (C := RX4) (T := TX4) (N := 6) hx hb hts inX4 tyX4 tyX4_ok nmX4 hown hK hP hD hS 0 rfl rfl 4 (by decide) (hts _ m_66) (fun _ h9 => h9) rfl (by decide +kernel) rfl rfl (Nat.le_of_ble_eq_true rfl) d_Pi_clear_2 (fun H locs hP hD hS => ?_)
  have hP : va_P D vwCl [(pa, .inr (4, [.ref pn, .ref ps, .ref pln, .ref pr, .int (nI 0), .int (nI pl)]))] H := hP
  have hD : va_D A [(pa, .inr (4, [.ref pn, .ref ps, .ref pln, .ref pr, .int (nI 0), .int (nI pl)]))] := hD
  refine lv_aload_n hx hb d_Pi_clear_5 rfl (lv_at hl 0 rfl) ?_
  refine lv_iconst (v := nI 0) hx hb d_Pi_clear_6 (by decide) ?_
  refine va_put (D := D) (ci := 4) (v := .int (nI 0)) (ty := .int) (C := RX4) (T := TX4) (N := 6) hx hb hts inX4 tyX4 tyX4_ok nmX4 hown hK hP hD hS 0 rfl rfl 5 (by decide) (hts _ m_69) (fun _ h9 => h9) rfl (by decide +kernel) rfl rfl (Nat.le_of_ble_eq_true rfl) d_Pi_clear_7 (fun H locs hP hD hS => ?_)
  have hP : va_P D vwCl [(pa, .inr (4, [.ref pn, .ref ps, .ref pln, .ref pr, .int (nI 0), .int (nI 0)]))] H := hP
  have hD : va_D A [(pa, .inr (4, [.ref pn, .ref ps, .ref pln, .ref pr, .int (nI 0), .int (nI 0)]))] := hD
  exact hret () _ _ _ 10 d_Pi_clear_10 trivial hP hD hS
theorem k_Pi_clear : cf_V y_Pi_clear b_Pi_clear 1 none "ReadMapper$Pieces" 0 := ⟨⟨m_806, m_807, m_4, m_808⟩, by decide +kernel⟩
set_option maxHeartbeats 4000000 in
set_option maxRecDepth 100000 in
theorem c_Pi_hasRoom (l : Launch) (D : va_G) (cA : Nat → ClassId) (K : Nat → Nat) (pa pn ps pln pr : Nat) (num pl : Nat) (q : Nat) (hq : q ≤ 2000) (h1 : num ≤ pl) (h2 : pl - num ≤ 60) (h3 : pl ≤ 65) : ck_I l y_Pi_hasRoom (Cond.code y_Pi_hasRoom b_Pi_hasRoom 2 (some .boolean) :: w_all) 1 D cA K [.ref pa, .int (nI q)] [(pa, .inr (4, [.ref pn, .ref ps, .ref pln, .ref pr, .int (nI num), .int (nI pl)]))] (fun (r : Int32) (u : Unit) => (r = 1 ∧ num < 5 ∧ q ≤ 60 - (pl - num)) ∨ (r = 0 ∧ ¬ (num < 5 ∧ q ≤ 60 - (pl - num)))) (fun u => [(pa, .inr (4, [.ref pn, .ref ps, .ref pln, .ref pr, .int (nI num), .int (nI pl)]))]) := by
  refine ck_mkI (by decide) (fun r u h => by rcases h with ⟨rfl, _⟩ | ⟨rfl, _⟩ <;> rfl) (Nat.le_of_ble_eq_true rfl) ?_
  intro pG eG sG mG argsG belowG methG cG Q A H locs ls hx hb hml hown hts hK hE hA hP hD hS hl hret
  have hl : lv_has ls 2 [(0, .ref pa), (1, .int (nI q))] := hl
  refine lv_aload_n hx hb d_Pi_hasRoom_0 rfl (lv_at hl 0 rfl) ?_
  refine va_get (C := RX4) (T := TX4) (N := 6) hx hb hts inX4 hown hK hP 0 rfl rfl 4 (by decide) (hts _ m_66) (fun _ h9 => h9) rfl d_Pi_hasRoom_1 ?_
  refine lv_iconst (v := nI 5) hx hb d_Pi_hasRoom_4 (by decide) ?_
  refine wn_icmp_ge (by omega) (by omega) (tgt := 28) hx hb d_Pi_hasRoom_5 (by decide) ?_ ?_
  · intro h5
    refine lv_iconst (v := 0) hx hb d_Pi_hasRoom_28 (by decide) ?_
    exact hret 0 () _ _ _ 29 d_Pi_hasRoom_29 (by first | exact Or.inl ⟨rfl, h5, h21⟩ | exact Or.inr ⟨rfl, fun z => by omega⟩) hP hD hS
  · intro h5
    refine lv_iload_n hx hb d_Pi_hasRoom_8 rfl (lv_at hl 1 rfl) ?_
    refine lv_bipush (v := nI 60) hx hb d_Pi_hasRoom_9 (by decide) ?_
    refine lv_aload_n hx hb d_Pi_hasRoom_11 rfl (lv_at hl 0 rfl) ?_
    refine va_get (C := RX4) (T := TX4) (N := 6) hx hb hts inX4 hown hK hP 0 rfl rfl 5 (by decide) (hts _ m_69) (fun _ h9 => h9) rfl d_Pi_hasRoom_12 ?_
    refine lv_aload_n hx hb d_Pi_hasRoom_15 rfl (lv_at hl 0 rfl) ?_
    refine va_get (C := RX4) (T := TX4) (N := 6) hx hb hts inX4 hown hK hP 0 rfl rfl 4 (by decide) (hts _ m_66) (fun _ h9 => h9) rfl d_Pi_hasRoom_16 ?_
    refine wn_isub (by omega) hx hb d_Pi_hasRoom_19 ?_
    refine wn_isub (by omega) hx hb d_Pi_hasRoom_20 ?_
    refine wn_icmp_gt (by omega) (by omega) (tgt := 28) hx hb d_Pi_hasRoom_21 (by decide) ?_ ?_
    · intro h21
      refine lv_iconst (v := 0) hx hb d_Pi_hasRoom_28 (by decide) ?_
      exact hret 0 () _ _ _ 29 d_Pi_hasRoom_29 (by first | exact Or.inl ⟨rfl, h5, h21⟩ | exact Or.inr ⟨rfl, fun z => by omega⟩) hP hD hS
    · intro h21
      refine lv_iconst (v := 1) hx hb d_Pi_hasRoom_24 (by decide) ?_
      refine lv_goto (tgt := 29) hx hb d_Pi_hasRoom_25 (by decide) ?_
      exact hret 1 () _ _ _ 29 d_Pi_hasRoom_29 (by first | exact Or.inl ⟨rfl, h5, h21⟩ | exact Or.inr ⟨rfl, fun z => by omega⟩) hP hD hS
theorem k_Pi_hasRoom : cf_V y_Pi_hasRoom b_Pi_hasRoom 2 (some .boolean) "ReadMapper$Pieces" 1 := ⟨⟨m_565, m_566, m_4, m_567⟩, by decide +kernel⟩
set_option maxHeartbeats 4000000 in
set_option maxRecDepth 100000 in
theorem c_Pi_hasName (l : Launch) (D : va_G) (cA : Nat → ClassId) (K : Nat → Nat) (pa pn ps pln pr : Nat) (num pl : Nat) (g : Nat → Option Nat) (na nb : Nat → Nat) (nf : Nat → Nat → Int32) (NM : Nat → List Int32) (a b cap : Nat) (f : Nat → Int32) (M : List Int32) (hg : ∀ i, i < 5 → g i = some (na i)) (hnm : ∀ i, i < 5 → cd_r 8 (nf i) (NM i)) (hc : cd_r cap f M) (hnum : num ≤ 5) : ck_I l y_Pi_hasName (Cond.code y_Pi_hasName b_Pi_hasName 3 (some .boolean) :: w_all) 2 D cA K [.ref pa, .ref a] [(pa, .inr (4, [.ref pn, .ref ps, .ref pln, .ref pr, .int (nI num), .int (nI pl)])), (pn, .inl (cA 3, 5, .inr (.inr (.inr (.inr g))))), (na 0, .inr (0, [.ref (nb 0), .int (nI ((NM 0).length))])), (nb 0, .inl (cA 0, 8, .inl (nf 0))), (na 1, .inr (0, [.ref (nb 1), .int (nI ((NM 1).length))])), (nb 1, .inl (cA 0, 8, .inl (nf 1))), (na 2, .inr (0, [.ref (nb 2), .int (nI ((NM 2).length))])), (nb 2, .inl (cA 0, 8, .inl (nf 2))), (na 3, .inr (0, [.ref (nb 3), .int (nI ((NM 3).length))])), (nb 3, .inl (cA 0, 8, .inl (nf 3))), (na 4, .inr (0, [.ref (nb 4), .int (nI ((NM 4).length))])), (nb 4, .inl (cA 0, 8, .inl (nf 4))), (a, .inr (0, [.ref b, .int (nI M.length)])), (b, .inl (cA 0, cap, .inl f))] (fun (r : Int32) (u : Unit) => (r = 1 ∧ ∃ j, j < num ∧ NM j = M) ∨ (r = 0 ∧ ∀ j, j < num → ¬ NM j = M)) (fun u => [(pa, .inr (4, [.ref pn, .ref ps, .ref pln, .ref pr, .int (nI num), .int (nI pl)])), (pn, .inl (cA 3, 5, .inr (.inr (.inr (.inr g))))), (na 0, .inr (0, [.ref (nb 0), .int (nI ((NM 0).length))])), (nb 0, .inl (cA 0, 8, .inl (nf 0))), (na 1, .inr (0, [.ref (nb 1), .int (nI ((NM 1).length))])), (nb 1, .inl (cA 0, 8, .inl (nf 1))), (na 2, .inr (0, [.ref (nb 2), .int (nI ((NM 2).length))])), (nb 2, .inl (cA 0, 8, .inl (nf 2))), (na 3, .inr (0, [.ref (nb 3), .int (nI ((NM 3).length))])), (nb 3, .inl (cA 0, 8, .inl (nf 3))), (na 4, .inr (0, [.ref (nb 4), .int (nI ((NM 4).length))])), (nb 4, .inl (cA 0, 8, .inl (nf 4))), (a, .inr (0, [.ref b, .int (nI M.length)])), (b, .inl (cA 0, cap, .inl f))]) := by
  refine ck_mkI (by decide) (fun r u h => by rcases h with ⟨rfl, _⟩ | ⟨rfl, _⟩ <;> rfl) (Nat.le_of_ble_eq_true rfl) ?_
  intro pG eG sG mG argsG belowG methG cG Q A H locs ls hx hb hml hown hts hK hE hA hP hD hS hl hret
  have hl : lv_has ls 3 [(0, .ref pa), (1, .ref a)] := hl
  refine lv_iconst (v := nI 0) hx hb d_Pi_hasName_0 (by decide) ?_
  refine lv_istore_n (lv' := [(2, .int (nI 0)), (0, .ref pa), (1, .ref a)]) hx hb d_Pi_hasName_1 rfl hl (by decide) rfl (fun ls hl => ?_)
  have L2 : ∀ (nG : Nat) (i : Nat) (H : Heap) (locs : List Loc) (ls : Array Slot), num - i = nG → i ≤ num → (∀ j, j < i → ¬ NM j = M) →  va_P D vwCl [(pa, .inr (4, [.ref pn, .ref ps, .ref pln, .ref pr, .int (nI num), .int (nI pl)])), (pn, .inl (cA 3, 5, .inr (.inr (.inr (.inr g))))), (na 0, .inr (0, [.ref (nb 0), .int (nI ((NM 0).length))])), (nb 0, .inl (cA 0, 8, .inl (nf 0))), (na 1, .inr (0, [.ref (nb 1), .int (nI ((NM 1).length))])), (nb 1, .inl (cA 0, 8, .inl (nf 1))), (na 2, .inr (0, [.ref (nb 2), .int (nI ((NM 2).length))])), (nb 2, .inl (cA 0, 8, .inl (nf 2))), (na 3, .inr (0, [.ref (nb 3), .int (nI ((NM 3).length))])), (nb 3, .inl (cA 0, 8, .inl (nf 3))), (na 4, .inr (0, [.ref (nb 4), .int (nI ((NM 4).length))])), (nb 4, .inl (cA 0, 8, .inl (nf 4))), (a, .inr (0, [.ref b, .int (nI M.length)])), (b, .inl (cA 0, cap, .inl f))] H → va_D A [(pa, .inr (4, [.ref pn, .ref ps, .ref pln, .ref pr, .int (nI num), .int (nI pl)])), (pn, .inl (cA 3, 5, .inr (.inr (.inr (.inr g))))), (na 0, .inr (0, [.ref (nb 0), .int (nI ((NM 0).length))])), (nb 0, .inl (cA 0, 8, .inl (nf 0))), (na 1, .inr (0, [.ref (nb 1), .int (nI ((NM 1).length))])), (nb 1, .inl (cA 0, 8, .inl (nf 1))), (na 2, .inr (0, [.ref (nb 2), .int (nI ((NM 2).length))])), (nb 2, .inl (cA 0, 8, .inl (nf 2))), (na 3, .inr (0, [.ref (nb 3), .int (nI ((NM 3).length))])), (nb 3, .inl (cA 0, 8, .inl (nf 3))), (na 4, .inr (0, [.ref (nb 4), .int (nI ((NM 4).length))])), (nb 4, .inl (cA 0, 8, .inl (nf 4))), (a, .inr (0, [.ref b, .int (nI M.length)])), (b, .inl (cA 0, cap, .inl f))] → va_S A sG.heap H locs → lv_has ls 3 [(0, .ref pa), (1, .ref a), (2, .int (nI i))] → W pG l eG (rm_d 2) sG mG argsG belowG methG cG H locs 0 0 Q (F0 mG 2 ls []) := by
    intro nG
    induction nG using Nat.strongRecOn with
    | ind nG ih2 =>
      intro i H locs ls hn2 hi hs hP hD hS hl
      refine lv_iload_n hx hb d_Pi_hasName_2 rfl (lv_at hl 2 rfl) ?_
      refine lv_aload_n hx hb d_Pi_hasName_3 rfl (lv_at hl 0 rfl) ?_
      refine va_get (C := RX4) (T := TX4) (N := 6) hx hb hts inX4 hown hK hP 0 rfl rfl 4 (by decide) (hts _ m_66) (fun _ h9 => h9) rfl d_Pi_hasName_4 ?_
      refine wn_icmp_ge (by omega) (by omega) (tgt := 31) hx hb d_Pi_hasName_7 (by decide) ?_ ?_
      · intro h7
        refine lv_iconst (v := 0) hx hb d_Pi_hasName_31 (by decide) ?_
        exact hret 0 () _ _ _ 32 d_Pi_hasName_32 (Or.inr ⟨rfl, fun j hj => hs j (by omega)⟩) hP hD hS
      · intro h7
        have hsp : i = 0 ∨ i = 1 ∨ i = 2 ∨ i = 3 ∨ i = 4 := by omega
        rcases hsp with rfl | rfl | rfl | rfl | rfl
        ·
          refine lv_aload_n hx hb d_Pi_hasName_10 rfl (lv_at hl 0 rfl) ?_
          refine va_get (C := RX4) (T := TX4) (N := 6) hx hb hts inX4 hown hK hP 0 rfl rfl 0 (by decide) (hts _ m_59) (fun _ h9 => h9) rfl d_Pi_hasName_11 ?_
          refine lv_iload_n hx hb d_Pi_hasName_14 rfl (lv_at hl 2 rfl) ?_
          refine wn_aldq (q := na 0) hx hb hK hP 1 3 rfl rfl (by omega) (by omega) (hg 0 (by omega)) d_Pi_hasName_15 ?_
          refine lv_aload_n hx hb d_Pi_hasName_16 rfl (lv_at hl 1 rfl) ?_
          refine ck_cV (C := "ReadMapper$Codes") (ci := 0) (rest := []) (wr := [(pa, .inr (4, [.ref pn, .ref ps, .ref pln, .ref pr, .int (nI num), .int (nI pl)])), (pn, .inl (cA 3, 5, .inr (.inr (.inr (.inr g))))), (na 1, .inr (0, [.ref (nb 1), .int (nI ((NM 1).length))])), (nb 1, .inl (cA 0, 8, .inl (nf 1))), (na 2, .inr (0, [.ref (nb 2), .int (nI ((NM 2).length))])), (nb 2, .inl (cA 0, 8, .inl (nf 2))), (na 3, .inr (0, [.ref (nb 3), .int (nI ((NM 3).length))])), (nb 3, .inl (cA 0, 8, .inl (nf 3))), (na 4, .inr (0, [.ref (nb 4), .int (nI ((NM 4).length))])), (nb 4, .inl (cA 0, 8, .inl (nf 4)))]) (ws2 := fun u => [(pa, .inr (4, [.ref pn, .ref ps, .ref pln, .ref pr, .int (nI num), .int (nI pl)])), (pn, .inl (cA 3, 5, .inr (.inr (.inr (.inr g))))), (na 0, .inr (0, [.ref (nb 0), .int (nI ((NM 0).length))])), (nb 0, .inl (cA 0, 8, .inl (nf 0))), (na 1, .inr (0, [.ref (nb 1), .int (nI ((NM 1).length))])), (nb 1, .inl (cA 0, 8, .inl (nf 1))), (na 2, .inr (0, [.ref (nb 2), .int (nI ((NM 2).length))])), (nb 2, .inl (cA 0, 8, .inl (nf 2))), (na 3, .inr (0, [.ref (nb 3), .int (nI ((NM 3).length))])), (nb 3, .inl (cA 0, 8, .inl (nf 3))), (na 4, .inr (0, [.ref (nb 4), .int (nI ((NM 4).length))])), (nb 4, .inl (cA 0, 8, .inl (nf 4))), (a, .inr (0, [.ref b, .int (nI M.length)])), (b, .inl (cA 0, cap, .inl f))]) (c_Co_isSame l D cA K (na 0) (nb 0) 8 (nf 0) (NM 0) a b cap f M (hnm _ (by omega)) hc) hx hb hml hown hts hK hE hA hP hD hS k_Co_isSame m_496 (by decide) 2 rfl rfl rfl hl.1 rfl (Nat.le_of_ble_eq_true rfl) d_Pi_hasName_17  [2, 3, 12, 13] [0, 1, 4, 5, 6, 7, 8, 9, 10, 11] [0, 1, 10, 11, 2, 3, 4, 5, 6, 7, 8, 9, 12, 13] rfl rfl (by decide) (fun _ => rfl) (fun r17 u17 H locs hq17 hP hD hS => ?_)
          try dsimp only at hq17
          have hP : va_P D vwCl [(pa, .inr (4, [.ref pn, .ref ps, .ref pln, .ref pr, .int (nI num), .int (nI pl)])), (pn, .inl (cA 3, 5, .inr (.inr (.inr (.inr g))))), (na 0, .inr (0, [.ref (nb 0), .int (nI ((NM 0).length))])), (nb 0, .inl (cA 0, 8, .inl (nf 0))), (na 1, .inr (0, [.ref (nb 1), .int (nI ((NM 1).length))])), (nb 1, .inl (cA 0, 8, .inl (nf 1))), (na 2, .inr (0, [.ref (nb 2), .int (nI ((NM 2).length))])), (nb 2, .inl (cA 0, 8, .inl (nf 2))), (na 3, .inr (0, [.ref (nb 3), .int (nI ((NM 3).length))])), (nb 3, .inl (cA 0, 8, .inl (nf 3))), (na 4, .inr (0, [.ref (nb 4), .int (nI ((NM 4).length))])), (nb 4, .inl (cA 0, 8, .inl (nf 4))), (a, .inr (0, [.ref b, .int (nI M.length)])), (b, .inl (cA 0, cap, .inl f))] H := hP
          have hD : va_D A [(pa, .inr (4, [.ref pn, .ref ps, .ref pln, .ref pr, .int (nI num), .int (nI pl)])), (pn, .inl (cA 3, 5, .inr (.inr (.inr (.inr g))))), (na 0, .inr (0, [.ref (nb 0), .int (nI ((NM 0).length))])), (nb 0, .inl (cA 0, 8, .inl (nf 0))), (na 1, .inr (0, [.ref (nb 1), .int (nI ((NM 1).length))])), (nb 1, .inl (cA 0, 8, .inl (nf 1))), (na 2, .inr (0, [.ref (nb 2), .int (nI ((NM 2).length))])), (nb 2, .inl (cA 0, 8, .inl (nf 2))), (na 3, .inr (0, [.ref (nb 3), .int (nI ((NM 3).length))])), (nb 3, .inl (cA 0, 8, .inl (nf 3))), (na 4, .inr (0, [.ref (nb 4), .int (nI ((NM 4).length))])), (nb 4, .inl (cA 0, 8, .inl (nf 4))), (a, .inr (0, [.ref b, .int (nI M.length)])), (b, .inl (cA 0, cap, .inl f))] := hD
          rcases hq17 with ⟨rfl, hq17⟩ | ⟨rfl, hq17⟩
          ·
            refine lv_if_eq (tgt := 25) hx hb d_Pi_hasName_20 (by decide) (fun h9 => absurd h9 (by decide)) (fun _ => ?_)
            refine lv_iconst (v := 1) hx hb d_Pi_hasName_23 (by decide) ?_
            exact hret 1 () _ _ _ 24 d_Pi_hasName_24 (Or.inl ⟨rfl, _, h7, hq17⟩) hP hD hS
          ·
            refine lv_if_eq (tgt := 25) hx hb d_Pi_hasName_20 (by decide) (fun _ => ?_) (fun h9 => absurd h9 (by decide))
            refine lv_iinc (k := 2) (v := nI 1) (lv' := [(2, .int (nI 1)), (0, .ref pa), (1, .ref a)]) hx hb d_Pi_hasName_25 hl rfl (wi_inc1 _) (by decide) rfl (fun ls hl => ?_)
            refine lv_goto (tgt := 2) hx hb d_Pi_hasName_28 (by decide) ?_
            exact ih2 _ (by omega) 1 _ _ _ rfl (by first | assumption | omega) (lt_s hs hq17) hP hD hS (lv_sub hl [1, 2, 0] rfl)
        ·
          refine lv_aload_n hx hb d_Pi_hasName_10 rfl (lv_at hl 0 rfl) ?_
          refine va_get (C := RX4) (T := TX4) (N := 6) hx hb hts inX4 hown hK hP 0 rfl rfl 0 (by decide) (hts _ m_59) (fun _ h9 => h9) rfl d_Pi_hasName_11 ?_
          refine lv_iload_n hx hb d_Pi_hasName_14 rfl (lv_at hl 2 rfl) ?_
          refine wn_aldq (q := na 1) hx hb hK hP 1 3 rfl rfl (by omega) (by omega) (hg 1 (by omega)) d_Pi_hasName_15 ?_
          refine lv_aload_n hx hb d_Pi_hasName_16 rfl (lv_at hl 1 rfl) ?_
          refine ck_cV (C := "ReadMapper$Codes") (ci := 0) (rest := []) (wr := [(pa, .inr (4, [.ref pn, .ref ps, .ref pln, .ref pr, .int (nI num), .int (nI pl)])), (pn, .inl (cA 3, 5, .inr (.inr (.inr (.inr g))))), (na 0, .inr (0, [.ref (nb 0), .int (nI ((NM 0).length))])), (nb 0, .inl (cA 0, 8, .inl (nf 0))), (na 2, .inr (0, [.ref (nb 2), .int (nI ((NM 2).length))])), (nb 2, .inl (cA 0, 8, .inl (nf 2))), (na 3, .inr (0, [.ref (nb 3), .int (nI ((NM 3).length))])), (nb 3, .inl (cA 0, 8, .inl (nf 3))), (na 4, .inr (0, [.ref (nb 4), .int (nI ((NM 4).length))])), (nb 4, .inl (cA 0, 8, .inl (nf 4)))]) (ws2 := fun u => [(pa, .inr (4, [.ref pn, .ref ps, .ref pln, .ref pr, .int (nI num), .int (nI pl)])), (pn, .inl (cA 3, 5, .inr (.inr (.inr (.inr g))))), (na 0, .inr (0, [.ref (nb 0), .int (nI ((NM 0).length))])), (nb 0, .inl (cA 0, 8, .inl (nf 0))), (na 1, .inr (0, [.ref (nb 1), .int (nI ((NM 1).length))])), (nb 1, .inl (cA 0, 8, .inl (nf 1))), (na 2, .inr (0, [.ref (nb 2), .int (nI ((NM 2).length))])), (nb 2, .inl (cA 0, 8, .inl (nf 2))), (na 3, .inr (0, [.ref (nb 3), .int (nI ((NM 3).length))])), (nb 3, .inl (cA 0, 8, .inl (nf 3))), (na 4, .inr (0, [.ref (nb 4), .int (nI ((NM 4).length))])), (nb 4, .inl (cA 0, 8, .inl (nf 4))), (a, .inr (0, [.ref b, .int (nI M.length)])), (b, .inl (cA 0, cap, .inl f))]) (c_Co_isSame l D cA K (na 1) (nb 1) 8 (nf 1) (NM 1) a b cap f M (hnm _ (by omega)) hc) hx hb hml hown hts hK hE hA hP hD hS k_Co_isSame m_496 (by decide) 4 rfl rfl rfl hl.1 rfl (Nat.le_of_ble_eq_true rfl) d_Pi_hasName_17  [4, 5, 12, 13] [0, 1, 2, 3, 6, 7, 8, 9, 10, 11] [0, 1, 2, 3, 10, 11, 4, 5, 6, 7, 8, 9, 12, 13] rfl rfl (by decide) (fun _ => rfl) (fun r17 u17 H locs hq17 hP hD hS => ?_)
          try dsimp only at hq17
          have hP : va_P D vwCl [(pa, .inr (4, [.ref pn, .ref ps, .ref pln, .ref pr, .int (nI num), .int (nI pl)])), (pn, .inl (cA 3, 5, .inr (.inr (.inr (.inr g))))), (na 0, .inr (0, [.ref (nb 0), .int (nI ((NM 0).length))])), (nb 0, .inl (cA 0, 8, .inl (nf 0))), (na 1, .inr (0, [.ref (nb 1), .int (nI ((NM 1).length))])), (nb 1, .inl (cA 0, 8, .inl (nf 1))), (na 2, .inr (0, [.ref (nb 2), .int (nI ((NM 2).length))])), (nb 2, .inl (cA 0, 8, .inl (nf 2))), (na 3, .inr (0, [.ref (nb 3), .int (nI ((NM 3).length))])), (nb 3, .inl (cA 0, 8, .inl (nf 3))), (na 4, .inr (0, [.ref (nb 4), .int (nI ((NM 4).length))])), (nb 4, .inl (cA 0, 8, .inl (nf 4))), (a, .inr (0, [.ref b, .int (nI M.length)])), (b, .inl (cA 0, cap, .inl f))] H := hP
          have hD : va_D A [(pa, .inr (4, [.ref pn, .ref ps, .ref pln, .ref pr, .int (nI num), .int (nI pl)])), (pn, .inl (cA 3, 5, .inr (.inr (.inr (.inr g))))), (na 0, .inr (0, [.ref (nb 0), .int (nI ((NM 0).length))])), (nb 0, .inl (cA 0, 8, .inl (nf 0))), (na 1, .inr (0, [.ref (nb 1), .int (nI ((NM 1).length))])), (nb 1, .inl (cA 0, 8, .inl (nf 1))), (na 2, .inr (0, [.ref (nb 2), .int (nI ((NM 2).length))])), (nb 2, .inl (cA 0, 8, .inl (nf 2))), (na 3, .inr (0, [.ref (nb 3), .int (nI ((NM 3).length))])), (nb 3, .inl (cA 0, 8, .inl (nf 3))), (na 4, .inr (0, [.ref (nb 4), .int (nI ((NM 4).length))])), (nb 4, .inl (cA 0, 8, .inl (nf 4))), (a, .inr (0, [.ref b, .int (nI M.length)])), (b, .inl (cA 0, cap, .inl f))] := hD
          rcases hq17 with ⟨rfl, hq17⟩ | ⟨rfl, hq17⟩
          ·
            refine lv_if_eq (tgt := 25) hx hb d_Pi_hasName_20 (by decide) (fun h9 => absurd h9 (by decide)) (fun _ => ?_)
            refine lv_iconst (v := 1) hx hb d_Pi_hasName_23 (by decide) ?_
            exact hret 1 () _ _ _ 24 d_Pi_hasName_24 (Or.inl ⟨rfl, _, h7, hq17⟩) hP hD hS
          ·
            refine lv_if_eq (tgt := 25) hx hb d_Pi_hasName_20 (by decide) (fun _ => ?_) (fun h9 => absurd h9 (by decide))
            refine lv_iinc (k := 2) (v := nI 2) (lv' := [(2, .int (nI 2)), (0, .ref pa), (1, .ref a)]) hx hb d_Pi_hasName_25 hl rfl (wi_inc1 _) (by decide) rfl (fun ls hl => ?_)
            refine lv_goto (tgt := 2) hx hb d_Pi_hasName_28 (by decide) ?_
            exact ih2 _ (by omega) 2 _ _ _ rfl (by first | assumption | omega) (lt_s hs hq17) hP hD hS (lv_sub hl [1, 2, 0] rfl)
        ·
          refine lv_aload_n hx hb d_Pi_hasName_10 rfl (lv_at hl 0 rfl) ?_
          refine va_get (C := RX4) (T := TX4) (N := 6) hx hb hts inX4 hown hK hP 0 rfl rfl 0 (by decide) (hts _ m_59) (fun _ h9 => h9) rfl d_Pi_hasName_11 ?_
          refine lv_iload_n hx hb d_Pi_hasName_14 rfl (lv_at hl 2 rfl) ?_
          refine wn_aldq (q := na 2) hx hb hK hP 1 3 rfl rfl (by omega) (by omega) (hg 2 (by omega)) d_Pi_hasName_15 ?_
          refine lv_aload_n hx hb d_Pi_hasName_16 rfl (lv_at hl 1 rfl) ?_
          refine ck_cV (C := "ReadMapper$Codes") (ci := 0) (rest := []) (wr := [(pa, .inr (4, [.ref pn, .ref ps, .ref pln, .ref pr, .int (nI num), .int (nI pl)])), (pn, .inl (cA 3, 5, .inr (.inr (.inr (.inr g))))), (na 0, .inr (0, [.ref (nb 0), .int (nI ((NM 0).length))])), (nb 0, .inl (cA 0, 8, .inl (nf 0))), (na 1, .inr (0, [.ref (nb 1), .int (nI ((NM 1).length))])), (nb 1, .inl (cA 0, 8, .inl (nf 1))), (na 3, .inr (0, [.ref (nb 3), .int (nI ((NM 3).length))])), (nb 3, .inl (cA 0, 8, .inl (nf 3))), (na 4, .inr (0, [.ref (nb 4), .int (nI ((NM 4).length))])), (nb 4, .inl (cA 0, 8, .inl (nf 4)))]) (ws2 := fun u => [(pa, .inr (4, [.ref pn, .ref ps, .ref pln, .ref pr, .int (nI num), .int (nI pl)])), (pn, .inl (cA 3, 5, .inr (.inr (.inr (.inr g))))), (na 0, .inr (0, [.ref (nb 0), .int (nI ((NM 0).length))])), (nb 0, .inl (cA 0, 8, .inl (nf 0))), (na 1, .inr (0, [.ref (nb 1), .int (nI ((NM 1).length))])), (nb 1, .inl (cA 0, 8, .inl (nf 1))), (na 2, .inr (0, [.ref (nb 2), .int (nI ((NM 2).length))])), (nb 2, .inl (cA 0, 8, .inl (nf 2))), (na 3, .inr (0, [.ref (nb 3), .int (nI ((NM 3).length))])), (nb 3, .inl (cA 0, 8, .inl (nf 3))), (na 4, .inr (0, [.ref (nb 4), .int (nI ((NM 4).length))])), (nb 4, .inl (cA 0, 8, .inl (nf 4))), (a, .inr (0, [.ref b, .int (nI M.length)])), (b, .inl (cA 0, cap, .inl f))]) (c_Co_isSame l D cA K (na 2) (nb 2) 8 (nf 2) (NM 2) a b cap f M (hnm _ (by omega)) hc) hx hb hml hown hts hK hE hA hP hD hS k_Co_isSame m_496 (by decide) 6 rfl rfl rfl hl.1 rfl (Nat.le_of_ble_eq_true rfl) d_Pi_hasName_17  [6, 7, 12, 13] [0, 1, 2, 3, 4, 5, 8, 9, 10, 11] [0, 1, 2, 3, 4, 5, 10, 11, 6, 7, 8, 9, 12, 13] rfl rfl (by decide) (fun _ => rfl) (fun r17 u17 H locs hq17 hP hD hS => ?_)
          try dsimp only at hq17
          have hP : va_P D vwCl [(pa, .inr (4, [.ref pn, .ref ps, .ref pln, .ref pr, .int (nI num), .int (nI pl)])), (pn, .inl (cA 3, 5, .inr (.inr (.inr (.inr g))))), (na 0, .inr (0, [.ref (nb 0), .int (nI ((NM 0).length))])), (nb 0, .inl (cA 0, 8, .inl (nf 0))), (na 1, .inr (0, [.ref (nb 1), .int (nI ((NM 1).length))])), (nb 1, .inl (cA 0, 8, .inl (nf 1))), (na 2, .inr (0, [.ref (nb 2), .int (nI ((NM 2).length))])), (nb 2, .inl (cA 0, 8, .inl (nf 2))), (na 3, .inr (0, [.ref (nb 3), .int (nI ((NM 3).length))])), (nb 3, .inl (cA 0, 8, .inl (nf 3))), (na 4, .inr (0, [.ref (nb 4), .int (nI ((NM 4).length))])), (nb 4, .inl (cA 0, 8, .inl (nf 4))), (a, .inr (0, [.ref b, .int (nI M.length)])), (b, .inl (cA 0, cap, .inl f))] H := hP
          have hD : va_D A [(pa, .inr (4, [.ref pn, .ref ps, .ref pln, .ref pr, .int (nI num), .int (nI pl)])), (pn, .inl (cA 3, 5, .inr (.inr (.inr (.inr g))))), (na 0, .inr (0, [.ref (nb 0), .int (nI ((NM 0).length))])), (nb 0, .inl (cA 0, 8, .inl (nf 0))), (na 1, .inr (0, [.ref (nb 1), .int (nI ((NM 1).length))])), (nb 1, .inl (cA 0, 8, .inl (nf 1))), (na 2, .inr (0, [.ref (nb 2), .int (nI ((NM 2).length))])), (nb 2, .inl (cA 0, 8, .inl (nf 2))), (na 3, .inr (0, [.ref (nb 3), .int (nI ((NM 3).length))])), (nb 3, .inl (cA 0, 8, .inl (nf 3))), (na 4, .inr (0, [.ref (nb 4), .int (nI ((NM 4).length))])), (nb 4, .inl (cA 0, 8, .inl (nf 4))), (a, .inr (0, [.ref b, .int (nI M.length)])), (b, .inl (cA 0, cap, .inl f))] := hD
          rcases hq17 with ⟨rfl, hq17⟩ | ⟨rfl, hq17⟩
          ·
            refine lv_if_eq (tgt := 25) hx hb d_Pi_hasName_20 (by decide) (fun h9 => absurd h9 (by decide)) (fun _ => ?_)
            refine lv_iconst (v := 1) hx hb d_Pi_hasName_23 (by decide) ?_
            exact hret 1 () _ _ _ 24 d_Pi_hasName_24 (Or.inl ⟨rfl, _, h7, hq17⟩) hP hD hS
          ·
            refine lv_if_eq (tgt := 25) hx hb d_Pi_hasName_20 (by decide) (fun _ => ?_) (fun h9 => absurd h9 (by decide))
            refine lv_iinc (k := 2) (v := nI 3) (lv' := [(2, .int (nI 3)), (0, .ref pa), (1, .ref a)]) hx hb d_Pi_hasName_25 hl rfl (wi_inc1 _) (by decide) rfl (fun ls hl => ?_)
            refine lv_goto (tgt := 2) hx hb d_Pi_hasName_28 (by decide) ?_
            exact ih2 _ (by omega) 3 _ _ _ rfl (by first | assumption | omega) (lt_s hs hq17) hP hD hS (lv_sub hl [1, 2, 0] rfl)
        ·
          refine lv_aload_n hx hb d_Pi_hasName_10 rfl (lv_at hl 0 rfl) ?_
          refine va_get (C := RX4) (T := TX4) (N := 6) hx hb hts inX4 hown hK hP 0 rfl rfl 0 (by decide) (hts _ m_59) (fun _ h9 => h9) rfl d_Pi_hasName_11 ?_
          refine lv_iload_n hx hb d_Pi_hasName_14 rfl (lv_at hl 2 rfl) ?_
          refine wn_aldq (q := na 3) hx hb hK hP 1 3 rfl rfl (by omega) (by omega) (hg 3 (by omega)) d_Pi_hasName_15 ?_
          refine lv_aload_n hx hb d_Pi_hasName_16 rfl (lv_at hl 1 rfl) ?_
          refine ck_cV (C := "ReadMapper$Codes") (ci := 0) (rest := []) (wr := [(pa, .inr (4, [.ref pn, .ref ps, .ref pln, .ref pr, .int (nI num), .int (nI pl)])), (pn, .inl (cA 3, 5, .inr (.inr (.inr (.inr g))))), (na 0, .inr (0, [.ref (nb 0), .int (nI ((NM 0).length))])), (nb 0, .inl (cA 0, 8, .inl (nf 0))), (na 1, .inr (0, [.ref (nb 1), .int (nI ((NM 1).length))])), (nb 1, .inl (cA 0, 8, .inl (nf 1))), (na 2, .inr (0, [.ref (nb 2), .int (nI ((NM 2).length))])), (nb 2, .inl (cA 0, 8, .inl (nf 2))), (na 4, .inr (0, [.ref (nb 4), .int (nI ((NM 4).length))])), (nb 4, .inl (cA 0, 8, .inl (nf 4)))]) (ws2 := fun u => [(pa, .inr (4, [.ref pn, .ref ps, .ref pln, .ref pr, .int (nI num), .int (nI pl)])), (pn, .inl (cA 3, 5, .inr (.inr (.inr (.inr g))))), (na 0, .inr (0, [.ref (nb 0), .int (nI ((NM 0).length))])), (nb 0, .inl (cA 0, 8, .inl (nf 0))), (na 1, .inr (0, [.ref (nb 1), .int (nI ((NM 1).length))])), (nb 1, .inl (cA 0, 8, .inl (nf 1))), (na 2, .inr (0, [.ref (nb 2), .int (nI ((NM 2).length))])), (nb 2, .inl (cA 0, 8, .inl (nf 2))), (na 3, .inr (0, [.ref (nb 3), .int (nI ((NM 3).length))])), (nb 3, .inl (cA 0, 8, .inl (nf 3))), (na 4, .inr (0, [.ref (nb 4), .int (nI ((NM 4).length))])), (nb 4, .inl (cA 0, 8, .inl (nf 4))), (a, .inr (0, [.ref b, .int (nI M.length)])), (b, .inl (cA 0, cap, .inl f))]) (c_Co_isSame l D cA K (na 3) (nb 3) 8 (nf 3) (NM 3) a b cap f M (hnm _ (by omega)) hc) hx hb hml hown hts hK hE hA hP hD hS k_Co_isSame m_496 (by decide) 8 rfl rfl rfl hl.1 rfl (Nat.le_of_ble_eq_true rfl) d_Pi_hasName_17  [8, 9, 12, 13] [0, 1, 2, 3, 4, 5, 6, 7, 10, 11] [0, 1, 2, 3, 4, 5, 6, 7, 10, 11, 8, 9, 12, 13] rfl rfl (by decide) (fun _ => rfl) (fun r17 u17 H locs hq17 hP hD hS => ?_)
          try dsimp only at hq17
          have hP : va_P D vwCl [(pa, .inr (4, [.ref pn, .ref ps, .ref pln, .ref pr, .int (nI num), .int (nI pl)])), (pn, .inl (cA 3, 5, .inr (.inr (.inr (.inr g))))), (na 0, .inr (0, [.ref (nb 0), .int (nI ((NM 0).length))])), (nb 0, .inl (cA 0, 8, .inl (nf 0))), (na 1, .inr (0, [.ref (nb 1), .int (nI ((NM 1).length))])), (nb 1, .inl (cA 0, 8, .inl (nf 1))), (na 2, .inr (0, [.ref (nb 2), .int (nI ((NM 2).length))])), (nb 2, .inl (cA 0, 8, .inl (nf 2))), (na 3, .inr (0, [.ref (nb 3), .int (nI ((NM 3).length))])), (nb 3, .inl (cA 0, 8, .inl (nf 3))), (na 4, .inr (0, [.ref (nb 4), .int (nI ((NM 4).length))])), (nb 4, .inl (cA 0, 8, .inl (nf 4))), (a, .inr (0, [.ref b, .int (nI M.length)])), (b, .inl (cA 0, cap, .inl f))] H := hP
          have hD : va_D A [(pa, .inr (4, [.ref pn, .ref ps, .ref pln, .ref pr, .int (nI num), .int (nI pl)])), (pn, .inl (cA 3, 5, .inr (.inr (.inr (.inr g))))), (na 0, .inr (0, [.ref (nb 0), .int (nI ((NM 0).length))])), (nb 0, .inl (cA 0, 8, .inl (nf 0))), (na 1, .inr (0, [.ref (nb 1), .int (nI ((NM 1).length))])), (nb 1, .inl (cA 0, 8, .inl (nf 1))), (na 2, .inr (0, [.ref (nb 2), .int (nI ((NM 2).length))])), (nb 2, .inl (cA 0, 8, .inl (nf 2))), (na 3, .inr (0, [.ref (nb 3), .int (nI ((NM 3).length))])), (nb 3, .inl (cA 0, 8, .inl (nf 3))), (na 4, .inr (0, [.ref (nb 4), .int (nI ((NM 4).length))])), (nb 4, .inl (cA 0, 8, .inl (nf 4))), (a, .inr (0, [.ref b, .int (nI M.length)])), (b, .inl (cA 0, cap, .inl f))] := hD
          rcases hq17 with ⟨rfl, hq17⟩ | ⟨rfl, hq17⟩
          ·
            refine lv_if_eq (tgt := 25) hx hb d_Pi_hasName_20 (by decide) (fun h9 => absurd h9 (by decide)) (fun _ => ?_)
            refine lv_iconst (v := 1) hx hb d_Pi_hasName_23 (by decide) ?_
            exact hret 1 () _ _ _ 24 d_Pi_hasName_24 (Or.inl ⟨rfl, _, h7, hq17⟩) hP hD hS
          ·
            refine lv_if_eq (tgt := 25) hx hb d_Pi_hasName_20 (by decide) (fun _ => ?_) (fun h9 => absurd h9 (by decide))
            refine lv_iinc (k := 2) (v := nI 4) (lv' := [(2, .int (nI 4)), (0, .ref pa), (1, .ref a)]) hx hb d_Pi_hasName_25 hl rfl (wi_inc1 _) (by decide) rfl (fun ls hl => ?_)
            refine lv_goto (tgt := 2) hx hb d_Pi_hasName_28 (by decide) ?_
            exact ih2 _ (by omega) 4 _ _ _ rfl (by first | assumption | omega) (lt_s hs hq17) hP hD hS (lv_sub hl [1, 2, 0] rfl)
        ·
          refine lv_aload_n hx hb d_Pi_hasName_10 rfl (lv_at hl 0 rfl) ?_
          refine va_get (C := RX4) (T := TX4) (N := 6) hx hb hts inX4 hown hK hP 0 rfl rfl 0 (by decide) (hts _ m_59) (fun _ h9 => h9) rfl d_Pi_hasName_11 ?_
          refine lv_iload_n hx hb d_Pi_hasName_14 rfl (lv_at hl 2 rfl) ?_
          refine wn_aldq (q := na 4) hx hb hK hP 1 3 rfl rfl (by omega) (by omega) (hg 4 (by omega)) d_Pi_hasName_15 ?_
          refine lv_aload_n hx hb d_Pi_hasName_16 rfl (lv_at hl 1 rfl) ?_
          refine ck_cV (C := "ReadMapper$Codes") (ci := 0) (rest := []) (wr := [(pa, .inr (4, [.ref pn, .ref ps, .ref pln, .ref pr, .int (nI num), .int (nI pl)])), (pn, .inl (cA 3, 5, .inr (.inr (.inr (.inr g))))), (na 0, .inr (0, [.ref (nb 0), .int (nI ((NM 0).length))])), (nb 0, .inl (cA 0, 8, .inl (nf 0))), (na 1, .inr (0, [.ref (nb 1), .int (nI ((NM 1).length))])), (nb 1, .inl (cA 0, 8, .inl (nf 1))), (na 2, .inr (0, [.ref (nb 2), .int (nI ((NM 2).length))])), (nb 2, .inl (cA 0, 8, .inl (nf 2))), (na 3, .inr (0, [.ref (nb 3), .int (nI ((NM 3).length))])), (nb 3, .inl (cA 0, 8, .inl (nf 3)))]) (ws2 := fun u => [(pa, .inr (4, [.ref pn, .ref ps, .ref pln, .ref pr, .int (nI num), .int (nI pl)])), (pn, .inl (cA 3, 5, .inr (.inr (.inr (.inr g))))), (na 0, .inr (0, [.ref (nb 0), .int (nI ((NM 0).length))])), (nb 0, .inl (cA 0, 8, .inl (nf 0))), (na 1, .inr (0, [.ref (nb 1), .int (nI ((NM 1).length))])), (nb 1, .inl (cA 0, 8, .inl (nf 1))), (na 2, .inr (0, [.ref (nb 2), .int (nI ((NM 2).length))])), (nb 2, .inl (cA 0, 8, .inl (nf 2))), (na 3, .inr (0, [.ref (nb 3), .int (nI ((NM 3).length))])), (nb 3, .inl (cA 0, 8, .inl (nf 3))), (na 4, .inr (0, [.ref (nb 4), .int (nI ((NM 4).length))])), (nb 4, .inl (cA 0, 8, .inl (nf 4))), (a, .inr (0, [.ref b, .int (nI M.length)])), (b, .inl (cA 0, cap, .inl f))]) (c_Co_isSame l D cA K (na 4) (nb 4) 8 (nf 4) (NM 4) a b cap f M (hnm _ (by omega)) hc) hx hb hml hown hts hK hE hA hP hD hS k_Co_isSame m_496 (by decide) 10 rfl rfl rfl hl.1 rfl (Nat.le_of_ble_eq_true rfl) d_Pi_hasName_17  [10, 11, 12, 13] [0, 1, 2, 3, 4, 5, 6, 7, 8, 9] [0, 1, 2, 3, 4, 5, 6, 7, 8, 9, 10, 11, 12, 13] rfl rfl (by decide) (fun _ => rfl) (fun r17 u17 H locs hq17 hP hD hS => ?_)
          try dsimp only at hq17
          have hP : va_P D vwCl [(pa, .inr (4, [.ref pn, .ref ps, .ref pln, .ref pr, .int (nI num), .int (nI pl)])), (pn, .inl (cA 3, 5, .inr (.inr (.inr (.inr g))))), (na 0, .inr (0, [.ref (nb 0), .int (nI ((NM 0).length))])), (nb 0, .inl (cA 0, 8, .inl (nf 0))), (na 1, .inr (0, [.ref (nb 1), .int (nI ((NM 1).length))])), (nb 1, .inl (cA 0, 8, .inl (nf 1))), (na 2, .inr (0, [.ref (nb 2), .int (nI ((NM 2).length))])), (nb 2, .inl (cA 0, 8, .inl (nf 2))), (na 3, .inr (0, [.ref (nb 3), .int (nI ((NM 3).length))])), (nb 3, .inl (cA 0, 8, .inl (nf 3))), (na 4, .inr (0, [.ref (nb 4), .int (nI ((NM 4).length))])), (nb 4, .inl (cA 0, 8, .inl (nf 4))), (a, .inr (0, [.ref b, .int (nI M.length)])), (b, .inl (cA 0, cap, .inl f))] H := hP
          have hD : va_D A [(pa, .inr (4, [.ref pn, .ref ps, .ref pln, .ref pr, .int (nI num), .int (nI pl)])), (pn, .inl (cA 3, 5, .inr (.inr (.inr (.inr g))))), (na 0, .inr (0, [.ref (nb 0), .int (nI ((NM 0).length))])), (nb 0, .inl (cA 0, 8, .inl (nf 0))), (na 1, .inr (0, [.ref (nb 1), .int (nI ((NM 1).length))])), (nb 1, .inl (cA 0, 8, .inl (nf 1))), (na 2, .inr (0, [.ref (nb 2), .int (nI ((NM 2).length))])), (nb 2, .inl (cA 0, 8, .inl (nf 2))), (na 3, .inr (0, [.ref (nb 3), .int (nI ((NM 3).length))])), (nb 3, .inl (cA 0, 8, .inl (nf 3))), (na 4, .inr (0, [.ref (nb 4), .int (nI ((NM 4).length))])), (nb 4, .inl (cA 0, 8, .inl (nf 4))), (a, .inr (0, [.ref b, .int (nI M.length)])), (b, .inl (cA 0, cap, .inl f))] := hD
          rcases hq17 with ⟨rfl, hq17⟩ | ⟨rfl, hq17⟩
          ·
            refine lv_if_eq (tgt := 25) hx hb d_Pi_hasName_20 (by decide) (fun h9 => absurd h9 (by decide)) (fun _ => ?_)
            refine lv_iconst (v := 1) hx hb d_Pi_hasName_23 (by decide) ?_
            exact hret 1 () _ _ _ 24 d_Pi_hasName_24 (Or.inl ⟨rfl, _, h7, hq17⟩) hP hD hS
          ·
            refine lv_if_eq (tgt := 25) hx hb d_Pi_hasName_20 (by decide) (fun _ => ?_) (fun h9 => absurd h9 (by decide))
            refine lv_iinc (k := 2) (v := nI 5) (lv' := [(2, .int (nI 5)), (0, .ref pa), (1, .ref a)]) hx hb d_Pi_hasName_25 hl rfl (wi_inc1 _) (by decide) rfl (fun ls hl => ?_)
            refine lv_goto (tgt := 2) hx hb d_Pi_hasName_28 (by decide) ?_
            exact ih2 _ (by omega) 5 _ _ _ rfl (by first | assumption | omega) (lt_s hs hq17) hP hD hS (lv_sub hl [1, 2, 0] rfl)
  exact L2 _ 0 _ _ _ rfl (by first | assumption | omega) (fun j hj => absurd hj (Nat.not_lt_zero j)) hP hD hS (lv_sub hl [1, 2, 0] rfl)
theorem k_Pi_hasName : cf_V y_Pi_hasName b_Pi_hasName 3 (some .boolean) "ReadMapper$Pieces" 1 := ⟨⟨m_493, m_494, m_4, m_495⟩, by decide +kernel⟩
set_option maxHeartbeats 4000000 in
set_option maxRecDepth 100000 in
theorem c_Pi_settle (l : Launch) (D : va_G) (cA : Nat → ClassId) (K : Nat → Nat) (pa pn ps pln pr : Nat) (num pl : Nat) (rw : Nat → Int32) (pp : Nat) (x : Int32) (hp : pp < 65) : ck_I l y_Pi_settle (Cond.code y_Pi_settle b_Pi_settle 3 (some .boolean) :: w_all) 2 D cA K [.ref pa, .int (nI pp), .int x] [(pa, .inr (4, [.ref pn, .ref ps, .ref pln, .ref pr, .int (nI num), .int (nI pl)])), (pr, .inl (cA 0, 65, .inl rw))] (fun (r : Int32) (u : Unit) => (r = 1 ∧ ((1 < x ∧ 1 < rw pp) ∨ x = rw pp)) ∨ (r = 0 ∧ ¬ ((1 < x ∧ 1 < rw pp) ∨ x = rw pp))) (fun u => [(pa, .inr (4, [.ref pn, .ref ps, .ref pln, .ref pr, .int (nI num), .int (nI pl)])), (pr, .inl (cA 0, 65, .inl (se_c rw pp x)))]) := by
  refine ck_mkI (by decide) (fun r u h => by rcases h with ⟨rfl, _⟩ | ⟨rfl, _⟩ <;> rfl) (Nat.le_of_ble_eq_true rfl) ?_
  intro pG eG sG mG argsG belowG methG cG Q A H locs ls hx hb hml hown hts hK hE hA hP hD hS hl hret
  have hl : lv_has ls 3 [(0, .ref pa), (1, .int (nI pp)), (2, .int x)] := hl
  refine lv_iload_n hx hb d_Pi_settle_0 rfl (lv_at hl 2 rfl) ?_
  refine ck_cSN (rest := []) (wr := [(pa, .inr (4, [.ref pn, .ref ps, .ref pln, .ref pr, .int (nI num), .int (nI pl)])), (pr, .inl (cA 0, 65, .inl rw))]) (ws2 := fun u => [(pa, .inr (4, [.ref pn, .ref ps, .ref pln, .ref pr, .int (nI num), .int (nI pl)])), (pr, .inl (cA 0, 65, .inl rw))]) (c_Rm_isMark l D cA K x ) hx hb hml hown hts hK hE hA hP hD hS k_Rm_isMark n_603 (by decide) rfl hl.1 rfl (Nat.le_of_ble_eq_true rfl) d_Pi_settle_1 [] [0, 1] [0, 1] rfl rfl (by decide) (fun _ => rfl) (fun r1 u1 H locs hq1 hP hD hS => ?_)
  try dsimp only at hq1
  have hP : va_P D vwCl [(pa, .inr (4, [.ref pn, .ref ps, .ref pln, .ref pr, .int (nI num), .int (nI pl)])), (pr, .inl (cA 0, 65, .inl rw))] H := hP
  have hD : va_D A [(pa, .inr (4, [.ref pn, .ref ps, .ref pln, .ref pr, .int (nI num), .int (nI pl)])), (pr, .inl (cA 0, 65, .inl rw))] := hD
  rcases hq1 with ⟨rfl, hq1⟩ | ⟨rfl, hq1⟩
  ·
    refine lv_if_ne (tgt := 19) hx hb d_Pi_settle_4 (by decide) (fun _ => ?_) (fun h9 => absurd h9 (by decide))
    refine lv_iload_n hx hb d_Pi_settle_19 rfl (lv_at hl 2 rfl) ?_
    refine lv_aload_n hx hb d_Pi_settle_20 rfl (lv_at hl 0 rfl) ?_
    refine va_get (C := RX4) (T := TX4) (N := 6) hx hb hts inX4 hown hK hP 0 rfl rfl 3 (by decide) (hts _ m_64) (fun _ h9 => h9) rfl d_Pi_settle_21 ?_
    refine lv_iload_n hx hb d_Pi_settle_24 rfl (lv_at hl 1 rfl) ?_
    refine wn_iald hx hb hK hP 1 0 rfl rfl (by omega) (by omega) d_Pi_settle_25 ?_
    refine lv_icmp_ne (tgt := 33) hx hb d_Pi_settle_26 (by decide) ?_ ?_
    · intro h26
      refine lv_iconst (v := 0) hx hb d_Pi_settle_33 (by decide) ?_
      have e0 : se_c rw pp x = rw := if_neg (by first | exact fun z => hq1 z.1 | exact fun z => hq13 z.2)
      have hP : va_P D vwCl [(pa, .inr (4, [.ref pn, .ref ps, .ref pln, .ref pr, .int (nI num), .int (nI pl)])), (pr, .inl (cA 0, 65, .inl (se_c rw pp x)))] H := by rw [e0]; exact hP
      have hD : va_D A [(pa, .inr (4, [.ref pn, .ref ps, .ref pln, .ref pr, .int (nI num), .int (nI pl)])), (pr, .inl (cA 0, 65, .inl (se_c rw pp x)))] := by rw [e0]; exact hD
      exact hret 0 () _ _ _ 34 d_Pi_settle_34 (by first | exact Or.inl ⟨rfl, Or.inr h26⟩ | exact Or.inr ⟨rfl, fun z => z.elim (by first | exact fun z => hq1 z.1 | exact fun z => hq13 z.2) h26⟩) hP hD hS
    · intro h26
      refine lv_iconst (v := 1) hx hb d_Pi_settle_29 (by decide) ?_
      refine lv_goto (tgt := 34) hx hb d_Pi_settle_30 (by decide) ?_
      have e0 : se_c rw pp x = rw := if_neg (by first | exact fun z => hq1 z.1 | exact fun z => hq13 z.2)
      have hP : va_P D vwCl [(pa, .inr (4, [.ref pn, .ref ps, .ref pln, .ref pr, .int (nI num), .int (nI pl)])), (pr, .inl (cA 0, 65, .inl (se_c rw pp x)))] H := by rw [e0]; exact hP
      have hD : va_D A [(pa, .inr (4, [.ref pn, .ref ps, .ref pln, .ref pr, .int (nI num), .int (nI pl)])), (pr, .inl (cA 0, 65, .inl (se_c rw pp x)))] := by rw [e0]; exact hD
      exact hret 1 () _ _ _ 34 d_Pi_settle_34 (by first | exact Or.inl ⟨rfl, Or.inr h26⟩ | exact Or.inr ⟨rfl, fun z => z.elim (by first | exact fun z => hq1 z.1 | exact fun z => hq13 z.2) h26⟩) hP hD hS
  ·
    refine lv_if_ne (tgt := 19) hx hb d_Pi_settle_4 (by decide) (fun h9 => absurd h9 (by decide)) (fun _ => ?_)
    refine lv_aload_n hx hb d_Pi_settle_7 rfl (lv_at hl 0 rfl) ?_
    refine va_get (C := RX4) (T := TX4) (N := 6) hx hb hts inX4 hown hK hP 0 rfl rfl 3 (by decide) (hts _ m_64) (fun _ h9 => h9) rfl d_Pi_settle_8 ?_
    refine lv_iload_n hx hb d_Pi_settle_11 rfl (lv_at hl 1 rfl) ?_
    refine wn_iald hx hb hK hP 1 0 rfl rfl (by omega) (by omega) d_Pi_settle_12 ?_
    refine ck_cSN (rest := []) (wr := [(pa, .inr (4, [.ref pn, .ref ps, .ref pln, .ref pr, .int (nI num), .int (nI pl)])), (pr, .inl (cA 0, 65, .inl rw))]) (ws2 := fun u => [(pa, .inr (4, [.ref pn, .ref ps, .ref pln, .ref pr, .int (nI num), .int (nI pl)])), (pr, .inl (cA 0, 65, .inl rw))]) (c_Rm_isMark l D cA K (rw pp) ) hx hb hml hown hts hK hE hA hP hD hS k_Rm_isMark n_603 (by decide) rfl hl.1 rfl (Nat.le_of_ble_eq_true rfl) d_Pi_settle_13 [] [0, 1] [0, 1] rfl rfl (by decide) (fun _ => rfl) (fun r13 u13 H locs hq13 hP hD hS => ?_)
    try dsimp only at hq13
    have hP : va_P D vwCl [(pa, .inr (4, [.ref pn, .ref ps, .ref pln, .ref pr, .int (nI num), .int (nI pl)])), (pr, .inl (cA 0, 65, .inl rw))] H := hP
    have hD : va_D A [(pa, .inr (4, [.ref pn, .ref ps, .ref pln, .ref pr, .int (nI num), .int (nI pl)])), (pr, .inl (cA 0, 65, .inl rw))] := hD
    rcases hq13 with ⟨rfl, hq13⟩ | ⟨rfl, hq13⟩
    ·
      refine lv_if_eq (tgt := 35) hx hb d_Pi_settle_16 (by decide) (fun h9 => absurd h9 (by decide)) (fun _ => ?_)
      refine lv_iload_n hx hb d_Pi_settle_19 rfl (lv_at hl 2 rfl) ?_
      refine lv_aload_n hx hb d_Pi_settle_20 rfl (lv_at hl 0 rfl) ?_
      refine va_get (C := RX4) (T := TX4) (N := 6) hx hb hts inX4 hown hK hP 0 rfl rfl 3 (by decide) (hts _ m_64) (fun _ h9 => h9) rfl d_Pi_settle_21 ?_
      refine lv_iload_n hx hb d_Pi_settle_24 rfl (lv_at hl 1 rfl) ?_
      refine wn_iald hx hb hK hP 1 0 rfl rfl (by omega) (by omega) d_Pi_settle_25 ?_
      refine lv_icmp_ne (tgt := 33) hx hb d_Pi_settle_26 (by decide) ?_ ?_
      · intro h26
        refine lv_iconst (v := 0) hx hb d_Pi_settle_33 (by decide) ?_
        have e0 : se_c rw pp x = rw := if_neg (by first | exact fun z => hq1 z.1 | exact fun z => hq13 z.2)
        have hP : va_P D vwCl [(pa, .inr (4, [.ref pn, .ref ps, .ref pln, .ref pr, .int (nI num), .int (nI pl)])), (pr, .inl (cA 0, 65, .inl (se_c rw pp x)))] H := by rw [e0]; exact hP
        have hD : va_D A [(pa, .inr (4, [.ref pn, .ref ps, .ref pln, .ref pr, .int (nI num), .int (nI pl)])), (pr, .inl (cA 0, 65, .inl (se_c rw pp x)))] := by rw [e0]; exact hD
        exact hret 0 () _ _ _ 34 d_Pi_settle_34 (by first | exact Or.inl ⟨rfl, Or.inr h26⟩ | exact Or.inr ⟨rfl, fun z => z.elim (by first | exact fun z => hq1 z.1 | exact fun z => hq13 z.2) h26⟩) hP hD hS
      · intro h26
        refine lv_iconst (v := 1) hx hb d_Pi_settle_29 (by decide) ?_
        refine lv_goto (tgt := 34) hx hb d_Pi_settle_30 (by decide) ?_
        have e0 : se_c rw pp x = rw := if_neg (by first | exact fun z => hq1 z.1 | exact fun z => hq13 z.2)
        have hP : va_P D vwCl [(pa, .inr (4, [.ref pn, .ref ps, .ref pln, .ref pr, .int (nI num), .int (nI pl)])), (pr, .inl (cA 0, 65, .inl (se_c rw pp x)))] H := by rw [e0]; exact hP
        have hD : va_D A [(pa, .inr (4, [.ref pn, .ref ps, .ref pln, .ref pr, .int (nI num), .int (nI pl)])), (pr, .inl (cA 0, 65, .inl (se_c rw pp x)))] := by rw [e0]; exact hD
        exact hret 1 () _ _ _ 34 d_Pi_settle_34 (by first | exact Or.inl ⟨rfl, Or.inr h26⟩ | exact Or.inr ⟨rfl, fun z => z.elim (by first | exact fun z => hq1 z.1 | exact fun z => hq13 z.2) h26⟩) hP hD hS
    ·
      refine lv_if_eq (tgt := 35) hx hb d_Pi_settle_16 (by decide) (fun _ => ?_) (fun h9 => absurd h9 (by decide))
      refine lv_aload_n hx hb d_Pi_settle_35 rfl (lv_at hl 0 rfl) ?_
      refine va_get (C := RX4) (T := TX4) (N := 6) hx hb hts inX4 hown hK hP 0 rfl rfl 3 (by decide) (hts _ m_64) (fun _ h9 => h9) rfl d_Pi_settle_36 ?_
      refine lv_iload_n hx hb d_Pi_settle_39 rfl (lv_at hl 1 rfl) ?_
      refine lv_iload_n hx hb d_Pi_settle_40 rfl (lv_at hl 2 rfl) ?_
      refine wn_iast hx hb hK hP hD hS 1 0 rfl rfl (by omega) (by omega) d_Pi_settle_41 (fun H locs hP hD hS => ?_)
      have hP : va_P D vwCl [(pa, .inr (4, [.ref pn, .ref ps, .ref pln, .ref pr, .int (nI num), .int (nI pl)])), (pr, .inl (cA 0, 65, .inl (upd rw pp x)))] H := hP
      have hD : va_D A [(pa, .inr (4, [.ref pn, .ref ps, .ref pln, .ref pr, .int (nI num), .int (nI pl)])), (pr, .inl (cA 0, 65, .inl (upd rw pp x)))] := hD
      refine lv_iconst (v := 1) hx hb d_Pi_settle_42 (by decide) ?_
      have e0 : se_c rw pp x = upd rw pp x := if_pos ⟨hq1, hq13⟩
      have hP : va_P D vwCl [(pa, .inr (4, [.ref pn, .ref ps, .ref pln, .ref pr, .int (nI num), .int (nI pl)])), (pr, .inl (cA 0, 65, .inl (se_c rw pp x)))] H := by rw [e0]; exact hP
      have hD : va_D A [(pa, .inr (4, [.ref pn, .ref ps, .ref pln, .ref pr, .int (nI num), .int (nI pl)])), (pr, .inl (cA 0, 65, .inl (se_c rw pp x)))] := by rw [e0]; exact hD
      exact hret 1 () _ _ _ 43 d_Pi_settle_43 (Or.inl ⟨rfl, Or.inl ⟨hq1, hq13⟩⟩) hP hD hS
theorem k_Pi_settle : cf_V y_Pi_settle b_Pi_settle 3 (some .boolean) "ReadMapper$Pieces" 2 := ⟨⟨m_600, m_601, m_4, m_602⟩, by decide +kernel⟩
set_option maxHeartbeats 4000000 in
set_option maxRecDepth 100000 in
theorem c_Pi_mismatches (l : Launch) (D : va_G) (cA : Nat → ClassId) (K : Nat → Nat) (pa pn ps pln pr : Nat) (num pl : Nat) (st rw : Nat → Int32) (pp o sp k : Nat) (a b cap : Nat) (f : Nat → Int32) (B : List Int32) (hp : pp < 5) (hsp : st pp = nI sp) (ho : sp + o + B.length ≤ 65) (hk : k ≤ 1000) (hc : cd_r cap f B) : ck_I l y_Pi_mismatches (Cond.code y_Pi_mismatches b_Pi_mismatches 7 (some .int) :: w_all) 2 D cA K [.ref pa, .int (nI pp), .int (nI o), .ref a, .int (nI k)] [(pa, .inr (4, [.ref pn, .ref ps, .ref pln, .ref pr, .int (nI num), .int (nI pl)])), (ps, .inl (cA 0, 5, .inl st)), (pr, .inl (cA 0, 65, .inl rw)), (a, .inr (0, [.ref b, .int (nI B.length)])), (b, .inl (cA 0, cap, .inl f))] (fun (r : Int32) (u : Unit) => ∃ n, r = nI n ∧ ∃ i, i ≤ B.length ∧ n = mm_c rw (sp + o) B i ∧ (i = B.length ∨ k < n)) (fun u => [(pa, .inr (4, [.ref pn, .ref ps, .ref pln, .ref pr, .int (nI num), .int (nI pl)])), (ps, .inl (cA 0, 5, .inl st)), (pr, .inl (cA 0, 65, .inl rw)), (a, .inr (0, [.ref b, .int (nI B.length)])), (b, .inl (cA 0, cap, .inl f))]) := by
  refine ck_mkI (by decide) (fun _ _ _ => rfl) (Nat.le_of_ble_eq_true rfl) ?_
  intro pG eG sG mG argsG belowG methG cG Q A H locs ls hx hb hml hown hts hK hE hA hP hD hS hl hret
  have hl : lv_has ls 7 [(0, .ref pa), (1, .int (nI pp)), (2, .int (nI o)), (3, .ref a), (4, .int (nI k))] := hl
  have hl1 := cd_len hc
  refine lv_iconst (v := nI 0) hx hb d_Pi_mismatches_0 (by decide) ?_
  refine lv_istore (lv' := [(5, .int (nI 0)), (0, .ref pa), (1, .int (nI pp)), (2, .int (nI o)), (3, .ref a), (4, .int (nI k))]) hx hb d_Pi_mismatches_1 hl (by decide) rfl (fun ls hl => ?_)
  refine lv_iconst (v := nI 0) hx hb d_Pi_mismatches_3 (by decide) ?_
  refine lv_istore (lv' := [(6, .int (nI 0)), (5, .int (nI 0)), (0, .ref pa), (1, .int (nI pp)), (2, .int (nI o)), (3, .ref a), (4, .int (nI k))]) hx hb d_Pi_mismatches_4 hl (by decide) rfl (fun ls hl => ?_)
  have L6 : ∀ (nG : Nat) (i n : Nat) (H : Heap) (locs : List Loc) (ls : Array Slot), B.length - i = nG → i ≤ B.length → n = mm_c rw (sp + o) B i →  va_P D vwCl [(pa, .inr (4, [.ref pn, .ref ps, .ref pln, .ref pr, .int (nI num), .int (nI pl)])), (ps, .inl (cA 0, 5, .inl st)), (pr, .inl (cA 0, 65, .inl rw)), (a, .inr (0, [.ref b, .int (nI B.length)])), (b, .inl (cA 0, cap, .inl f))] H → va_D A [(pa, .inr (4, [.ref pn, .ref ps, .ref pln, .ref pr, .int (nI num), .int (nI pl)])), (ps, .inl (cA 0, 5, .inl st)), (pr, .inl (cA 0, 65, .inl rw)), (a, .inr (0, [.ref b, .int (nI B.length)])), (b, .inl (cA 0, cap, .inl f))] → va_S A sG.heap H locs → lv_has ls 7 [(0, .ref pa), (1, .int (nI pp)), (2, .int (nI o)), (3, .ref a), (4, .int (nI k)), (5, .int (nI n)), (6, .int (nI i))] → W pG l eG (rm_d 2) sG mG argsG belowG methG cG H locs 0 0 Q (F0 mG 6 ls []) := by
    intro nG
    induction nG using Nat.strongRecOn with
    | ind nG ih6 =>
      intro i n H locs ls hn6 hi hn hP hD hS hl
      have hml1 := mm_le rw (sp + o) B i
      rw [← hn] at hml1
      refine lv_iload hx hb d_Pi_mismatches_6 (lv_at hl 6 rfl) ?_
      refine lv_aload_n hx hb d_Pi_mismatches_8 rfl (lv_at hl 3 rfl) ?_
      refine ck_cV (C := "ReadMapper$Codes") (ci := 0) (rest := [.int (nI i)]) (wr := [(pa, .inr (4, [.ref pn, .ref ps, .ref pln, .ref pr, .int (nI num), .int (nI pl)])), (ps, .inl (cA 0, 5, .inl st)), (pr, .inl (cA 0, 65, .inl rw))]) (ws2 := fun u => [(pa, .inr (4, [.ref pn, .ref ps, .ref pln, .ref pr, .int (nI num), .int (nI pl)])), (ps, .inl (cA 0, 5, .inl st)), (pr, .inl (cA 0, 65, .inl rw)), (a, .inr (0, [.ref b, .int (nI B.length)])), (b, .inl (cA 0, cap, .inl f))]) (c_Co_size l D cA K a b cap f B (by first | assumption | omega)) hx hb hml hown hts hK hE hA hP hD hS k_Co_size m_587 (by decide) 3 rfl rfl rfl hl.1 rfl (Nat.le_of_ble_eq_true rfl) d_Pi_mismatches_9  [3, 4] [0, 1, 2] [0, 1, 2, 3, 4] rfl rfl (by decide) (fun _ => rfl) (fun r9 u9 H locs hq9 hP hD hS => ?_)
      try dsimp only at hq9
      have hP : va_P D vwCl [(pa, .inr (4, [.ref pn, .ref ps, .ref pln, .ref pr, .int (nI num), .int (nI pl)])), (ps, .inl (cA 0, 5, .inl st)), (pr, .inl (cA 0, 65, .inl rw)), (a, .inr (0, [.ref b, .int (nI B.length)])), (b, .inl (cA 0, cap, .inl f))] H := hP
      have hD : va_D A [(pa, .inr (4, [.ref pn, .ref ps, .ref pln, .ref pr, .int (nI num), .int (nI pl)])), (ps, .inl (cA 0, 5, .inl st)), (pr, .inl (cA 0, 65, .inl rw)), (a, .inr (0, [.ref b, .int (nI B.length)])), (b, .inl (cA 0, cap, .inl f))] := hD
      obtain rfl := hq9
      refine wn_icmp_ge (by omega) (by omega) (tgt := 52) hx hb d_Pi_mismatches_12 (by decide) ?_ ?_
      · intro h12
        refine lv_iload hx hb d_Pi_mismatches_52 (lv_at hl 5 rfl) ?_
        exact hret (nI n) () _ _ _ 54 d_Pi_mismatches_54 ⟨n, rfl, i, hi, hn, by omega⟩ hP hD hS
      · intro h12
        refine lv_iload hx hb d_Pi_mismatches_15 (lv_at hl 5 rfl) ?_
        refine lv_iload hx hb d_Pi_mismatches_17 (lv_at hl 4 rfl) ?_
        refine wn_icmp_gt (by omega) (by omega) (tgt := 52) hx hb d_Pi_mismatches_19 (by decide) ?_ ?_
        · intro h19
          refine lv_iload hx hb d_Pi_mismatches_52 (lv_at hl 5 rfl) ?_
          exact hret (nI n) () _ _ _ 54 d_Pi_mismatches_54 ⟨n, rfl, i, hi, hn, by omega⟩ hP hD hS
        · intro h19
          refine lv_aload_n hx hb d_Pi_mismatches_22 rfl (lv_at hl 0 rfl) ?_
          refine lv_iload_n hx hb d_Pi_mismatches_23 rfl (lv_at hl 1 rfl) ?_
          refine lv_iload_n hx hb d_Pi_mismatches_24 rfl (lv_at hl 2 rfl) ?_
          refine lv_iload hx hb d_Pi_mismatches_25 (lv_at hl 6 rfl) ?_
          refine wn_iadd hx hb d_Pi_mismatches_27 ?_
          refine ck_cV (C := "ReadMapper$Pieces") (ci := 4) (rest := []) (wr := [(a, .inr (0, [.ref b, .int (nI B.length)])), (b, .inl (cA 0, cap, .inl f))]) (ws2 := fun u => [(pa, .inr (4, [.ref pn, .ref ps, .ref pln, .ref pr, .int (nI num), .int (nI pl)])), (ps, .inl (cA 0, 5, .inl st)), (pr, .inl (cA 0, 65, .inl rw)), (a, .inr (0, [.ref b, .int (nI B.length)])), (b, .inl (cA 0, cap, .inl f))]) (c_Pi_symbolAt l D cA K pa pn ps pln pr num pl st rw pp (o + i) sp (by first | assumption | omega) (by first | assumption | omega) (by first | assumption | omega)) hx hb hml hown hts hK hE hA hP hD hS k_Pi_symbolAt m_721 (by decide) 0 rfl rfl rfl hl.1 rfl (Nat.le_of_ble_eq_true rfl) d_Pi_mismatches_28  [0, 1, 2] [3, 4] [2, 3, 4, 0, 1] rfl rfl (by decide) (fun _ => rfl) (fun r28 u28 H locs hq28 hP hD hS => ?_)
          try dsimp only at hq28
          have hP : va_P D vwCl [(pa, .inr (4, [.ref pn, .ref ps, .ref pln, .ref pr, .int (nI num), .int (nI pl)])), (ps, .inl (cA 0, 5, .inl st)), (pr, .inl (cA 0, 65, .inl rw)), (a, .inr (0, [.ref b, .int (nI B.length)])), (b, .inl (cA 0, cap, .inl f))] H := hP
          have hD : va_D A [(pa, .inr (4, [.ref pn, .ref ps, .ref pln, .ref pr, .int (nI num), .int (nI pl)])), (ps, .inl (cA 0, 5, .inl st)), (pr, .inl (cA 0, 65, .inl rw)), (a, .inr (0, [.ref b, .int (nI B.length)])), (b, .inl (cA 0, cap, .inl f))] := hD
          obtain rfl := hq28
          refine lv_aload_n hx hb d_Pi_mismatches_31 rfl (lv_at hl 3 rfl) ?_
          refine lv_iload hx hb d_Pi_mismatches_32 (lv_at hl 6 rfl) ?_
          refine ck_cV (C := "ReadMapper$Codes") (ci := 0) (rest := [.int (rw (sp + (o + i)))]) (wr := [(pa, .inr (4, [.ref pn, .ref ps, .ref pln, .ref pr, .int (nI num), .int (nI pl)])), (ps, .inl (cA 0, 5, .inl st)), (pr, .inl (cA 0, 65, .inl rw))]) (ws2 := fun u => [(pa, .inr (4, [.ref pn, .ref ps, .ref pln, .ref pr, .int (nI num), .int (nI pl)])), (ps, .inl (cA 0, 5, .inl st)), (pr, .inl (cA 0, 65, .inl rw)), (a, .inr (0, [.ref b, .int (nI B.length)])), (b, .inl (cA 0, cap, .inl f))]) (c_Co_at l D cA K a b cap f B (nI i) (by first | assumption | omega)) hx hb hml hown hts hK hE hA hP hD hS k_Co_at m_598 (by decide) 3 rfl rfl rfl hl.1 rfl (Nat.le_of_ble_eq_true rfl) d_Pi_mismatches_34  [3, 4] [0, 1, 2] [0, 1, 2, 3, 4] rfl rfl (by decide) (fun _ => rfl) (fun r34 u34 H locs hq34 hP hD hS => ?_)
          try dsimp only at hq34
          have hP : va_P D vwCl [(pa, .inr (4, [.ref pn, .ref ps, .ref pln, .ref pr, .int (nI num), .int (nI pl)])), (ps, .inl (cA 0, 5, .inl st)), (pr, .inl (cA 0, 65, .inl rw)), (a, .inr (0, [.ref b, .int (nI B.length)])), (b, .inl (cA 0, cap, .inl f))] H := hP
          have hD : va_D A [(pa, .inr (4, [.ref pn, .ref ps, .ref pln, .ref pr, .int (nI num), .int (nI pl)])), (ps, .inl (cA 0, 5, .inl st)), (pr, .inl (cA 0, 65, .inl rw)), (a, .inr (0, [.ref b, .int (nI B.length)])), (b, .inl (cA 0, cap, .inl f))] := hD
          obtain rfl := hq34
          refine wn_eq (y := B.getD i 0) (at_n (by omega) (by omega)) ?_
          refine ck_cSN (rest := []) (wr := [(pa, .inr (4, [.ref pn, .ref ps, .ref pln, .ref pr, .int (nI num), .int (nI pl)])), (ps, .inl (cA 0, 5, .inl st)), (pr, .inl (cA 0, 65, .inl rw)), (a, .inr (0, [.ref b, .int (nI B.length)])), (b, .inl (cA 0, cap, .inl f))]) (ws2 := fun u => [(pa, .inr (4, [.ref pn, .ref ps, .ref pln, .ref pr, .int (nI num), .int (nI pl)])), (ps, .inl (cA 0, 5, .inl st)), (pr, .inl (cA 0, 65, .inl rw)), (a, .inr (0, [.ref b, .int (nI B.length)])), (b, .inl (cA 0, cap, .inl f))]) (c_Rm_differ l D cA K (rw (sp + (o + i))) (B.getD i 0) ) hx hb hml hown hts hK hE hA hP hD hS k_Rm_differ n_722 (by decide) rfl hl.1 rfl (Nat.le_of_ble_eq_true rfl) d_Pi_mismatches_37 [] [0, 1, 2, 3, 4] [0, 1, 2, 3, 4] rfl rfl (by decide) (fun _ => rfl) (fun r37 u37 H locs hq37 hP hD hS => ?_)
          try dsimp only at hq37
          have hP : va_P D vwCl [(pa, .inr (4, [.ref pn, .ref ps, .ref pln, .ref pr, .int (nI num), .int (nI pl)])), (ps, .inl (cA 0, 5, .inl st)), (pr, .inl (cA 0, 65, .inl rw)), (a, .inr (0, [.ref b, .int (nI B.length)])), (b, .inl (cA 0, cap, .inl f))] H := hP
          have hD : va_D A [(pa, .inr (4, [.ref pn, .ref ps, .ref pln, .ref pr, .int (nI num), .int (nI pl)])), (ps, .inl (cA 0, 5, .inl st)), (pr, .inl (cA 0, 65, .inl rw)), (a, .inr (0, [.ref b, .int (nI B.length)])), (b, .inl (cA 0, cap, .inl f))] := hD
          rcases hq37 with ⟨rfl, hq37⟩ | ⟨rfl, hq37⟩
          ·
            refine lv_if_eq (tgt := 46) hx hb d_Pi_mismatches_40 (by decide) (fun h9 => absurd h9 (by decide)) (fun _ => ?_)
            refine lv_iinc (k := 5) (v := nI (n + 1)) (lv' := [(5, .int (nI (n + 1))), (0, .ref pa), (1, .int (nI pp)), (2, .int (nI o)), (3, .ref a), (4, .int (nI k)), (6, .int (nI i))]) hx hb d_Pi_mismatches_43 hl rfl (wi_inc1 _) (by decide) rfl (fun ls hl => ?_)
            refine lv_iinc (k := 6) (v := nI (i + 1)) (lv' := [(6, .int (nI (i + 1))), (5, .int (nI (n + 1))), (0, .ref pa), (1, .int (nI pp)), (2, .int (nI o)), (3, .ref a), (4, .int (nI k))]) hx hb d_Pi_mismatches_46 hl rfl (wi_inc1 _) (by decide) rfl (fun ls hl => ?_)
            refine lv_goto (tgt := 6) hx hb d_Pi_mismatches_49 (by decide) ?_
            exact ih6 _ (by omega) (i + 1) (n + 1) _ _ _ rfl (by first | assumption | omega) (by first | exact mm_1 hn (by rw [← Nat.add_assoc] at hq37; exact hq37) | exact mm_0 hn (by rw [← Nat.add_assoc] at hq37; exact hq37)) hP hD hS (lv_sub hl [2, 3, 4, 5, 6, 1, 0] rfl)
          ·
            refine lv_if_eq (tgt := 46) hx hb d_Pi_mismatches_40 (by decide) (fun _ => ?_) (fun h9 => absurd h9 (by decide))
            refine lv_iinc (k := 6) (v := nI (i + 1)) (lv' := [(6, .int (nI (i + 1))), (0, .ref pa), (1, .int (nI pp)), (2, .int (nI o)), (3, .ref a), (4, .int (nI k)), (5, .int (nI n))]) hx hb d_Pi_mismatches_46 hl rfl (wi_inc1 _) (by decide) rfl (fun ls hl => ?_)
            refine lv_goto (tgt := 6) hx hb d_Pi_mismatches_49 (by decide) ?_
            exact ih6 _ (by omega) (i + 1) n _ _ _ rfl (by first | assumption | omega) (by first | exact mm_1 hn (by rw [← Nat.add_assoc] at hq37; exact hq37) | exact mm_0 hn (by rw [← Nat.add_assoc] at hq37; exact hq37)) hP hD hS (lv_sub hl [1, 2, 3, 4, 5, 6, 0] rfl)
  exact L6 _ 0 0 _ _ _ rfl (by first | assumption | omega) rfl hP hD hS (lv_sub hl [2, 3, 4, 5, 6, 1, 0] rfl)
theorem k_Pi_mismatches : cf_V y_Pi_mismatches b_Pi_mismatches 7 (some .int) "ReadMapper$Pieces" 4 := ⟨⟨m_718, m_719, m_4, m_720⟩, by decide +kernel⟩
