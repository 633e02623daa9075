/-! reads in mathematics -/
def s5_p (x : Int32) : Prop := x = 2 ∨ x = 3 ∨ x = 4 ∨ x = 5 ∨ x = 6
/-- the complement -/
def cp_c (x : Int32) : Int32 := if x = 2 then 6 else if x = 6 then 2 else if x = 3 then 4 else if x = 4 then 3 else 5
theorem s5_n {x : Int32} (h : s5_p x) : ∃ z : Nat, 2 ≤ z ∧ z ≤ 6 ∧ x = nI z ∧ cm_f z = cp_c x := by
  rcases h with rfl | rfl | rfl | rfl | rfl
  · exact ⟨2, by decide, by decide, by decide, by decide⟩
  · exact ⟨3, by decide, by decide, by decide, by decide⟩
  · exact ⟨4, by decide, by decide, by decide, by decide⟩
  · exact ⟨5, by decide, by decide, by decide, by decide⟩
  · exact ⟨6, by decide, by decide, by decide, by decide⟩
theorem s5_sy {c : Int32} (h : sy_c c ≠ -1) : s5_p (sy_c c) := (sy_cases c).elim (fun z => absurd z h) id
/-- the complements from the last on, down to place o -/
def tb_c (F : List Int32) (o : Nat) : List Int32 := ((F.drop o).reverse).map cp_c
theorem tb_nil (F : List Int32) : tb_c F F.length = [] := by unfold tb_c; rw [List.drop_length]; rfl
theorem tb_len (F : List Int32) (o : Nat) : (tb_c F o).length = F.length - o := by
  unfold tb_c; rw [List.length_map, List.length_reverse, List.length_drop]
theorem tb_s {F : List Int32} {k : Nat} (h : k < F.length) : tb_c F (k + 1) ++ [cp_c (F.getD k 0)] = tb_c F k := by
  unfold tb_c
  rw [List.drop_eq_getElem_cons h, List.reverse_cons, List.map_append]
  simp [List.getD_eq_getElem?_getD, h]
/-- a quality -/
def ql_c (x : Int32) : Prop := ¬ x ≤ 32 ∧ ¬ x = 58
def ql_ok (L : List Int32) (b n : Nat) : Prop := L.length - b = n ∧ ∀ j, b ≤ j → j < L.length → ql_c (L.getD j 0)
theorem d_Re_length_0 : decode b_Re_length 0 = .ok (.aload_n 0, 1) := by decide +kernel
theorem d_Re_length_1 : decode b_Re_length 1 = .ok (.getfield 20, 3) := by decide +kernel
theorem d_Re_length_4 : decode b_Re_length 4 = .ok (.invokevirtual 46, 3) := by decide +kernel
theorem d_Re_length_7 : decode b_Re_length 7 = .ok (.ireturn, 1) := by decide +kernel
theorem d_Re_basesOn_0 : decode b_Re_basesOn 0 = .ok (.iload_n 1, 1) := by decide +kernel
theorem d_Re_basesOn_1 : decode b_Re_basesOn 1 = .ok (.ifCond .ne 10, 3) := by decide +kernel
theorem d_Re_basesOn_4 : decode b_Re_basesOn 4 = .ok (.aload_n 0, 1) := by decide +kernel
theorem d_Re_basesOn_5 : decode b_Re_basesOn 5 = .ok (.getfield 20, 3) := by decide +kernel
theorem d_Re_basesOn_8 : decode b_Re_basesOn 8 = .ok (.goto 7, 3) := by decide +kernel
theorem d_Re_basesOn_11 : decode b_Re_basesOn 11 = .ok (.aload_n 0, 1) := by decide +kernel
theorem d_Re_basesOn_12 : decode b_Re_basesOn 12 = .ok (.getfield 23, 3) := by decide +kernel
theorem d_Re_basesOn_15 : decode b_Re_basesOn 15 = .ok (.areturn, 1) := by decide +kernel
theorem d_Re_turnBases_0 : decode b_Re_turnBases 0 = .ok (.aload_n 0, 1) := by decide +kernel
theorem d_Re_turnBases_1 : decode b_Re_turnBases 1 = .ok (.getfield 23, 3) := by decide +kernel
theorem d_Re_turnBases_4 : decode b_Re_turnBases 4 = .ok (.invokevirtual 43, 3) := by decide +kernel
theorem d_Re_turnBases_7 : decode b_Re_turnBases 7 = .ok (.aload_n 0, 1) := by decide +kernel
theorem d_Re_turnBases_8 : decode b_Re_turnBases 8 = .ok (.getfield 20, 3) := by decide +kernel
theorem d_Re_turnBases_11 : decode b_Re_turnBases 11 = .ok (.invokevirtual 46, 3) := by decide +kernel
theorem d_Re_turnBases_14 : decode b_Re_turnBases 14 = .ok (.iconst 1, 1) := by decide +kernel
theorem d_Re_turnBases_15 : decode b_Re_turnBases 15 = .ok (.isub, 1) := by decide +kernel
theorem d_Re_turnBases_16 : decode b_Re_turnBases 16 = .ok (.istore_n 1, 1) := by decide +kernel
theorem d_Re_turnBases_17 : decode b_Re_turnBases 17 = .ok (.iload_n 1, 1) := by decide +kernel
theorem d_Re_turnBases_18 : decode b_Re_turnBases 18 = .ok (.ifCond .lt 28, 3) := by decide +kernel
theorem d_Re_turnBases_21 : decode b_Re_turnBases 21 = .ok (.aload_n 0, 1) := by decide +kernel
theorem d_Re_turnBases_22 : decode b_Re_turnBases 22 = .ok (.getfield 23, 3) := by decide +kernel
theorem d_Re_turnBases_25 : decode b_Re_turnBases 25 = .ok (.getstatic 54, 3) := by decide +kernel
theorem d_Re_turnBases_28 : decode b_Re_turnBases 28 = .ok (.aload_n 0, 1) := by decide +kernel
theorem d_Re_turnBases_29 : decode b_Re_turnBases 29 = .ok (.getfield 20, 3) := by decide +kernel
theorem d_Re_turnBases_32 : decode b_Re_turnBases 32 = .ok (.iload_n 1, 1) := by decide +kernel
theorem d_Re_turnBases_33 : decode b_Re_turnBases 33 = .ok (.invokevirtual 58, 3) := by decide +kernel
theorem d_Re_turnBases_36 : decode b_Re_turnBases 36 = .ok (.iaload, 1) := by decide +kernel
theorem d_Re_turnBases_37 : decode b_Re_turnBases 37 = .ok (.invokevirtual 62, 3) := by decide +kernel
theorem d_Re_turnBases_40 : decode b_Re_turnBases 40 = .ok (.iinc 1 (-1), 3) := by decide +kernel
theorem d_Re_turnBases_43 : decode b_Re_turnBases 43 = .ok (.goto (-26), 3) := by decide +kernel
theorem d_Re_turnBases_46 : decode b_Re_turnBases 46 = .ok (.return_, 1) := by decide +kernel
theorem d_Re_readQualities_0 : decode b_Re_readQualities 0 = .ok (.aload_n 1, 1) := by decide +kernel
theorem d_Re_readQualities_1 : decode b_Re_readQualities 1 = .ok (.invokevirtual 46, 3) := by decide +kernel
theorem d_Re_readQualities_4 : decode b_Re_readQualities 4 = .ok (.iload_n 2, 1) := by decide +kernel
theorem d_Re_readQualities_5 : decode b_Re_readQualities 5 = .ok (.isub, 1) := by decide +kernel
theorem d_Re_readQualities_6 : decode b_Re_readQualities 6 = .ok (.aload_n 0, 1) := by decide +kernel
theorem d_Re_readQualities_7 : decode b_Re_readQualities 7 = .ok (.getfield 20, 3) := by decide +kernel
theorem d_Re_readQualities_10 : decode b_Re_readQualities 10 = .ok (.invokevirtual 46, 3) := by decide +kernel
theorem d_Re_readQualities_13 : decode b_Re_readQualities 13 = .ok (.if_icmp .eq 5, 3) := by decide +kernel
theorem d_Re_readQualities_16 : decode b_Re_readQualities 16 = .ok (.iconst 0, 1) := by decide +kernel
theorem d_Re_readQualities_17 : decode b_Re_readQualities 17 = .ok (.ireturn, 1) := by decide +kernel
theorem d_Re_readQualities_18 : decode b_Re_readQualities 18 = .ok (.iload_n 2, 1) := by decide +kernel
theorem d_Re_readQualities_19 : decode b_Re_readQualities 19 = .ok (.istore_n 3, 1) := by decide +kernel
theorem d_Re_readQualities_20 : decode b_Re_readQualities 20 = .ok (.iload_n 3, 1) := by decide +kernel
theorem d_Re_readQualities_21 : decode b_Re_readQualities 21 = .ok (.aload_n 1, 1) := by decide +kernel
theorem d_Re_readQualities_22 : decode b_Re_readQualities 22 = .ok (.invokevirtual 46, 3) := by decide +kernel
theorem d_Re_readQualities_25 : decode b_Re_readQualities 25 = .ok (.if_icmp .ge 41, 3) := by decide +kernel
theorem d_Re_readQualities_28 : decode b_Re_readQualities 28 = .ok (.aload_n 1, 1) := by decide +kernel
theorem d_Re_readQualities_29 : decode b_Re_readQualities 29 = .ok (.iload_n 3, 1) := by decide +kernel
theorem d_Re_readQualities_30 : decode b_Re_readQualities 30 = .ok (.invokevirtual 58, 3) := by decide +kernel
theorem d_Re_readQualities_33 : decode b_Re_readQualities 33 = .ok (.istore 4, 2) := by decide +kernel
theorem d_Re_readQualities_35 : decode b_Re_readQualities 35 = .ok (.iload 4, 2) := by decide +kernel
theorem d_Re_readQualities_37 : decode b_Re_readQualities 37 = .ok (.bipush 32, 2) := by decide +kernel
theorem d_Re_readQualities_39 : decode b_Re_readQualities 39 = .ok (.if_icmp .le 10, 3) := by decide +kernel
theorem d_Re_readQualities_42 : decode b_Re_readQualities 42 = .ok (.iload 4, 2) := by decide +kernel
theorem d_Re_readQualities_44 : decode b_Re_readQualities 44 = .ok (.bipush 58, 2) := by decide +kernel
theorem d_Re_readQualities_46 : decode b_Re_readQualities 46 = .ok (.if_icmp .ne 5, 3) := by decide +kernel
theorem d_Re_readQualities_49 : decode b_Re_readQualities 49 = .ok (.iconst 0, 1) := by decide +kernel
theorem d_Re_readQualities_50 : decode b_Re_readQualities 50 = .ok (.ireturn, 1) := by decide +kernel
theorem d_Re_readQualities_51 : decode b_Re_readQualities 51 = .ok (.aload_n 0, 1) := by decide +kernel
theorem d_Re_readQualities_52 : decode b_Re_readQualities 52 = .ok (.getfield 26, 3) := by decide +kernel
theorem d_Re_readQualities_55 : decode b_Re_readQualities 55 = .ok (.iload 4, 2) := by decide +kernel
theorem d_Re_readQualities_57 : decode b_Re_readQualities 57 = .ok (.invokevirtual 62, 3) := by decide +kernel
theorem d_Re_readQualities_60 : decode b_Re_readQualities 60 = .ok (.iinc 3 1, 3) := by decide +kernel
theorem d_Re_readQualities_63 : decode b_Re_readQualities 63 = .ok (.goto (-43), 3) := by decide +kernel
theorem d_Re_readQualities_66 : decode b_Re_readQualities 66 = .ok (.iconst 1, 1) := by decide +kernel
theorem d_Re_readQualities_67 : decode b_Re_readQualities 67 = .ok (.ireturn, 1) := by decide +kernel
set_option maxHeartbeats 4000000 in
set_option maxRecDepth 100000 in
theorem c_Re_length (l : Launch) (D : va_G) (cA : Nat → ClassId) (K : Nat → Nat) (ra rn rnb rf rfb rb rbb rq rqb : Nat) (ff : Nat → Int32) (RF : List Int32) (hf : cd_r 20 ff RF) : ck_I l y_Re_length (Cond.code y_Re_length b_Re_length 1 (some .int) :: w_all) 2 D cA K [.ref ra] [(ra, .inr (5, [.ref rn, .ref rf, .ref rb, .ref rq])), (rf, .inr (0, [.ref rfb, .int (nI RF.length)])), (rfb, .inl (cA 0, 20, .inl ff))] (fun (r : Int32) (u : Unit) => r = nI RF.length) (fun u => [(ra, .inr (5, [.ref rn, .ref rf, .ref rb, .ref rq])), (rf, .inr (0, [.ref rfb, .int (nI RF.length)])), (rfb, .inl (cA 0, 20, .inl ff))]) := by
  refine ck_mkI (by decide) (fun _ _ _ => rfl) (Nat.le_of_ble_eq_true rfl) ?_
  intro pG eG sG mG argsG belowG methG cG Q A H locs ls hx hb hml hown hts hK hE hA hP hD hS hl hret
  have hl : lv_has ls 1 [(0, .ref ra)] := hl
  refine lv_aload_n hx hb d_Re_length_0 rfl (lv_at hl 0 rfl) ?_
  refine va_get (C := RX5) (T := TX5) (N := 4) hx hb hts inX5 hown hK hP 0 rfl rfl 1 (by decide) (hts _ m_112) (fun _ h9 => h9) rfl d_Re_length_1 ?_
  refine ck_cV (C := "ReadMapper$Codes") (ci := 0) (rest := []) (wr := [(ra, .inr (5, [.ref rn, .ref rf, .ref rb, .ref rq]))]) (ws2 := fun u => [(ra, .inr (5, [.ref rn, .ref rf, .ref rb, .ref rq])), (rf, .inr (0, [.ref rfb, .int (nI RF.length)])), (rfb, .inl (cA 0, 20, .inl ff))]) (c_Co_size l D cA K rf rfb 20 ff RF (by first | assumption | omega)) hx hb hml hown hts hK hE hA hP hD hS k_Co_size m_423 (by decide) 1 rfl rfl rfl hl.1 rfl (Nat.le_of_ble_eq_true rfl) d_Re_length_4  [1, 2] [0] [0, 1, 2] rfl rfl (by decide) (fun _ => rfl) (fun r4 u4 H locs hq4 hP hD hS => ?_)
  try dsimp only at hq4
  have hP : va_P D vwCl [(ra, .inr (5, [.ref rn, .ref rf, .ref rb, .ref rq])), (rf, .inr (0, [.ref rfb, .int (nI RF.length)])), (rfb, .inl (cA 0, 20, .inl ff))] H := hP
  have hD : va_D A [(ra, .inr (5, [.ref rn, .ref rf, .ref rb, .ref rq])), (rf, .inr (0, [.ref rfb, .int (nI RF.length)])), (rfb, .inl (cA 0, 20, .inl ff))] := hD
  obtain rfl := hq4
  exact hret (nI RF.length) () _ _ _ 7 d_Re_length_7 rfl hP hD hS
theorem k_Re_length : cf_V y_Re_length b_Re_length 1 (some .int) "ReadMapper$Read" 0 := ⟨⟨m_420, m_421, m_5, m_422⟩, by decide +kernel⟩
set_option maxHeartbeats 4000000 in
set_option maxRecDepth 100000 in
theorem c_Re_basesOn0 (l : Launch) (D : va_G) (cA : Nat → ClassId) (K : Nat → Nat) (ra rn rnb rf rfb rb rbb rq rqb : Nat) : ck_R l y_Re_basesOn (Cond.code y_Re_basesOn b_Re_basesOn 2 (some (.object "ReadMapper$Codes")) :: w_all) 1 D cA K [.ref ra, .int (nI 0)] [(ra, .inr (5, [.ref rn, .ref rf, .ref rb, .ref rq]))] (fun (r : Nat) (u : Unit) => r = rf) (fun u => [(ra, .inr (5, [.ref rn, .ref rf, .ref rb, .ref rq]))]) := by
  refine ck_mkR (by decide) (Nat.le_of_ble_eq_true rfl) ?_
  intro pG eG sG mG argsG belowG methG cG Q A H locs ls hx hb hml hown hts hK hE hA hP hD hS hl hret
  have hl : lv_has ls 2 [(0, .ref ra), (1, .int (nI 0))] := hl
  refine lv_iload_n hx hb d_Re_basesOn_0 rfl (lv_at hl 1 rfl) ?_
  refine lv_if_ne (tgt := 11) hx hb d_Re_basesOn_1 (by decide) (fun h9 => absurd h9 (by decide)) (fun _ => ?_)
  refine lv_aload_n hx hb d_Re_basesOn_4 rfl (lv_at hl 0 rfl) ?_
  refine va_get (C := RX5) (T := TX5) (N := 4) hx hb hts inX5 hown hK hP 0 rfl rfl 1 (by decide) (hts _ m_112) (fun _ h9 => h9) rfl d_Re_basesOn_5 ?_
  refine lv_goto (tgt := 15) hx hb d_Re_basesOn_8 (by decide) ?_
  exact hret rf () _ _ _ 15 d_Re_basesOn_15 rfl hP hD hS
theorem k_Re_basesOn : cf_V y_Re_basesOn b_Re_basesOn 2 (some (.object "ReadMapper$Codes")) "ReadMapper$Read" 1 := ⟨⟨m_399, m_400, m_5, m_401⟩, by decide +kernel⟩
set_option maxHeartbeats 4000000 in
set_option maxRecDepth 100000 in
theorem c_Re_basesOn1 (l : Launch) (D : va_G) (cA : Nat → ClassId) (K : Nat → Nat) (ra rn rnb rf rfb rb rbb rq rqb : Nat) : ck_R l y_Re_basesOn (Cond.code y_Re_basesOn b_Re_basesOn 2 (some (.object "ReadMapper$Codes")) :: w_all) 1 D cA K [.ref ra, .int (nI 1)] [(ra, .inr (5, [.ref rn, .ref rf, .ref rb, .ref rq]))] (fun (r : Nat) (u : Unit) => r = rb) (fun u => [(ra, .inr (5, [.ref rn, .ref rf, .ref rb, .ref rq]))]) := by
  refine ck_mkR (by decide) (Nat.le_of_ble_eq_true rfl) ?_
  intro pG eG sG mG argsG belowG methG cG Q A H locs ls hx hb hml hown hts hK hE hA hP hD hS hl hret
  have hl : lv_has ls 2 [(0, .ref ra), (1, .int (nI 1))] := hl
  refine lv_iload_n hx hb d_Re_basesOn_0 rfl (lv_at hl 1 rfl) ?_
  refine lv_if_ne (tgt := 11) hx hb d_Re_basesOn_1 (by decide) (fun _ => ?_) (fun h9 => absurd h9 (by decide))
  refine lv_aload_n hx hb d_Re_basesOn_11 rfl (lv_at hl 0 rfl) ?_
  refine va_get (C := RX5) (T := TX5) (N := 4) hx hb hts inX5 hown hK hP 0 rfl rfl 2 (by decide) (hts _ m_113) (fun _ h9 => h9) rfl d_Re_basesOn_12 ?_
  exact hret rb () _ _ _ 15 d_Re_basesOn_15 rfl hP hD hS
set_option maxHeartbeats 4000000 in
set_option maxRecDepth 100000 in
theorem c_Re_turnBases (l : Launch) (D : va_G) (cA : Nat → ClassId) (K : Nat → Nat) (ra rn rnb rf rfb rb rbb rq rqb : Nat) (ff fb : Nat → Int32) (RF RB : List Int32) (hf : cd_r 20 ff RF) (hbk : cd_r 20 fb RB) (hfs : ∀ j, j < RF.length → s5_p (RF.getD j 0)) : ck_V l y_Re_turnBases (Cond.code y_Re_turnBases b_Re_turnBases 2 none :: w_all) 2 D cA K [.ref ra] [(ra, .inr (5, [.ref rn, .ref rf, .ref rb, .ref rq])), (rf, .inr (0, [.ref rfb, .int (nI RF.length)])), (rfb, .inl (cA 0, 20, .inl ff)), (rb, .inr (0, [.ref rbb, .int (nI RB.length)])), (rbb, .inl (cA 0, 20, .inl fb))] (fun (u : Nat → Int32) => cd_r 20 u (tb_c RF 0)) (fun u => [(ra, .inr (5, [.ref rn, .ref rf, .ref rb, .ref rq])), (rf, .inr (0, [.ref rfb, .int (nI RF.length)])), (rfb, .inl (cA 0, 20, .inl ff)), (rb, .inr (0, [.ref rbb, .int (nI ((tb_c RF 0).length))])), (rbb, .inl (cA 0, 20, .inl u))]) := by
  refine ck_mkV (by decide) (Nat.le_of_ble_eq_true rfl) ?_
  intro pG eG sG mG argsG belowG methG cG Q A H locs ls hx hb hml hown hts hK hE hA hP hD hS hl hret
  have hl : lv_has ls 2 [(0, .ref ra)] := hl
  have hl1 := cd_len hf
  refine lv_aload_n hx hb d_Re_turnBases_0 rfl (lv_at hl 0 rfl) ?_
  refine va_get (C := RX5) (T := TX5) (N := 4) hx hb hts inX5 hown hK hP 0 rfl rfl 2 (by decide) (hts _ m_113) (fun _ h9 => h9) rfl d_Re_turnBases_1 ?_
  refine ck_cVv (C := "ReadMapper$Codes") (ci := 0) (rest := []) (wr := [(ra, .inr (5, [.ref rn, .ref rf, .ref rb, .ref rq])), (rf, .inr (0, [.ref rfb, .int (nI RF.length)])), (rfb, .inl (cA 0, 20, .inl ff))]) (ws2 := fun u => [(ra, .inr (5, [.ref rn, .ref rf, .ref rb, .ref rq])), (rf, .inr (0, [.ref rfb, .int (nI RF.length)])), (rfb, .inl (cA 0, 20, .inl ff)), (rb, .inr (0, [.ref rbb, .int (nI (([] : List Int32).length))])), (rbb, .inl (cA 0, 20, .inl fb))]) (c_Co_clear l D cA K rb rbb 20 fb RB (by first | assumption | omega)) hx hb hml hown hts hK hE hA hP hD hS k_Co_clear m_696 (by decide) 3 rfl rfl rfl hl.1 rfl (Nat.le_of_ble_eq_true rfl) d_Re_turnBases_4  [3, 4] [0, 1, 2] [0, 1, 2, 3, 4] rfl rfl (by decide) (fun _ => rfl) (fun u4 H locs hq4 hP hD hS => ?_)
  try dsimp only at hq4
  have hP : va_P D vwCl [(ra, .inr (5, [.ref rn, .ref rf, .ref rb, .ref rq])), (rf, .inr (0, [.ref rfb, .int (nI RF.length)])), (rfb, .inl (cA 0, 20, .inl ff)), (rb, .inr (0, [.ref rbb, .int (nI (([] : List Int32).length))])), (rbb, .inl (cA 0, 20, .inl fb))] H := hP
  have hD : va_D A [(ra, .inr (5, [.ref rn, .ref rf, .ref rb, .ref rq])), (rf, .inr (0, [.ref rfb, .int (nI RF.length)])), (rfb, .inl (cA 0, 20, .inl ff)), (rb, .inr (0, [.ref rbb, .int (nI (([] : List Int32).length))])), (rbb, .inl (cA 0, 20, .inl fb))] := hD
  have hP : va_P D vwCl [(ra, .inr (5, [.ref rn, .ref rf, .ref rb, .ref rq])), (rf, .inr (0, [.ref rfb, .int (nI RF.length)])), (rfb, .inl (cA 0, 20, .inl ff)), (rb, .inr (0, [.ref rbb, .int (nI ((tb_c RF RF.length).length))])), (rbb, .inl (cA 0, 20, .inl fb))] H := by rw [tb_nil]; exact hP
  have hD : va_D A [(ra, .inr (5, [.ref rn, .ref rf, .ref rb, .ref rq])), (rf, .inr (0, [.ref rfb, .int (nI RF.length)])), (rfb, .inl (cA 0, 20, .inl ff)), (rb, .inr (0, [.ref rbb, .int (nI ((tb_c RF RF.length).length))])), (rbb, .inl (cA 0, 20, .inl fb))] := by rw [tb_nil]; exact hD
  refine lv_aload_n hx hb d_Re_turnBases_7 rfl (lv_at hl 0 rfl) ?_
  refine va_get (C := RX5) (T := TX5) (N := 4) hx hb hts inX5 hown hK hP 0 rfl rfl 1 (by decide) (hts _ m_112) (fun _ h9 => h9) rfl d_Re_turnBases_8 ?_
  refine ck_cV (C := "ReadMapper$Codes") (ci := 0) (rest := []) (wr := [(ra, .inr (5, [.ref rn, .ref rf, .ref rb, .ref rq])), (rb, .inr (0, [.ref rbb, .int (nI ((tb_c RF RF.length).length))])), (rbb, .inl (cA 0, 20, .inl fb))]) (ws2 := fun u => [(ra, .inr (5, [.ref rn, .ref rf, .ref rb, .ref rq])), (rf, .inr (0, [.ref rfb, .int (nI RF.length)])), (rfb, .inl (cA 0, 20, .inl ff)), (rb, .inr (0, [.ref rbb, .int (nI ((tb_c RF RF.length).length))])), (rbb, .inl (cA 0, 20, .inl fb))]) (c_Co_size l D cA K rf rfb 20 ff RF (by first | assumption | omega)) hx hb hml hown hts hK hE hA hP hD hS k_Co_size m_423 (by decide) 1 rfl rfl rfl hl.1 rfl (Nat.le_of_ble_eq_true rfl) d_Re_turnBases_11  [1, 2] [0, 3, 4] [0, 3, 4, 1, 2] rfl rfl (by decide) (fun _ => rfl) (fun r11 u11 H locs hq11 hP hD hS => ?_)
  try dsimp only at hq11
  have hP : va_P D vwCl [(ra, .inr (5, [.ref rn, .ref rf, .ref rb, .ref rq])), (rf, .inr (0, [.ref rfb, .int (nI RF.length)])), (rfb, .inl (cA 0, 20, .inl ff)), (rb, .inr (0, [.ref rbb, .int (nI ((tb_c RF RF.length).length))])), (rbb, .inl (cA 0, 20, .inl fb))] H := hP
  have hD : va_D A [(ra, .inr (5, [.ref rn, .ref rf, .ref rb, .ref rq])), (rf, .inr (0, [.ref rfb, .int (nI RF.length)])), (rfb, .inl (cA 0, 20, .inl ff)), (rb, .inr (0, [.ref rbb, .int (nI ((tb_c RF RF.length).length))])), (rbb, .inl (cA 0, 20, .inl fb))] := hD
  obtain rfl := hq11
  refine lv_iconst (v := 1) hx hb d_Re_turnBases_14 (by decide) ?_
  refine lv_isub hx hb d_Re_turnBases_15 ?_
  refine lv_istore_n (lv' := [(1, .int ((nI RF.length) - 1)), (0, .ref ra)]) hx hb d_Re_turnBases_16 rfl hl (by decide) rfl (fun ls hl => ?_)
  have L17 : ∀ (nG : Nat) (o : Nat) (fb1 : Nat → Int32) (H : Heap) (locs : List Loc) (ls : Array Slot), o = nG → (o ≤ RF.length) → (cd_r 20 fb1 (tb_c RF o)) →  va_P D vwCl [(ra, .inr (5, [.ref rn, .ref rf, .ref rb, .ref rq])), (rf, .inr (0, [.ref rfb, .int (nI RF.length)])), (rfb, .inl (cA 0, 20, .inl ff)), (rb, .inr (0, [.ref rbb, .int (nI ((tb_c RF o).length))])), (rbb, .inl (cA 0, 20, .inl fb1))] H → va_D A [(ra, .inr (5, [.ref rn, .ref rf, .ref rb, .ref rq])), (rf, .inr (0, [.ref rfb, .int (nI RF.length)])), (rfb, .inl (cA 0, 20, .inl ff)), (rb, .inr (0, [.ref rbb, .int (nI ((tb_c RF o).length))])), (rbb, .inl (cA 0, 20, .inl fb1))] → va_S A sG.heap H locs → lv_has ls 2 [(0, .ref ra), (1, .int (nI o - 1))] → W pG l eG (rm_d 2) sG mG argsG belowG methG cG H locs 0 0 Q (F0 mG 17 ls []) := by
    intro nG
    induction nG using Nat.strongRecOn with
    | ind nG ih17 =>
      intro o fb1 H locs ls hn17 ho hg hP hD hS hl
      have htl := tb_len RF o
      refine lv_iload_n hx hb d_Re_turnBases_17 rfl (lv_at hl 1 rfl) ?_
      refine lv_if_lt (tgt := 46) hx hb d_Re_turnBases_18 (by decide) ?_ ?_
      · intro h18
        have ho0 := in_zero (n := RF.length) (by omega) ho h18
        subst ho0
        exact hret fb1 _ _ _ 46 d_Re_turnBases_46 hg hP hD hS
      · intro h18
        obtain ⟨k, rfl⟩ : ∃ k, o = k + 1 := by
          cases o with
          | zero => exact absurd (by decide) h18
          | succ k => exact ⟨k, rfl⟩
        have hl : lv_has ls 2 [(0, .ref ra), (1, .int (nI k))] := by rw [nI_pred] at hl; exact hl
        obtain ⟨z, hz1, hz2, hze, hzc⟩ := s5_n (hfs k (by omega))
        refine lv_aload_n hx hb d_Re_turnBases_21 rfl (lv_at hl 0 rfl) ?_
        refine va_get (C := RX5) (T := TX5) (N := 4) hx hb hts inX5 hown hK hP 0 rfl rfl 2 (by decide) (hts _ m_113) (fun _ h9 => h9) rfl d_Re_turnBases_22 ?_
        refine va_getsN hx hb hE.2.2.2.2.1 hS hown (va_Nw.use rfl (hE.1 _ n_697)) (fun _ h9 => h9) d_Re_turnBases_25 ?_
        refine lv_aload_n hx hb d_Re_turnBases_28 rfl (lv_at hl 0 rfl) ?_
        refine va_get (C := RX5) (T := TX5) (N := 4) hx hb hts inX5 hown hK hP 0 rfl rfl 1 (by decide) (hts _ m_112) (fun _ h9 => h9) rfl d_Re_turnBases_29 ?_
        refine lv_iload_n hx hb d_Re_turnBases_32 rfl (lv_at hl 1 rfl) ?_
        refine ck_cV (C := "ReadMapper$Codes") (ci := 0) (rest := [.ref (K 1), .ref rb]) (wr := [(ra, .inr (5, [.ref rn, .ref rf, .ref rb, .ref rq])), (rb, .inr (0, [.ref rbb, .int (nI ((tb_c RF (k + 1)).length))])), (rbb, .inl (cA 0, 20, .inl fb1))]) (ws2 := fun u => [(ra, .inr (5, [.ref rn, .ref rf, .ref rb, .ref rq])), (rf, .inr (0, [.ref rfb, .int (nI RF.length)])), (rfb, .inl (cA 0, 20, .inl ff)), (rb, .inr (0, [.ref rbb, .int (nI ((tb_c RF (k + 1)).length))])), (rbb, .inl (cA 0, 20, .inl fb1))]) (c_Co_at l D cA K rf rfb 20 ff RF (nI k) (by first | assumption | omega)) hx hb hml hown hts hK hE hA hP hD hS k_Co_at m_699 (by decide) 1 rfl rfl rfl hl.1 rfl (Nat.le_of_ble_eq_true rfl) d_Re_turnBases_33  [1, 2] [0, 3, 4] [0, 3, 4, 1, 2] rfl rfl (by decide) (fun _ => rfl) (fun r33 u33 H locs hq33 hP hD hS => ?_)
        try dsimp only at hq33
        have hP : va_P D vwCl [(ra, .inr (5, [.ref rn, .ref rf, .ref rb, .ref rq])), (rf, .inr (0, [.ref rfb, .int (nI RF.length)])), (rfb, .inl (cA 0, 20, .inl ff)), (rb, .inr (0, [.ref rbb, .int (nI ((tb_c RF (k + 1)).length))])), (rbb, .inl (cA 0, 20, .inl fb1))] H := hP
        have hD : va_D A [(ra, .inr (5, [.ref rn, .ref rf, .ref rb, .ref rq])), (rf, .inr (0, [.ref rfb, .int (nI RF.length)])), (rfb, .inl (cA 0, 20, .inl ff)), (rb, .inr (0, [.ref rbb, .int (nI ((tb_c RF (k + 1)).length))])), (rbb, .inl (cA 0, 20, .inl fb1))] := hD
        obtain rfl := hq33
        refine wn_eq (y := nI z) ((at_n (by omega) (by omega)).trans hze) ?_
        refine va_ti (v := .int (cm_f z)) hx hb hE.2.2.2.2.2.1 hS (vp_in_nI (by omega) (by decide)) (by rw [nI_clamp (by omega)]) d_Re_turnBases_36 ?_
        refine ck_cVv (C := "ReadMapper$Codes") (ci := 0) (rest := []) (wr := [(ra, .inr (5, [.ref rn, .ref rf, .ref rb, .ref rq])), (rf, .inr (0, [.ref rfb, .int (nI RF.length)])), (rfb, .inl (cA 0, 20, .inl ff))]) (ws2 := fun u => [(ra, .inr (5, [.ref rn, .ref rf, .ref rb, .ref rq])), (rf, .inr (0, [.ref rfb, .int (nI RF.length)])), (rfb, .inl (cA 0, 20, .inl ff)), (rb, .inr (0, [.ref rbb, .int (nI (((tb_c RF (k + 1)) ++ [(cm_f z)]).length))])), (rbb, .inl (cA 0, 20, .inl u))]) (c_Co_append l D cA K rb rbb 20 fb1 (tb_c RF (k + 1)) (cm_f z) (by first | assumption | omega) (by omega)) hx hb hml hown hts hK hE hA hP hD hS k_Co_append m_700 (by decide) 3 rfl rfl rfl hl.1 rfl (Nat.le_of_ble_eq_true rfl) d_Re_turnBases_37  [3, 4] [0, 1, 2] [0, 1, 2, 3, 4] rfl rfl (by decide) (fun _ => rfl) (fun u37 H locs hq37 hP hD hS => ?_)
        obtain ⟨f2_37, rfl⟩ : ∃ z, z = u37 := ⟨_, rfl⟩
        try dsimp only at hq37
        have hP : va_P D vwCl [(ra, .inr (5, [.ref rn, .ref rf, .ref rb, .ref rq])), (rf, .inr (0, [.ref rfb, .int (nI RF.length)])), (rfb, .inl (cA 0, 20, .inl ff)), (rb, .inr (0, [.ref rbb, .int (nI (((tb_c RF (k + 1)) ++ [(cm_f z)]).length))])), (rbb, .inl (cA 0, 20, .inl f2_37))] H := hP
        have hD : va_D A [(ra, .inr (5, [.ref rn, .ref rf, .ref rb, .ref rq])), (rf, .inr (0, [.ref rfb, .int (nI RF.length)])), (rfb, .inl (cA 0, 20, .inl ff)), (rb, .inr (0, [.ref rbb, .int (nI (((tb_c RF (k + 1)) ++ [(cm_f z)]).length))])), (rbb, .inl (cA 0, 20, .inl f2_37))] := hD
        rw [hzc, tb_s (by omega)] at hq37
        have hP : va_P D vwCl [(ra, .inr (5, [.ref rn, .ref rf, .ref rb, .ref rq])), (rf, .inr (0, [.ref rfb, .int (nI RF.length)])), (rfb, .inl (cA 0, 20, .inl ff)), (rb, .inr (0, [.ref rbb, .int (nI ((tb_c RF k).length))])), (rbb, .inl (cA 0, 20, .inl f2_37))] H := by rw [hzc, tb_s (by omega)] at hP; exact hP
        have hD : va_D A [(ra, .inr (5, [.ref rn, .ref rf, .ref rb, .ref rq])), (rf, .inr (0, [.ref rfb, .int (nI RF.length)])), (rfb, .inl (cA 0, 20, .inl ff)), (rb, .inr (0, [.ref rbb, .int (nI ((tb_c RF k).length))])), (rbb, .inl (cA 0, 20, .inl f2_37))] := by rw [hzc, tb_s (by omega)] at hD; exact hD
        refine lv_iinc (k := 1) (v := nI k - 1) (lv' := [(1, .int (nI k - 1)), (0, .ref ra)]) hx hb d_Re_turnBases_40 hl rfl (wi_m1 _) (by decide) rfl (fun ls hl => ?_)
        refine lv_goto (tgt := 17) hx hb d_Re_turnBases_43 (by decide) ?_
        exact ih17 _ (by omega) k f2_37 _ _ _ rfl (by first | assumption | omega) hq37 hP hD hS (lv_sub hl [1, 0] rfl)
  exact L17 _ RF.length fb _ _ _ rfl (by first | assumption | omega) (by rw [tb_nil]; exact hq4) hP hD hS (lv_sub hl [1, 0] rfl)
theorem k_Re_turnBases : cf_V y_Re_turnBases b_Re_turnBases 2 none "ReadMapper$Read" 0 := ⟨⟨m_694, (wm_s (q := (y_Re_turnBases, 4)) (by decide +kernel)), m_5, m_695⟩, by decide +kernel⟩
set_option maxHeartbeats 4000000 in
set_option maxRecDepth 100000 in
theorem c_Re_readQualities (l : Launch) (D : va_G) (cA : Nat → ClassId) (K : Nat → Nat) (ra rn rnb rf rfb rb rbb rq rqb : Nat) (ff fq : Nat → Int32) (RF : List Int32) (a b cap : Nat) (f : Nat → Int32) (L : List Int32) (bg : Nat) (hf : cd_r 20 ff RF) (hq : cd_r 20 fq []) (hc : cd_r cap f L) (hbg : bg ≤ L.length) : ck_I l y_Re_readQualities (Cond.code y_Re_readQualities b_Re_readQualities 5 (some .boolean) :: w_all) 2 D cA K [.ref ra, .ref a, .int (nI bg)] [(ra, .inr (5, [.ref rn, .ref rf, .ref rb, .ref rq])), (rf, .inr (0, [.ref rfb, .int (nI RF.length)])), (rfb, .inl (cA 0, 20, .inl ff)), (rq, .inr (0, [.ref rqb, .int (nI (([] : List Int32).length))])), (rqb, .inl (cA 0, 20, .inl fq)), (a, .inr (0, [.ref b, .int (nI L.length)])), (b, .inl (cA 0, cap, .inl f))] (fun (r : Int32) (u : (Nat → Int32) × (List Int32)) => (r = 1 ∧ cd_r 20 u.1 u.2 ∧ ql_ok L bg RF.length ∧ u.2 = sl_p L bg L.length) ∨ (r = 0 ∧ cd_r 20 u.1 u.2 ∧ ¬ ql_ok L bg RF.length)) (fun u => [(ra, .inr (5, [.ref rn, .ref rf, .ref rb, .ref rq])), (rf, .inr (0, [.ref rfb, .int (nI RF.length)])), (rfb, .inl (cA 0, 20, .inl ff)), (rq, .inr (0, [.ref rqb, .int (nI u.2.length)])), (rqb, .inl (cA 0, 20, .inl u.1)), (a, .inr (0, [.ref b, .int (nI L.length)])), (b, .inl (cA 0, cap, .inl f))]) := by
  refine ck_mkI (by decide) (fun r u h => by rcases h with ⟨rfl, _⟩ | ⟨rfl, _⟩ <;> rfl) (Nat.le_of_ble_eq_true rfl) ?_
  intro pG eG sG mG argsG belowG methG cG Q A H locs ls hx hb hml hown hts hK hE hA hP hD hS hl hret
  have hl : lv_has ls 5 [(0, .ref ra), (1, .ref a), (2, .int (nI bg))] := hl
  have hl1 := cd_len hc
  have hl2 := cd_len hf
  refine lv_aload_n hx hb d_Re_readQualities_0 rfl (lv_at hl 1 rfl) ?_
  refine ck_cV (C := "ReadMapper$Codes") (ci := 0) (rest := []) (wr := [(ra, .inr (5, [.ref rn, .ref rf, .ref rb, .ref rq])), (rf, .inr (0, [.ref rfb, .int (nI RF.length)])), (rfb, .inl (cA 0, 20, .inl ff)), (rq, .inr (0, [.ref rqb, .int (nI (([] : List Int32).length))])), (rqb, .inl (cA 0, 20, .inl fq))]) (ws2 := fun u => [(ra, .inr (5, [.ref rn, .ref rf, .ref rb, .ref rq])), (rf, .inr (0, [.ref rfb, .int (nI RF.length)])), (rfb, .inl (cA 0, 20, .inl ff)), (rq, .inr (0, [.ref rqb, .int (nI (([] : List Int32).length))])), (rqb, .inl (cA 0, 20, .inl fq)), (a, .inr (0, [.ref b, .int (nI L.length)])), (b, .inl (cA 0, cap, .inl f))]) (c_Co_size l D cA K a b cap f L (by first | assumption | omega)) hx hb hml hown hts hK hE hA hP hD hS k_Co_size m_423 (by decide) 5 rfl rfl rfl hl.1 rfl (Nat.le_of_ble_eq_true rfl) d_Re_readQualities_1  [5, 6] [0, 1, 2, 3, 4] [0, 1, 2, 3, 4, 5, 6] rfl rfl (by decide) (fun _ => rfl) (fun r1 u1 H locs hq1 hP hD hS => ?_)
  try dsimp only at hq1
  have hP : va_P D vwCl [(ra, .inr (5, [.ref rn, .ref rf, .ref rb, .ref rq])), (rf, .inr (0, [.ref rfb, .int (nI RF.length)])), (rfb, .inl (cA 0, 20, .inl ff)), (rq, .inr (0, [.ref rqb, .int (nI (([] : List Int32).length))])), (rqb, .inl (cA 0, 20, .inl fq)), (a, .inr (0, [.ref b, .int (nI L.length)])), (b, .inl (cA 0, cap, .inl f))] H := hP
  have hD : va_D A [(ra, .inr (5, [.ref rn, .ref rf, .ref rb, .ref rq])), (rf, .inr (0, [.ref rfb, .int (nI RF.length)])), (rfb, .inl (cA 0, 20, .inl ff)), (rq, .inr (0, [.ref rqb, .int (nI (([] : List Int32).length))])), (rqb, .inl (cA 0, 20, .inl fq)), (a, .inr (0, [.ref b, .int (nI L.length)])), (b, .inl (cA 0, cap, .inl f))] := hD
  obtain rfl := hq1
  refine lv_iload_n hx hb d_Re_readQualities_4 rfl (lv_at hl 2 rfl) ?_
  refine wn_isub (by omega) hx hb d_Re_readQualities_5 ?_
  refine lv_aload_n hx hb d_Re_readQualities_6 rfl (lv_at hl 0 rfl) ?_
  refine va_get (C := RX5) (T := TX5) (N := 4) hx hb hts inX5 hown hK hP 0 rfl rfl 1 (by decide) (hts _ m_112) (fun _ h9 => h9) rfl d_Re_readQualities_7 ?_
  refine ck_cV (C := "ReadMapper$Codes") (ci := 0) (rest := [.int (nI (L.length - bg))]) (wr := [(ra, .inr (5, [.ref rn, .ref rf, .ref rb, .ref rq])), (rq, .inr (0, [.ref rqb, .int (nI (([] : List Int32).length))])), (rqb, .inl (cA 0, 20, .inl fq)), (a, .inr (0, [.ref b, .int (nI L.length)])), (b, .inl (cA 0, cap, .inl f))]) (ws2 := fun u => [(ra, .inr (5, [.ref rn, .ref rf, .ref rb, .ref rq])), (rf, .inr (0, [.ref rfb, .int (nI RF.length)])), (rfb, .inl (cA 0, 20, .inl ff)), (rq, .inr (0, [.ref rqb, .int (nI (([] : List Int32).length))])), (rqb, .inl (cA 0, 20, .inl fq)), (a, .inr (0, [.ref b, .int (nI L.length)])), (b, .inl (cA 0, cap, .inl f))]) (c_Co_size l D cA K rf rfb 20 ff RF (by first | assumption | omega)) hx hb hml hown hts hK hE hA hP hD hS k_Co_size m_423 (by decide) 1 rfl rfl rfl hl.1 rfl (Nat.le_of_ble_eq_true rfl) d_Re_readQualities_10  [1, 2] [0, 3, 4, 5, 6] [0, 5, 6, 1, 2, 3, 4] rfl rfl (by decide) (fun _ => rfl) (fun r10 u10 H locs hq10 hP hD hS => ?_)
  try dsimp only at hq10
  have hP : va_P D vwCl [(ra, .inr (5, [.ref rn, .ref rf, .ref rb, .ref rq])), (rf, .inr (0, [.ref rfb, .int (nI RF.length)])), (rfb, .inl (cA 0, 20, .inl ff)), (rq, .inr (0, [.ref rqb, .int (nI (([] : List Int32).length))])), (rqb, .inl (cA 0, 20, .inl fq)), (a, .inr (0, [.ref b, .int (nI L.length)])), (b, .inl (cA 0, cap, .inl f))] H := hP
  have hD : va_D A [(ra, .inr (5, [.ref rn, .ref rf, .ref rb, .ref rq])), (rf, .inr (0, [.ref rfb, .int (nI RF.length)])), (rfb, .inl (cA 0, 20, .inl ff)), (rq, .inr (0, [.ref rqb, .int (nI (([] : List Int32).length))])), (rqb, .inl (cA 0, 20, .inl fq)), (a, .inr (0, [.ref b, .int (nI L.length)])), (b, .inl (cA 0, cap, .inl f))] := hD
  obtain rfl := hq10
  refine wn_icmp_eq (by omega) (by omega) (tgt := 18) hx hb d_Re_readQualities_13 (by decide) ?_ ?_
  · intro h13
    have hP : va_P D vwCl [(ra, .inr (5, [.ref rn, .ref rf, .ref rb, .ref rq])), (rf, .inr (0, [.ref rfb, .int (nI RF.length)])), (rfb, .inl (cA 0, 20, .inl ff)), (rq, .inr (0, [.ref rqb, .int (nI ((sl_p L bg bg).length))])), (rqb, .inl (cA 0, 20, .inl fq)), (a, .inr (0, [.ref b, .int (nI L.length)])), (b, .inl (cA 0, cap, .inl f))] H := by rw [sl_self]; exact hP
    have hD : va_D A [(ra, .inr (5, [.ref rn, .ref rf, .ref rb, .ref rq])), (rf, .inr (0, [.ref rfb, .int (nI RF.length)])), (rfb, .inl (cA 0, 20, .inl ff)), (rq, .inr (0, [.ref rqb, .int (nI ((sl_p L bg bg).length))])), (rqb, .inl (cA 0, 20, .inl fq)), (a, .inr (0, [.ref b, .int (nI L.length)])), (b, .inl (cA 0, cap, .inl f))] := by rw [sl_self]; exact hD
    refine lv_iload_n hx hb d_Re_readQualities_18 rfl (lv_at hl 2 rfl) ?_
    refine lv_istore_n (lv' := [(3, .int (nI bg)), (0, .ref ra), (1, .ref a), (2, .int (nI bg))]) hx hb d_Re_readQualities_19 rfl hl (by decide) rfl (fun ls hl => ?_)
    have L20 : ∀ (nG : Nat) (i : Nat) (fq1 : Nat → Int32) (H : Heap) (locs : List Loc) (ls : Array Slot), L.length - i = nG → (bg ≤ i) → (i ≤ L.length) → (cd_r 20 fq1 (sl_p L bg i)) → (∀ j, bg ≤ j → j < i → ql_c (L.getD j 0)) →  va_P D vwCl [(ra, .inr (5, [.ref rn, .ref rf, .ref rb, .ref rq])), (rf, .inr (0, [.ref rfb, .int (nI RF.length)])), (rfb, .inl (cA 0, 20, .inl ff)), (rq, .inr (0, [.ref rqb, .int (nI ((sl_p L bg i).length))])), (rqb, .inl (cA 0, 20, .inl fq1)), (a, .inr (0, [.ref b, .int (nI L.length)])), (b, .inl (cA 0, cap, .inl f))] H → va_D A [(ra, .inr (5, [.ref rn, .ref rf, .ref rb, .ref rq])), (rf, .inr (0, [.ref rfb, .int (nI RF.length)])), (rfb, .inl (cA 0, 20, .inl ff)), (rq, .inr (0, [.ref rqb, .int (nI ((sl_p L bg i).length))])), (rqb, .inl (cA 0, 20, .inl fq1)), (a, .inr (0, [.ref b, .int (nI L.length)])), (b, .inl (cA 0, cap, .inl f))] → va_S A sG.heap H locs → lv_has ls 5 [(0, .ref ra), (1, .ref a), (3, .int (nI i))] → W pG l eG (rm_d 2) sG mG argsG belowG methG cG H locs 0 0 Q (F0 mG 20 ls []) := by
      intro nG
      induction nG using Nat.strongRecOn with
      | ind nG ih20 =>
        intro i fq1 H locs ls hn20 hbi hil hg hs hP hD hS hl
        have hsl := sl_len (b := bg) hil
        refine lv_iload_n hx hb d_Re_readQualities_20 rfl (lv_at hl 2 rfl) ?_
        refine lv_aload_n hx hb d_Re_readQualities_21 rfl (lv_at hl 1 rfl) ?_
        refine ck_cV (C := "ReadMapper$Codes") (ci := 0) (rest := [.int (nI i)]) (wr := [(ra, .inr (5, [.ref rn, .ref rf, .ref rb, .ref rq])), (rf, .inr (0, [.ref rfb, .int (nI RF.length)])), (rfb, .inl (cA 0, 20, .inl ff)), (rq, .inr (0, [.ref rqb, .int (nI ((sl_p L bg i).length))])), (rqb, .inl (cA 0, 20, .inl fq1))]) (ws2 := fun u => [(ra, .inr (5, [.ref rn, .ref rf, .ref rb, .ref rq])), (rf, .inr (0, [.ref rfb, .int (nI RF.length)])), (rfb, .inl (cA 0, 20, .inl ff)), (rq, .inr (0, [.ref rqb, .int (nI ((sl_p L bg i).length))])), (rqb, .inl (cA 0, 20, .inl fq1)), (a, .inr (0, [.ref b, .int (nI L.length)])), (b, .inl (cA 0, cap, .inl f))]) (c_Co_size l D cA K a b cap f L (by first | assumption | omega)) hx hb hml hown hts hK hE hA hP hD hS k_Co_size m_423 (by decide) 5 rfl rfl rfl hl.1 rfl (Nat.le_of_ble_eq_true rfl) d_Re_readQualities_22  [5, 6] [0, 1, 2, 3, 4] [0, 1, 2, 3, 4, 5, 6] rfl rfl (by decide) (fun _ => rfl) (fun r22 u22 H locs hq22 hP hD hS => ?_)
        try dsimp only at hq22
        have hP : va_P D vwCl [(ra, .inr (5, [.ref rn, .ref rf, .ref rb, .ref rq])), (rf, .inr (0, [.ref rfb, .int (nI RF.length)])), (rfb, .inl (cA 0, 20, .inl ff)), (rq, .inr (0, [.ref rqb, .int (nI ((sl_p L bg i).length))])), (rqb, .inl (cA 0, 20, .inl fq1)), (a, .inr (0, [.ref b, .int (nI L.length)])), (b, .inl (cA 0, cap, .inl f))] H := hP
        have hD : va_D A [(ra, .inr (5, [.ref rn, .ref rf, .ref rb, .ref rq])), (rf, .inr (0, [.ref rfb, .int (nI RF.length)])), (rfb, .inl (cA 0, 20, .inl ff)), (rq, .inr (0, [.ref rqb, .int (nI ((sl_p L bg i).length))])), (rqb, .inl (cA 0, 20, .inl fq1)), (a, .inr (0, [.ref b, .int (nI L.length)])), (b, .inl (cA 0, cap, .inl f))] := hD
        obtain rfl := hq22
        refine wn_icmp_ge (by omega) (by omega) (tgt := 66) hx hb d_Re_readQualities_25 (by decide) ?_ ?_
        · intro h25
          refine lv_iconst (v := 1) hx hb d_Re_readQualities_66 (by decide) ?_
          exact hret 1 (fq1, sl_p L bg i) _ _ _ 67 d_Re_readQualities_67 (Or.inl ⟨rfl, hg, ⟨h13, fun j h1 h2 => hs j h1 (by omega)⟩, by rw [show i = L.length by omega]⟩) hP hD hS
        · intro h25
          refine lv_aload_n hx hb d_Re_readQualities_28 rfl (lv_at hl 1 rfl) ?_
          refine lv_iload_n hx hb d_Re_readQualities_29 rfl (lv_at hl 2 rfl) ?_
          refine ck_cV (C := "ReadMapper$Codes") (ci := 0) (rest := []) (wr := [(ra, .inr (5, [.ref rn, .ref rf, .ref rb, .ref rq])), (rf, .inr (0, [.ref rfb, .int (nI RF.length)])), (rfb, .inl (cA 0, 20, .inl ff)), (rq, .inr (0, [.ref rqb, .int (nI ((sl_p L bg i).length))])), (rqb, .inl (cA 0, 20, .inl fq1))]) (ws2 := fun u => [(ra, .inr (5, [.ref rn, .ref rf, .ref rb, .ref rq])), (rf, .inr (0, [.ref rfb, .int (nI RF.length)])), (rfb, .inl (cA 0, 20, .inl ff)), (rq, .inr (0, [.ref rqb, .int (nI ((sl_p L bg i).length))])), (rqb, .inl (cA 0, 20, .inl fq1)), (a, .inr (0, [.ref b, .int (nI L.length)])), (b, .inl (cA 0, cap, .inl f))]) (c_Co_at l D cA K a b cap f L (nI i) (by first | assumption | omega)) hx hb hml hown hts hK hE hA hP hD hS k_Co_at m_699 (by decide) 5 rfl rfl rfl hl.1 rfl (Nat.le_of_ble_eq_true rfl) d_Re_readQualities_30  [5, 6] [0, 1, 2, 3, 4] [0, 1, 2, 3, 4, 5, 6] rfl rfl (by decide) (fun _ => rfl) (fun r30 u30 H locs hq30 hP hD hS => ?_)
          try dsimp only at hq30
          have hP : va_P D vwCl [(ra, .inr (5, [.ref rn, .ref rf, .ref rb, .ref rq])), (rf, .inr (0, [.ref rfb, .int (nI RF.length)])), (rfb, .inl (cA 0, 20, .inl ff)), (rq, .inr (0, [.ref rqb, .int (nI ((sl_p L bg i).length))])), (rqb, .inl (cA 0, 20, .inl fq1)), (a, .inr (0, [.ref b, .int (nI L.length)])), (b, .inl (cA 0, cap, .inl f))] H := hP
          have hD : va_D A [(ra, .inr (5, [.ref rn, .ref rf, .ref rb, .ref rq])), (rf, .inr (0, [.ref rfb, .int (nI RF.length)])), (rfb, .inl (cA 0, 20, .inl ff)), (rq, .inr (0, [.ref rqb, .int (nI ((sl_p L bg i).length))])), (rqb, .inl (cA 0, 20, .inl fq1)), (a, .inr (0, [.ref b, .int (nI L.length)])), (b, .inl (cA 0, cap, .inl f))] := hD
          obtain rfl := hq30
          refine lv_istore (lv' := [(4, .int (at_c L (nI i))), (0, .ref ra), (1, .ref a), (3, .int (nI i))]) hx hb d_Re_readQualities_33 hl (by decide) rfl (fun ls hl => ?_)
          refine lv_iload hx hb d_Re_readQualities_35 (lv_at hl 0 rfl) ?_
          refine lv_bipush (v := 32) hx hb d_Re_readQualities_37 (by decide) ?_
          refine lv_icmp_le (tgt := 49) hx hb d_Re_readQualities_39 (by decide) ?_ ?_
          · intro h39
            refine lv_iconst (v := 0) hx hb d_Re_readQualities_49 (by decide) ?_
            exact hret 0 (fq1, sl_p L bg i) _ _ _ 50 d_Re_readQualities_50 (Or.inr ⟨rfl, hg, fun z => by have z1 := z.2 i hbi h25; rw [at_n h25 (by omega)] at *; first | exact z1.1 h39 | exact z1.2 h46⟩) hP hD hS
          · intro h39
            refine lv_iload hx hb d_Re_readQualities_42 (lv_at hl 0 rfl) ?_
            refine lv_bipush (v := 58) hx hb d_Re_readQualities_44 (by decide) ?_
            refine lv_icmp_ne (tgt := 51) hx hb d_Re_readQualities_46 (by decide) ?_ ?_
            · intro h46
              refine lv_aload_n hx hb d_Re_readQualities_51 rfl (lv_at hl 1 rfl) ?_
              refine va_get (C := RX5) (T := TX5) (N := 4) hx hb hts inX5 hown hK hP 0 rfl rfl 3 (by decide) (hts _ m_114) (fun _ h9 => h9) rfl d_Re_readQualities_52 ?_
              refine lv_iload hx hb d_Re_readQualities_55 (lv_at hl 0 rfl) ?_
              refine ck_cVv (C := "ReadMapper$Codes") (ci := 0) (rest := []) (wr := [(ra, .inr (5, [.ref rn, .ref rf, .ref rb, .ref rq])), (rf, .inr (0, [.ref rfb, .int (nI RF.length)])), (rfb, .inl (cA 0, 20, .inl ff)), (a, .inr (0, [.ref b, .int (nI L.length)])), (b, .inl (cA 0, cap, .inl f))]) (ws2 := fun u => [(ra, .inr (5, [.ref rn, .ref rf, .ref rb, .ref rq])), (rf, .inr (0, [.ref rfb, .int (nI RF.length)])), (rfb, .inl (cA 0, 20, .inl ff)), (rq, .inr (0, [.ref rqb, .int (nI (((sl_p L bg i) ++ [(at_c L (nI i))]).length))])), (rqb, .inl (cA 0, 20, .inl u)), (a, .inr (0, [.ref b, .int (nI L.length)])), (b, .inl (cA 0, cap, .inl f))]) (c_Co_append l D cA K rq rqb 20 fq1 (sl_p L bg i) (at_c L (nI i)) (by first | assumption | omega) (by omega)) hx hb hml hown hts hK hE hA hP hD hS k_Co_append m_700 (by decide) 3 rfl rfl rfl hl.1 rfl (Nat.le_of_ble_eq_true rfl) d_Re_readQualities_57  [3, 4] [0, 1, 2, 5, 6] [0, 1, 2, 5, 6, 3, 4] rfl rfl (by decide) (fun _ => rfl) (fun u57 H locs hq57 hP hD hS => ?_)
              obtain ⟨f2_57, rfl⟩ : ∃ z, z = u57 := ⟨_, rfl⟩
              try dsimp only at hq57
              have hP : va_P D vwCl [(ra, .inr (5, [.ref rn, .ref rf, .ref rb, .ref rq])), (rf, .inr (0, [.ref rfb, .int (nI RF.length)])), (rfb, .inl (cA 0, 20, .inl ff)), (rq, .inr (0, [.ref rqb, .int (nI (((sl_p L bg i) ++ [(at_c L (nI i))]).length))])), (rqb, .inl (cA 0, 20, .inl f2_57)), (a, .inr (0, [.ref b, .int (nI L.length)])), (b, .inl (cA 0, cap, .inl f))] H := hP
              have hD : va_D A [(ra, .inr (5, [.ref rn, .ref rf, .ref rb, .ref rq])), (rf, .inr (0, [.ref rfb, .int (nI RF.length)])), (rfb, .inl (cA 0, 20, .inl ff)), (rq, .inr (0, [.ref rqb, .int (nI (((sl_p L bg i) ++ [(at_c L (nI i))]).length))])), (rqb, .inl (cA 0, 20, .inl f2_57)), (a, .inr (0, [.ref b, .int (nI L.length)])), (b, .inl (cA 0, cap, .inl f))] := hD
              rw [at_n h25 (by omega), sl_snoc hbi h25] at hq57
              have hP : va_P D vwCl [(ra, .inr (5, [.ref rn, .ref rf, .ref rb, .ref rq])), (rf, .inr (0, [.ref rfb, .int (nI RF.length)])), (rfb, .inl (cA 0, 20, .inl ff)), (rq, .inr (0, [.ref rqb, .int (nI ((sl_p L bg (i + 1)).length))])), (rqb, .inl (cA 0, 20, .inl f2_57)), (a, .inr (0, [.ref b, .int (nI L.length)])), (b, .inl (cA 0, cap, .inl f))] H := by rw [at_n h25 (by omega), sl_snoc hbi h25] at hP; exact hP
              have hD : va_D A [(ra, .inr (5, [.ref rn, .ref rf, .ref rb, .ref rq])), (rf, .inr (0, [.ref rfb, .int (nI RF.length)])), (rfb, .inl (cA 0, 20, .inl ff)), (rq, .inr (0, [.ref rqb, .int (nI ((sl_p L bg (i + 1)).length))])), (rqb, .inl (cA 0, 20, .inl f2_57)), (a, .inr (0, [.ref b, .int (nI L.length)])), (b, .inl (cA 0, cap, .inl f))] := by rw [at_n h25 (by omega), sl_snoc hbi h25] at hD; exact hD
              refine lv_iinc (k := 3) (v := nI (i + 1)) (lv' := [(3, .int (nI (i + 1))), (4, .int (at_c L (nI i))), (0, .ref ra), (1, .ref a)]) hx hb d_Re_readQualities_60 hl rfl (wi_inc1 _) (by decide) rfl (fun ls hl => ?_)
              refine lv_goto (tgt := 20) hx hb d_Re_readQualities_63 (by decide) ?_
              exact ih20 _ (by omega) (i + 1) f2_57 _ _ _ rfl (by first | assumption | omega) (by first | assumption | omega) hq57 (fun j h1 h2 => if e : j = i then by subst e; rw [at_n h25 (by omega)] at h39 h46; exact ⟨h39, h46⟩ else hs j h1 (by omega)) hP hD hS (lv_sub hl [2, 3, 0] rfl)
            · intro h46
              refine lv_iconst (v := 0) hx hb d_Re_readQualities_49 (by decide) ?_
              exact hret 0 (fq1, sl_p L bg i) _ _ _ 50 d_Re_readQualities_50 (Or.inr ⟨rfl, hg, fun z => by have z1 := z.2 i hbi h25; rw [at_n h25 (by omega)] at *; first | exact z1.1 h39 | exact z1.2 h46⟩) hP hD hS
    exact L20 _ bg fq _ _ _ rfl (by first | assumption | omega) (by first | assumption | omega) (by rw [sl_self]; exact hq) (fun j h1 h2 => by omega) hP hD hS (lv_sub hl [1, 2, 0] rfl)
  · intro h13
    refine lv_iconst (v := 0) hx hb d_Re_readQualities_16 (by decide) ?_
    exact hret 0 (fq, ([] : List Int32)) _ _ _ 17 d_Re_readQualities_17 (Or.inr ⟨rfl, hq, fun z => h13 z.1⟩) hP hD hS
theorem k_Re_readQualities : cf_V y_Re_readQualities b_Re_readQualities 5 (some .boolean) "ReadMapper$Read" 2 := ⟨⟨m_703, (wm_s (q := (y_Re_readQualities, 4)) (by decide +kernel)), m_5, m_704⟩, by decide +kernel⟩
