/-! the writer's words in mathematics -/
def dg_c (n : Nat) : List Int32 := if 100 ≤ n then [nI (48 + n / 100 % 10), nI (48 + n / 10 % 10), nI (48 + n % 10)] else if 10 ≤ n then [nI (48 + n / 10 % 10), nI (48 + n % 10)] else [nI (48 + n % 10)]
theorem dg_3 {n : Nat} (h : 100 ≤ n) (h2 : 10 ≤ n) : dg_c n = [nI (48 + n / 100 % 10), nI (48 + n / 10 % 10), nI (48 + n % 10)] := if_pos h
theorem dg_2 {n : Nat} (h : n < 100) (h2 : 10 ≤ n) : dg_c n = [nI (48 + n / 10 % 10), nI (48 + n % 10)] := by unfold dg_c; rw [if_neg (by omega), if_pos h2]
theorem dg_1 {n : Nat} (h : n < 10) : dg_c n = [nI (48 + n % 10)] := by unfold dg_c; rw [if_neg (by omega), if_neg (by omega)]
theorem dg_len (n : Nat) : 1 ≤ (dg_c n).length ∧ (dg_c n).length ≤ 3 ∧ (n < 100 → (dg_c n).length ≤ 2) ∧ (n < 10 → (dg_c n).length = 1) := by
  unfold dg_c
  by_cases h : 100 ≤ n
  · rw [if_pos h]; exact ⟨Nat.le_of_ble_eq_true rfl, Nat.le_of_ble_eq_true rfl, fun z => by omega, fun z => by omega⟩
  · rw [if_neg h]
    by_cases g : 10 ≤ n
    · rw [if_pos g]; exact ⟨Nat.le_of_ble_eq_true rfl, Nat.le_of_ble_eq_true rfl, fun _ => Nat.le_of_ble_eq_true rfl, fun z => by omega⟩
    · rw [if_neg g]; exact ⟨Nat.le_of_ble_eq_true rfl, Nat.le_of_ble_eq_true rfl, fun _ => Nat.le_of_ble_eq_true rfl, fun _ => rfl⟩
theorem rv_s {C : List Int32} {k : Nat} (h : k < C.length) : (C.drop (k + 1)).reverse ++ [C.getD k 0] = (C.drop k).reverse := by
  rw [List.drop_eq_getElem_cons h, List.reverse_cons]
  simp [List.getD_eq_getElem?_getD, h]
theorem in_zero2 {i : Nat} (hi : i ≤ 1000) (h : nI i - 1 < 0) : i = 0 := by
  cases i with
  | zero => rfl
  | succ k =>
    rw [nI_pred] at h
    exact absurd h (nI_pos (by omega))
theorem d_Wr_putNumber_0 : decode b_Wr_putNumber 0 = .ok (.iload_n 1, 1) := by decide +kernel
theorem d_Wr_putNumber_1 : decode b_Wr_putNumber 1 = .ok (.bipush 100, 2) := by decide +kernel
theorem d_Wr_putNumber_3 : decode b_Wr_putNumber 3 = .ok (.if_icmp .lt 20, 3) := by decide +kernel
theorem d_Wr_putNumber_6 : decode b_Wr_putNumber 6 = .ok (.aload_n 0, 1) := by decide +kernel
theorem d_Wr_putNumber_7 : decode b_Wr_putNumber 7 = .ok (.getfield 14, 3) := by decide +kernel
theorem d_Wr_putNumber_10 : decode b_Wr_putNumber 10 = .ok (.bipush 48, 2) := by decide +kernel
theorem d_Wr_putNumber_12 : decode b_Wr_putNumber 12 = .ok (.iload_n 1, 1) := by decide +kernel
theorem d_Wr_putNumber_13 : decode b_Wr_putNumber 13 = .ok (.bipush 100, 2) := by decide +kernel
theorem d_Wr_putNumber_15 : decode b_Wr_putNumber 15 = .ok (.idiv, 1) := by decide +kernel
theorem d_Wr_putNumber_16 : decode b_Wr_putNumber 16 = .ok (.bipush 10, 2) := by decide +kernel
theorem d_Wr_putNumber_18 : decode b_Wr_putNumber 18 = .ok (.irem, 1) := by decide +kernel
theorem d_Wr_putNumber_19 : decode b_Wr_putNumber 19 = .ok (.iadd, 1) := by decide +kernel
theorem d_Wr_putNumber_20 : decode b_Wr_putNumber 20 = .ok (.invokevirtual 51, 3) := by decide +kernel
theorem d_Wr_putNumber_23 : decode b_Wr_putNumber 23 = .ok (.iload_n 1, 1) := by decide +kernel
theorem d_Wr_putNumber_24 : decode b_Wr_putNumber 24 = .ok (.bipush 10, 2) := by decide +kernel
theorem d_Wr_putNumber_26 : decode b_Wr_putNumber 26 = .ok (.if_icmp .lt 20, 3) := by decide +kernel
theorem d_Wr_putNumber_29 : decode b_Wr_putNumber 29 = .ok (.aload_n 0, 1) := by decide +kernel
theorem d_Wr_putNumber_30 : decode b_Wr_putNumber 30 = .ok (.getfield 14, 3) := by decide +kernel
theorem d_Wr_putNumber_33 : decode b_Wr_putNumber 33 = .ok (.bipush 48, 2) := by decide +kernel
theorem d_Wr_putNumber_35 : decode b_Wr_putNumber 35 = .ok (.iload_n 1, 1) := by decide +kernel
theorem d_Wr_putNumber_36 : decode b_Wr_putNumber 36 = .ok (.bipush 10, 2) := by decide +kernel
theorem d_Wr_putNumber_38 : decode b_Wr_putNumber 38 = .ok (.idiv, 1) := by decide +kernel
theorem d_Wr_putNumber_39 : decode b_Wr_putNumber 39 = .ok (.bipush 10, 2) := by decide +kernel
theorem d_Wr_putNumber_41 : decode b_Wr_putNumber 41 = .ok (.irem, 1) := by decide +kernel
theorem d_Wr_putNumber_42 : decode b_Wr_putNumber 42 = .ok (.iadd, 1) := by decide +kernel
theorem d_Wr_putNumber_43 : decode b_Wr_putNumber 43 = .ok (.invokevirtual 51, 3) := by decide +kernel
theorem d_Wr_putNumber_46 : decode b_Wr_putNumber 46 = .ok (.aload_n 0, 1) := by decide +kernel
theorem d_Wr_putNumber_47 : decode b_Wr_putNumber 47 = .ok (.getfield 14, 3) := by decide +kernel
theorem d_Wr_putNumber_50 : decode b_Wr_putNumber 50 = .ok (.bipush 48, 2) := by decide +kernel
theorem d_Wr_putNumber_52 : decode b_Wr_putNumber 52 = .ok (.iload_n 1, 1) := by decide +kernel
theorem d_Wr_putNumber_53 : decode b_Wr_putNumber 53 = .ok (.bipush 10, 2) := by decide +kernel
theorem d_Wr_putNumber_55 : decode b_Wr_putNumber 55 = .ok (.irem, 1) := by decide +kernel
theorem d_Wr_putNumber_56 : decode b_Wr_putNumber 56 = .ok (.iadd, 1) := by decide +kernel
theorem d_Wr_putNumber_57 : decode b_Wr_putNumber 57 = .ok (.invokevirtual 51, 3) := by decide +kernel
theorem d_Wr_putNumber_60 : decode b_Wr_putNumber 60 = .ok (.return_, 1) := by decide +kernel
theorem d_Wr_putCodes_0 : decode b_Wr_putCodes 0 = .ok (.iconst 0, 1) := by decide +kernel
theorem d_Wr_putCodes_1 : decode b_Wr_putCodes 1 = .ok (.istore_n 2, 1) := by decide +kernel
theorem d_Wr_putCodes_2 : decode b_Wr_putCodes 2 = .ok (.iload_n 2, 1) := by decide +kernel
theorem d_Wr_putCodes_3 : decode b_Wr_putCodes 3 = .ok (.aload_n 1, 1) := by decide +kernel
theorem d_Wr_putCodes_4 : decode b_Wr_putCodes 4 = .ok (.invokevirtual 96, 3) := by decide +kernel
theorem d_Wr_putCodes_7 : decode b_Wr_putCodes 7 = .ok (.if_icmp .ge 21, 3) := by decide +kernel
theorem d_Wr_putCodes_10 : decode b_Wr_putCodes 10 = .ok (.aload_n 0, 1) := by decide +kernel
theorem d_Wr_putCodes_11 : decode b_Wr_putCodes 11 = .ok (.getfield 14, 3) := by decide +kernel
theorem d_Wr_putCodes_14 : decode b_Wr_putCodes 14 = .ok (.aload_n 1, 1) := by decide +kernel
theorem d_Wr_putCodes_15 : decode b_Wr_putCodes 15 = .ok (.iload_n 2, 1) := by decide +kernel
theorem d_Wr_putCodes_16 : decode b_Wr_putCodes 16 = .ok (.invokevirtual 47, 3) := by decide +kernel
theorem d_Wr_putCodes_19 : decode b_Wr_putCodes 19 = .ok (.invokevirtual 51, 3) := by decide +kernel
theorem d_Wr_putCodes_22 : decode b_Wr_putCodes 22 = .ok (.iinc 2 1, 3) := by decide +kernel
theorem d_Wr_putCodes_25 : decode b_Wr_putCodes 25 = .ok (.goto (-23), 3) := by decide +kernel
theorem d_Wr_putCodes_28 : decode b_Wr_putCodes 28 = .ok (.return_, 1) := by decide +kernel
theorem d_Wr_putCodesTurned_0 : decode b_Wr_putCodesTurned 0 = .ok (.aload_n 1, 1) := by decide +kernel
theorem d_Wr_putCodesTurned_1 : decode b_Wr_putCodesTurned 1 = .ok (.invokevirtual 96, 3) := by decide +kernel
theorem d_Wr_putCodesTurned_4 : decode b_Wr_putCodesTurned 4 = .ok (.iconst 1, 1) := by decide +kernel
theorem d_Wr_putCodesTurned_5 : decode b_Wr_putCodesTurned 5 = .ok (.isub, 1) := by decide +kernel
theorem d_Wr_putCodesTurned_6 : decode b_Wr_putCodesTurned 6 = .ok (.istore_n 2, 1) := by decide +kernel
theorem d_Wr_putCodesTurned_7 : decode b_Wr_putCodesTurned 7 = .ok (.iload_n 2, 1) := by decide +kernel
theorem d_Wr_putCodesTurned_8 : decode b_Wr_putCodesTurned 8 = .ok (.ifCond .lt 21, 3) := by decide +kernel
theorem d_Wr_putCodesTurned_11 : decode b_Wr_putCodesTurned 11 = .ok (.aload_n 0, 1) := by decide +kernel
theorem d_Wr_putCodesTurned_12 : decode b_Wr_putCodesTurned 12 = .ok (.getfield 14, 3) := by decide +kernel
theorem d_Wr_putCodesTurned_15 : decode b_Wr_putCodesTurned 15 = .ok (.aload_n 1, 1) := by decide +kernel
theorem d_Wr_putCodesTurned_16 : decode b_Wr_putCodesTurned 16 = .ok (.iload_n 2, 1) := by decide +kernel
theorem d_Wr_putCodesTurned_17 : decode b_Wr_putCodesTurned 17 = .ok (.invokevirtual 47, 3) := by decide +kernel
theorem d_Wr_putCodesTurned_20 : decode b_Wr_putCodesTurned 20 = .ok (.invokevirtual 51, 3) := by decide +kernel
theorem d_Wr_putCodesTurned_23 : decode b_Wr_putCodesTurned 23 = .ok (.iinc 2 (-1), 3) := by decide +kernel
theorem d_Wr_putCodesTurned_26 : decode b_Wr_putCodesTurned 26 = .ok (.goto (-19), 3) := by decide +kernel
theorem d_Wr_putCodesTurned_29 : decode b_Wr_putCodesTurned 29 = .ok (.return_, 1) := by decide +kernel
theorem d_Wr_putText_0 : decode b_Wr_putText 0 = .ok (.iconst 0, 1) := by decide +kernel
theorem d_Wr_putText_1 : decode b_Wr_putText 1 = .ok (.istore_n 2, 1) := by decide +kernel
theorem d_Wr_putText_2 : decode b_Wr_putText 2 = .ok (.iload_n 2, 1) := by decide +kernel
theorem d_Wr_putText_3 : decode b_Wr_putText 3 = .ok (.aload_n 1, 1) := by decide +kernel
theorem d_Wr_putText_4 : decode b_Wr_putText 4 = .ok (.invokevirtual 121, 3) := by decide +kernel
theorem d_Wr_putText_7 : decode b_Wr_putText 7 = .ok (.if_icmp .ge 21, 3) := by decide +kernel
theorem d_Wr_putText_10 : decode b_Wr_putText 10 = .ok (.aload_n 0, 1) := by decide +kernel
theorem d_Wr_putText_11 : decode b_Wr_putText 11 = .ok (.getfield 14, 3) := by decide +kernel
theorem d_Wr_putText_14 : decode b_Wr_putText 14 = .ok (.aload_n 1, 1) := by decide +kernel
theorem d_Wr_putText_15 : decode b_Wr_putText 15 = .ok (.iload_n 2, 1) := by decide +kernel
theorem d_Wr_putText_16 : decode b_Wr_putText 16 = .ok (.invokevirtual 101, 3) := by decide +kernel
theorem d_Wr_putText_19 : decode b_Wr_putText 19 = .ok (.invokevirtual 51, 3) := by decide +kernel
theorem d_Wr_putText_22 : decode b_Wr_putText 22 = .ok (.iinc 2 1, 3) := by decide +kernel
theorem d_Wr_putText_25 : decode b_Wr_putText 25 = .ok (.goto (-23), 3) := by decide +kernel
theorem d_Wr_putText_28 : decode b_Wr_putText 28 = .ok (.return_, 1) := by decide +kernel
set_option maxHeartbeats 4000000 in
set_option maxRecDepth 100000 in
theorem c_Wr_putNumber (l : Launch) (D : va_G) (cA : Nat → ClassId) (K : Nat → Nat) (wa wl wlb : Nat) (f : Nat → Int32) (L : List Int32) (n : Nat) (hc : cd_r 128 f L) (hn : n < 1000) (hr : L.length + (dg_c n).length ≤ 128) : ck_V l y_Wr_putNumber (Cond.code y_Wr_putNumber b_Wr_putNumber 2 none :: w_all) 2 D cA K [.ref wa, .int (nI n)] [(wa, .inr (6, [.ref wl])), (wl, .inr (0, [.ref wlb, .int (nI L.length)])), (wlb, .inl (cA 0, 128, .inl f))] (fun (u : (Nat → Int32) × (List Int32)) => cd_r 128 u.1 u.2 ∧ u.2 = L ++ (dg_c n)) (fun u => [(wa, .inr (6, [.ref wl])), (wl, .inr (0, [.ref wlb, .int (nI u.2.length)])), (wlb, .inl (cA 0, 128, .inl u.1))]) := by
  refine ck_mkV (by decide) (Nat.le_of_ble_eq_true rfl) ?_
  intro pG eG sG mG argsG belowG methG cG Q A H locs ls hx hb hml hown hts hK hE hA hP hD hS hl hret
  have hl : lv_has ls 2 [(0, .ref wa), (1, .int (nI n))] := hl
  have hdl := dg_len n
  refine lv_iload_n hx hb d_Wr_putNumber_0 rfl (lv_at hl 1 rfl) ?_
  refine lv_bipush (v := nI 100) hx hb d_Wr_putNumber_1 (by decide) ?_
  refine wn_icmp_lt (by omega) (by omega) (tgt := 23) hx hb d_Wr_putNumber_3 (by decide) ?_ ?_
  · intro h3
    refine lv_iload_n hx hb d_Wr_putNumber_23 rfl (lv_at hl 1 rfl) ?_
    refine lv_bipush (v := nI 10) hx hb d_Wr_putNumber_24 (by decide) ?_
    refine wn_icmp_lt (by omega) (by omega) (tgt := 46) hx hb d_Wr_putNumber_26 (by decide) ?_ ?_
    · intro h26
      refine lv_aload_n hx hb d_Wr_putNumber_46 rfl (lv_at hl 0 rfl) ?_
      refine va_get (C := RX6) (T := TX6) (N := 1) hx hb hts inX6 hown hK hP 0 rfl rfl 0 (by decide) (hts _ m_166) (fun _ h9 => h9) rfl d_Wr_putNumber_47 ?_
      refine lv_bipush (v := nI 48) hx hb d_Wr_putNumber_50 (by decide) ?_
      refine lv_iload_n hx hb d_Wr_putNumber_52 rfl (lv_at hl 1 rfl) ?_
      refine lv_bipush (v := nI 10) hx hb d_Wr_putNumber_53 (by decide) ?_
      refine wn_irem (by omega) (by omega) (by omega) hx hb d_Wr_putNumber_55 ?_
      refine wn_iadd hx hb d_Wr_putNumber_56 ?_
      refine ck_cVv (C := "ReadMapper$Codes") (ci := 0) (rest := []) (wr := [(wa, .inr (6, [.ref wl]))]) (ws2 := fun u => [(wa, .inr (6, [.ref wl])), (wl, .inr (0, [.ref wlb, .int (nI ((L ++ [(nI (48 + (n % 10)))]).length))])), (wlb, .inl (cA 0, 128, .inl u))]) (c_Co_append l D cA K wl wlb 128 f L (nI (48 + (n % 10))) (by first | assumption | omega) (by first | (rw [dg_3 h3 (by omega)] at hr; simp only [List.length_append, List.length_cons, List.length_nil] at *; omega) | (rw [dg_2 h3 h26] at hr; simp only [List.length_append, List.length_cons, List.length_nil] at *; omega) | (rw [dg_1 h26] at hr; simp only [List.length_append, List.length_cons, List.length_nil] at *; omega))) hx hb hml hown hts hK hE hA hP hD hS k_Co_append m_349 (by decide) 1 rfl rfl rfl hl.1 rfl (Nat.le_of_ble_eq_true rfl) d_Wr_putNumber_57  [1, 2] [0] [0, 1, 2] rfl rfl (by decide) (fun _ => rfl) (fun u57 H locs hq57 hP hD hS => ?_)
      obtain ⟨f2_57, rfl⟩ : ∃ z, z = u57 := ⟨_, rfl⟩
      try dsimp only at hq57
      have hP : va_P D vwCl [(wa, .inr (6, [.ref wl])), (wl, .inr (0, [.ref wlb, .int (nI ((L ++ [(nI (48 + (n % 10)))]).length))])), (wlb, .inl (cA 0, 128, .inl f2_57))] H := hP
      have hD : va_D A [(wa, .inr (6, [.ref wl])), (wl, .inr (0, [.ref wlb, .int (nI ((L ++ [(nI (48 + (n % 10)))]).length))])), (wlb, .inl (cA 0, 128, .inl f2_57))] := hD
      exact hret (f2_57, L ++ [(nI (48 + (n % 10)))]) _ _ _ 60 d_Wr_putNumber_60 (by first | (exfalso; omega) | exact ⟨hq57, by rw [dg_3 h3 (by omega)]; simp only [List.append_assoc, List.cons_append, List.nil_append]⟩ | exact ⟨hq57, by rw [dg_2 h3 h26]; simp only [List.append_assoc, List.cons_append, List.nil_append]⟩ | exact ⟨hq57, by rw [dg_1 h26]⟩) hP hD hS
    · intro h26
      refine lv_aload_n hx hb d_Wr_putNumber_29 rfl (lv_at hl 0 rfl) ?_
      refine va_get (C := RX6) (T := TX6) (N := 1) hx hb hts inX6 hown hK hP 0 rfl rfl 0 (by decide) (hts _ m_166) (fun _ h9 => h9) rfl d_Wr_putNumber_30 ?_
      refine lv_bipush (v := nI 48) hx hb d_Wr_putNumber_33 (by decide) ?_
      refine lv_iload_n hx hb d_Wr_putNumber_35 rfl (lv_at hl 1 rfl) ?_
      refine lv_bipush (v := nI 10) hx hb d_Wr_putNumber_36 (by decide) ?_
      refine wn_idiv (by omega) (by omega) (by omega) hx hb d_Wr_putNumber_38 ?_
      refine lv_bipush (v := nI 10) hx hb d_Wr_putNumber_39 (by decide) ?_
      refine wn_irem (by omega) (by omega) (by omega) hx hb d_Wr_putNumber_41 ?_
      refine wn_iadd hx hb d_Wr_putNumber_42 ?_
      refine ck_cVv (C := "ReadMapper$Codes") (ci := 0) (rest := []) (wr := [(wa, .inr (6, [.ref wl]))]) (ws2 := fun u => [(wa, .inr (6, [.ref wl])), (wl, .inr (0, [.ref wlb, .int (nI ((L ++ [(nI (48 + ((n / 10) % 10)))]).length))])), (wlb, .inl (cA 0, 128, .inl u))]) (c_Co_append l D cA K wl wlb 128 f L (nI (48 + ((n / 10) % 10))) (by first | assumption | omega) (by first | (rw [dg_3 h3 (by omega)] at hr; simp only [List.length_append, List.length_cons, List.length_nil] at *; omega) | (rw [dg_2 h3 h26] at hr; simp only [List.length_append, List.length_cons, List.length_nil] at *; omega))) hx hb hml hown hts hK hE hA hP hD hS k_Co_append m_349 (by decide) 1 rfl rfl rfl hl.1 rfl (Nat.le_of_ble_eq_true rfl) d_Wr_putNumber_43  [1, 2] [0] [0, 1, 2] rfl rfl (by decide) (fun _ => rfl) (fun u43 H locs hq43 hP hD hS => ?_)
      obtain ⟨f2_43, rfl⟩ : ∃ z, z = u43 := ⟨_, rfl⟩
      try dsimp only at hq43
      have hP : va_P D vwCl [(wa, .inr (6, [.ref wl])), (wl, .inr (0, [.ref wlb, .int (nI ((L ++ [(nI (48 + ((n / 10) % 10)))]).length))])), (wlb, .inl (cA 0, 128, .inl f2_43))] H := hP
      have hD : va_D A [(wa, .inr (6, [.ref wl])), (wl, .inr (0, [.ref wlb, .int (nI ((L ++ [(nI (48 + ((n / 10) % 10)))]).length))])), (wlb, .inl (cA 0, 128, .inl f2_43))] := hD
      refine lv_aload_n hx hb d_Wr_putNumber_46 rfl (lv_at hl 0 rfl) ?_
      refine va_get (C := RX6) (T := TX6) (N := 1) hx hb hts inX6 hown hK hP 0 rfl rfl 0 (by decide) (hts _ m_166) (fun _ h9 => h9) rfl d_Wr_putNumber_47 ?_
      refine lv_bipush (v := nI 48) hx hb d_Wr_putNumber_50 (by decide) ?_
      refine lv_iload_n hx hb d_Wr_putNumber_52 rfl (lv_at hl 1 rfl) ?_
      refine lv_bipush (v := nI 10) hx hb d_Wr_putNumber_53 (by decide) ?_
      refine wn_irem (by omega) (by omega) (by omega) hx hb d_Wr_putNumber_55 ?_
      refine wn_iadd hx hb d_Wr_putNumber_56 ?_
      refine ck_cVv (C := "ReadMapper$Codes") (ci := 0) (rest := []) (wr := [(wa, .inr (6, [.ref wl]))]) (ws2 := fun u => [(wa, .inr (6, [.ref wl])), (wl, .inr (0, [.ref wlb, .int (nI (((L ++ [(nI (48 + ((n / 10) % 10)))]) ++ [(nI (48 + (n % 10)))]).length))])), (wlb, .inl (cA 0, 128, .inl u))]) (c_Co_append l D cA K wl wlb 128 f2_43 (L ++ [(nI (48 + ((n / 10) % 10)))]) (nI (48 + (n % 10))) (by first | assumption | omega) (by first | (rw [dg_3 h3 (by omega)] at hr; simp only [List.length_append, List.length_cons, List.length_nil] at *; omega) | (rw [dg_2 h3 h26] at hr; simp only [List.length_append, List.length_cons, List.length_nil] at *; omega) | (rw [dg_1 h26] at hr; simp only [List.length_append, List.length_cons, List.length_nil] at *; omega))) hx hb hml hown hts hK hE hA hP hD hS k_Co_append m_349 (by decide) 1 rfl rfl rfl hl.1 rfl (Nat.le_of_ble_eq_true rfl) d_Wr_putNumber_57  [1, 2] [0] [0, 1, 2] rfl rfl (by decide) (fun _ => rfl) (fun u57 H locs hq57 hP hD hS => ?_)
      obtain ⟨f2_57, rfl⟩ : ∃ z, z = u57 := ⟨_, rfl⟩
      try dsimp only at hq57
      have hP : va_P D vwCl [(wa, .inr (6, [.ref wl])), (wl, .inr (0, [.ref wlb, .int (nI (((L ++ [(nI (48 + ((n / 10) % 10)))]) ++ [(nI (48 + (n % 10)))]).length))])), (wlb, .inl (cA 0, 128, .inl f2_57))] H := hP
      have hD : va_D A [(wa, .inr (6, [.ref wl])), (wl, .inr (0, [.ref wlb, .int (nI (((L ++ [(nI (48 + ((n / 10) % 10)))]) ++ [(nI (48 + (n % 10)))]).length))])), (wlb, .inl (cA 0, 128, .inl f2_57))] := hD
      exact hret (f2_57, (L ++ [(nI (48 + ((n / 10) % 10)))]) ++ [(nI (48 + (n % 10)))]) _ _ _ 60 d_Wr_putNumber_60 (by first | (exfalso; omega) | exact ⟨hq57, by rw [dg_3 h3 (by omega)]; simp only [List.append_assoc, List.cons_append, List.nil_append]⟩ | exact ⟨hq57, by rw [dg_2 h3 h26]; simp only [List.append_assoc, List.cons_append, List.nil_append]⟩ | exact ⟨hq57, by rw [dg_1 h26]⟩) hP hD hS
  · intro h3
    refine lv_aload_n hx hb d_Wr_putNumber_6 rfl (lv_at hl 0 rfl) ?_
    refine va_get (C := RX6) (T := TX6) (N := 1) hx hb hts inX6 hown hK hP 0 rfl rfl 0 (by decide) (hts _ m_166) (fun _ h9 => h9) rfl d_Wr_putNumber_7 ?_
    refine lv_bipush (v := nI 48) hx hb d_Wr_putNumber_10 (by decide) ?_
    refine lv_iload_n hx hb d_Wr_putNumber_12 rfl (lv_at hl 1 rfl) ?_
    refine lv_bipush (v := nI 100) hx hb d_Wr_putNumber_13 (by decide) ?_
    refine wn_idiv (by omega) (by omega) (by omega) hx hb d_Wr_putNumber_15 ?_
    refine lv_bipush (v := nI 10) hx hb d_Wr_putNumber_16 (by decide) ?_
    refine wn_irem (by omega) (by omega) (by omega) hx hb d_Wr_putNumber_18 ?_
    refine wn_iadd hx hb d_Wr_putNumber_19 ?_
    refine ck_cVv (C := "ReadMapper$Codes") (ci := 0) (rest := []) (wr := [(wa, .inr (6, [.ref wl]))]) (ws2 := fun u => [(wa, .inr (6, [.ref wl])), (wl, .inr (0, [.ref wlb, .int (nI ((L ++ [(nI (48 + ((n / 100) % 10)))]).length))])), (wlb, .inl (cA 0, 128, .inl u))]) (c_Co_append l D cA K wl wlb 128 f L (nI (48 + ((n / 100) % 10))) (by first | assumption | (simp only [List.length_append, List.length_cons, List.length_nil]; omega)) (by omega)) hx hb hml hown hts hK hE hA hP hD hS k_Co_append m_349 (by decide) 1 rfl rfl rfl hl.1 rfl (Nat.le_of_ble_eq_true rfl) d_Wr_putNumber_20  [1, 2] [0] [0, 1, 2] rfl rfl (by decide) (fun _ => rfl) (fun u20 H locs hq20 hP hD hS => ?_)
    obtain ⟨f2_20, rfl⟩ : ∃ z, z = u20 := ⟨_, rfl⟩
    try dsimp only at hq20
    have hP : va_P D vwCl [(wa, .inr (6, [.ref wl])), (wl, .inr (0, [.ref wlb, .int (nI ((L ++ [(nI (48 + ((n / 100) % 10)))]).length))])), (wlb, .inl (cA 0, 128, .inl f2_20))] H := hP
    have hD : va_D A [(wa, .inr (6, [.ref wl])), (wl, .inr (0, [.ref wlb, .int (nI ((L ++ [(nI (48 + ((n / 100) % 10)))]).length))])), (wlb, .inl (cA 0, 128, .inl f2_20))] := hD
    refine lv_iload_n hx hb d_Wr_putNumber_23 rfl (lv_at hl 1 rfl) ?_
    refine lv_bipush (v := nI 10) hx hb d_Wr_putNumber_24 (by decide) ?_
    refine wn_icmp_lt (by omega) (by omega) (tgt := 46) hx hb d_Wr_putNumber_26 (by decide) ?_ ?_
    · intro h26
      refine lv_aload_n hx hb d_Wr_putNumber_46 rfl (lv_at hl 0 rfl) ?_
      refine va_get (C := RX6) (T := TX6) (N := 1) hx hb hts inX6 hown hK hP 0 rfl rfl 0 (by decide) (hts _ m_166) (fun _ h9 => h9) rfl d_Wr_putNumber_47 ?_
      refine lv_bipush (v := nI 48) hx hb d_Wr_putNumber_50 (by decide) ?_
      refine lv_iload_n hx hb d_Wr_putNumber_52 rfl (lv_at hl 1 rfl) ?_
      refine lv_bipush (v := nI 10) hx hb d_Wr_putNumber_53 (by decide) ?_
      refine wn_irem (by omega) (by omega) (by omega) hx hb d_Wr_putNumber_55 ?_
      refine wn_iadd hx hb d_Wr_putNumber_56 ?_
      refine ck_cVv (C := "ReadMapper$Codes") (ci := 0) (rest := []) (wr := [(wa, .inr (6, [.ref wl]))]) (ws2 := fun u => [(wa, .inr (6, [.ref wl])), (wl, .inr (0, [.ref wlb, .int (nI (((L ++ [(nI (48 + ((n / 100) % 10)))]) ++ [(nI (48 + (n % 10)))]).length))])), (wlb, .inl (cA 0, 128, .inl u))]) (c_Co_append l D cA K wl wlb 128 f2_20 (L ++ [(nI (48 + ((n / 100) % 10)))]) (nI (48 + (n % 10))) (by first | assumption | omega) (by first | (rw [dg_3 h3 (by omega)] at hr; simp only [List.length_append, List.length_cons, List.length_nil] at *; omega) | (rw [dg_2 h3 h26] at hr; simp only [List.length_append, List.length_cons, List.length_nil] at *; omega) | (rw [dg_1 h26] at hr; simp only [List.length_append, List.length_cons, List.length_nil] at *; omega))) hx hb hml hown hts hK hE hA hP hD hS k_Co_append m_349 (by decide) 1 rfl rfl rfl hl.1 rfl (Nat.le_of_ble_eq_true rfl) d_Wr_putNumber_57  [1, 2] [0] [0, 1, 2] rfl rfl (by decide) (fun _ => rfl) (fun u57 H locs hq57 hP hD hS => ?_)
      obtain ⟨f2_57, rfl⟩ : ∃ z, z = u57 := ⟨_, rfl⟩
      try dsimp only at hq57
      have hP : va_P D vwCl [(wa, .inr (6, [.ref wl])), (wl, .inr (0, [.ref wlb, .int (nI (((L ++ [(nI (48 + ((n / 100) % 10)))]) ++ [(nI (48 + (n % 10)))]).length))])), (wlb, .inl (cA 0, 128, .inl f2_57))] H := hP
      have hD : va_D A [(wa, .inr (6, [.ref wl])), (wl, .inr (0, [.ref wlb, .int (nI (((L ++ [(nI (48 + ((n / 100) % 10)))]) ++ [(nI (48 + (n % 10)))]).length))])), (wlb, .inl (cA 0, 128, .inl f2_57))] := hD
      exact hret (f2_57, (L ++ [(nI (48 + ((n / 100) % 10)))]) ++ [(nI (48 + (n % 10)))]) _ _ _ 60 d_Wr_putNumber_60 (by first | (exfalso; omega) | exact ⟨hq57, by rw [dg_3 h3 (by omega)]; simp only [List.append_assoc, List.cons_append, List.nil_append]⟩ | exact ⟨hq57, by rw [dg_2 h3 h26]; simp only [List.append_assoc, List.cons_append, List.nil_append]⟩ | exact ⟨hq57, by rw [dg_1 h26]⟩) hP hD hS
    · intro h26
      refine lv_aload_n hx hb d_Wr_putNumber_29 rfl (lv_at hl 0 rfl) ?_
      refine va_get (C := RX6) (T := TX6) (N := 1) hx hb hts inX6 hown hK hP 0 rfl rfl 0 (by decide) (hts _ m_166) (fun _ h9 => h9) rfl d_Wr_putNumber_30 ?_
      refine lv_bipush (v := nI 48) hx hb d_Wr_putNumber_33 (by decide) ?_
      refine lv_iload_n hx hb d_Wr_putNumber_35 rfl (lv_at hl 1 rfl) ?_
      refine lv_bipush (v := nI 10) hx hb d_Wr_putNumber_36 (by decide) ?_
      refine wn_idiv (by omega) (by omega) (by omega) hx hb d_Wr_putNumber_38 ?_
      refine lv_bipush (v := nI 10) hx hb d_Wr_putNumber_39 (by decide) ?_
      refine wn_irem (by omega) (by omega) (by omega) hx hb d_Wr_putNumber_41 ?_
      refine wn_iadd hx hb d_Wr_putNumber_42 ?_
      refine ck_cVv (C := "ReadMapper$Codes") (ci := 0) (rest := []) (wr := [(wa, .inr (6, [.ref wl]))]) (ws2 := fun u => [(wa, .inr (6, [.ref wl])), (wl, .inr (0, [.ref wlb, .int (nI (((L ++ [(nI (48 + ((n / 100) % 10)))]) ++ [(nI (48 + ((n / 10) % 10)))]).length))])), (wlb, .inl (cA 0, 128, .inl u))]) (c_Co_append l D cA K wl wlb 128 f2_20 (L ++ [(nI (48 + ((n / 100) % 10)))]) (nI (48 + ((n / 10) % 10))) (by first | assumption | omega) (by first | (rw [dg_3 h3 (by omega)] at hr; simp only [List.length_append, List.length_cons, List.length_nil] at *; omega) | (rw [dg_2 h3 h26] at hr; simp only [List.length_append, List.length_cons, List.length_nil] at *; omega))) hx hb hml hown hts hK hE hA hP hD hS k_Co_append m_349 (by decide) 1 rfl rfl rfl hl.1 rfl (Nat.le_of_ble_eq_true rfl) d_Wr_putNumber_43  [1, 2] [0] [0, 1, 2] rfl rfl (by decide) (fun _ => rfl) (fun u43 H locs hq43 hP hD hS => ?_)
      obtain ⟨f2_43, rfl⟩ : ∃ z, z = u43 := ⟨_, rfl⟩
      try dsimp only at hq43
      have hP : va_P D vwCl [(wa, .inr (6, [.ref wl])), (wl, .inr (0, [.ref wlb, .int (nI (((L ++ [(nI (48 + ((n / 100) % 10)))]) ++ [(nI (48 + ((n / 10) % 10)))]).length))])), (wlb, .inl (cA 0, 128, .inl f2_43))] H := hP
      have hD : va_D A [(wa, .inr (6, [.ref wl])), (wl, .inr (0, [.ref wlb, .int (nI (((L ++ [(nI (48 + ((n / 100) % 10)))]) ++ [(nI (48 + ((n / 10) % 10)))]).length))])), (wlb, .inl (cA 0, 128, .inl f2_43))] := hD
      refine lv_aload_n hx hb d_Wr_putNumber_46 rfl (lv_at hl 0 rfl) ?_
      refine va_get (C := RX6) (T := TX6) (N := 1) hx hb hts inX6 hown hK hP 0 rfl rfl 0 (by decide) (hts _ m_166) (fun _ h9 => h9) rfl d_Wr_putNumber_47 ?_
      refine lv_bipush (v := nI 48) hx hb d_Wr_putNumber_50 (by decide) ?_
      refine lv_iload_n hx hb d_Wr_putNumber_52 rfl (lv_at hl 1 rfl) ?_
      refine lv_bipush (v := nI 10) hx hb d_Wr_putNumber_53 (by decide) ?_
      refine wn_irem (by omega) (by omega) (by omega) hx hb d_Wr_putNumber_55 ?_
      refine wn_iadd hx hb d_Wr_putNumber_56 ?_
      refine ck_cVv (C := "ReadMapper$Codes") (ci := 0) (rest := []) (wr := [(wa, .inr (6, [.ref wl]))]) (ws2 := fun u => [(wa, .inr (6, [.ref wl])), (wl, .inr (0, [.ref wlb, .int (nI ((((L ++ [(nI (48 + ((n / 100) % 10)))]) ++ [(nI (48 + ((n / 10) % 10)))]) ++ [(nI (48 + (n % 10)))]).length))])), (wlb, .inl (cA 0, 128, .inl u))]) (c_Co_append l D cA K wl wlb 128 f2_43 ((L ++ [(nI (48 + ((n / 100) % 10)))]) ++ [(nI (48 + ((n / 10) % 10)))]) (nI (48 + (n % 10))) (by first | assumption | omega) (by first | (rw [dg_3 h3 (by omega)] at hr; simp only [List.length_append, List.length_cons, List.length_nil] at *; omega) | (rw [dg_2 h3 h26] at hr; simp only [List.length_append, List.length_cons, List.length_nil] at *; omega) | (rw [dg_1 h26] at hr; simp only [List.length_append, List.length_cons, List.length_nil] at *; omega))) hx hb hml hown hts hK hE hA hP hD hS k_Co_append m_349 (by decide) 1 rfl rfl rfl hl.1 rfl (Nat.le_of_ble_eq_true rfl) d_Wr_putNumber_57  [1, 2] [0] [0, 1, 2] rfl rfl (by decide) (fun _ => rfl) (fun u57 H locs hq57 hP hD hS => ?_)
      obtain ⟨f2_57, rfl⟩ : ∃ z, z = u57 := ⟨_, rfl⟩
      try dsimp only at hq57
      have hP : va_P D vwCl [(wa, .inr (6, [.ref wl])), (wl, .inr (0, [.ref wlb, .int (nI ((((L ++ [(nI (48 + ((n / 100) % 10)))]) ++ [(nI (48 + ((n / 10) % 10)))]) ++ [(nI (48 + (n % 10)))]).length))])), (wlb, .inl (cA 0, 128, .inl f2_57))] H := hP
      have hD : va_D A [(wa, .inr (6, [.ref wl])), (wl, .inr (0, [.ref wlb, .int (nI ((((L ++ [(nI (48 + ((n / 100) % 10)))]) ++ [(nI (48 + ((n / 10) % 10)))]) ++ [(nI (48 + (n % 10)))]).length))])), (wlb, .inl (cA 0, 128, .inl f2_57))] := hD
      exact hret (f2_57, ((L ++ [(nI (48 + ((n / 100) % 10)))]) ++ [(nI (48 + ((n / 10) % 10)))]) ++ [(nI (48 + (n % 10)))]) _ _ _ 60 d_Wr_putNumber_60 (by first | (exfalso; omega) | exact ⟨hq57, by rw [dg_3 h3 (by omega)]; simp only [List.append_assoc, List.cons_append, List.nil_append]⟩ | exact ⟨hq57, by rw [dg_2 h3 h26]; simp only [List.append_assoc, List.cons_append, List.nil_append]⟩ | exact ⟨hq57, by rw [dg_1 h26]⟩) hP hD hS
theorem k_Wr_putNumber : cf_V y_Wr_putNumber b_Wr_putNumber 2 none "ReadMapper$RecordWriter" 1 := ⟨⟨m_413, (wm_s (q := (y_Wr_putNumber, 1)) (by decide +kernel)), m_7, m_414⟩, by decide +kernel⟩
set_option maxHeartbeats 4000000 in
set_option maxRecDepth 100000 in
theorem c_Wr_putCodes (l : Launch) (D : va_G) (cA : Nat → ClassId) (K : Nat → Nat) (wa wl wlb : Nat) (f : Nat → Int32) (L : List Int32) (a b cap : Nat) (g : Nat → Int32) (C : List Int32) (hc : cd_r 128 f L) (hcc : cd_r cap g C) (hr : L.length + C.length ≤ 128) : ck_V l y_Wr_putCodes (Cond.code y_Wr_putCodes b_Wr_putCodes 3 none :: w_all) 2 D cA K [.ref wa, .ref a] [(wa, .inr (6, [.ref wl])), (wl, .inr (0, [.ref wlb, .int (nI L.length)])), (wlb, .inl (cA 0, 128, .inl f)), (a, .inr (0, [.ref b, .int (nI C.length)])), (b, .inl (cA 0, cap, .inl g))] (fun (u : (Nat → Int32) × (List Int32)) => cd_r 128 u.1 u.2 ∧ u.2 = L ++ (C)) (fun u => [(wa, .inr (6, [.ref wl])), (wl, .inr (0, [.ref wlb, .int (nI u.2.length)])), (wlb, .inl (cA 0, 128, .inl u.1)), (a, .inr (0, [.ref b, .int (nI C.length)])), (b, .inl (cA 0, cap, .inl g))]) := by
  refine ck_mkV (by decide) (Nat.le_of_ble_eq_true rfl) ?_
  intro pG eG sG mG argsG belowG methG cG Q A H locs ls hx hb hml hown hts hK hE hA hP hD hS hl hret
  have hl : lv_has ls 3 [(0, .ref wa), (1, .ref a)] := hl
  have hl2 := cd_len hcc
  refine lv_iconst (v := nI 0) hx hb d_Wr_putCodes_0 (by decide) ?_
  refine lv_istore_n (lv' := [(2, .int (nI 0)), (0, .ref wa), (1, .ref a)]) hx hb d_Wr_putCodes_1 rfl hl (by decide) rfl (fun ls hl => ?_)
  have L2 : ∀ (nG : Nat) (i : Nat) (M : List Int32) (f1 : Nat → Int32) (H : Heap) (locs : List Loc) (ls : Array Slot), C.length - i = nG → (i ≤ C.length) → (M = L ++ C.take i) → (cd_r 128 f1 M) →  va_P D vwCl [(wa, .inr (6, [.ref wl])), (wl, .inr (0, [.ref wlb, .int (nI M.length)])), (wlb, .inl (cA 0, 128, .inl f1)), (a, .inr (0, [.ref b, .int (nI C.length)])), (b, .inl (cA 0, cap, .inl g))] H → va_D A [(wa, .inr (6, [.ref wl])), (wl, .inr (0, [.ref wlb, .int (nI M.length)])), (wlb, .inl (cA 0, 128, .inl f1)), (a, .inr (0, [.ref b, .int (nI C.length)])), (b, .inl (cA 0, cap, .inl g))] → va_S A sG.heap H locs → lv_has ls 3 [(0, .ref wa), (1, .ref a), (2, .int (nI i))] → W pG l eG (rm_d 2) sG mG argsG belowG methG cG H locs 0 0 Q (F0 mG 2 ls []) := by
    intro nG
    induction nG using Nat.strongRecOn with
    | ind nG ih2 =>
      intro i M f1 H locs ls hn2 hi hM hf1 hP hD hS hl
      have hml9 := congrArg List.length hM
      rw [List.length_append, List.length_take] at hml9
      refine lv_iload_n hx hb d_Wr_putCodes_2 rfl (lv_at hl 2 rfl) ?_
      refine lv_aload_n hx hb d_Wr_putCodes_3 rfl (lv_at hl 1 rfl) ?_
      refine ck_cV (C := "ReadMapper$Codes") (ci := 0) (rest := [.int (nI i)]) (wr := [(wa, .inr (6, [.ref wl])), (wl, .inr (0, [.ref wlb, .int (nI M.length)])), (wlb, .inl (cA 0, 128, .inl f1))]) (ws2 := fun u => [(wa, .inr (6, [.ref wl])), (wl, .inr (0, [.ref wlb, .int (nI M.length)])), (wlb, .inl (cA 0, 128, .inl f1)), (a, .inr (0, [.ref b, .int (nI C.length)])), (b, .inl (cA 0, cap, .inl g))]) (c_Co_size l D cA K a b cap g C hcc) hx hb hml hown hts hK hE hA hP hD hS k_Co_size m_347 (by decide) 3 rfl rfl rfl hl.1 rfl (Nat.le_of_ble_eq_true rfl) d_Wr_putCodes_4  [3, 4] [0, 1, 2] [0, 1, 2, 3, 4] rfl rfl (by decide) (fun _ => rfl) (fun r4 u4 H locs hq4 hP hD hS => ?_)
      try dsimp only at hq4
      have hP : va_P D vwCl [(wa, .inr (6, [.ref wl])), (wl, .inr (0, [.ref wlb, .int (nI M.length)])), (wlb, .inl (cA 0, 128, .inl f1)), (a, .inr (0, [.ref b, .int (nI C.length)])), (b, .inl (cA 0, cap, .inl g))] H := hP
      have hD : va_D A [(wa, .inr (6, [.ref wl])), (wl, .inr (0, [.ref wlb, .int (nI M.length)])), (wlb, .inl (cA 0, 128, .inl f1)), (a, .inr (0, [.ref b, .int (nI C.length)])), (b, .inl (cA 0, cap, .inl g))] := hD
      subst r4
      refine wn_icmp_ge (by omega) (by omega) (tgt := 28) hx hb d_Wr_putCodes_7 (by decide) ?_ ?_
      · intro h7
        exact hret (f1, M) _ _ _ 28 d_Wr_putCodes_28 ⟨hf1, by rw [hM, List.take_of_length_le h7]⟩ hP hD hS
      · intro h7
        refine lv_aload_n hx hb d_Wr_putCodes_10 rfl (lv_at hl 0 rfl) ?_
        refine va_get (C := RX6) (T := TX6) (N := 1) hx hb hts inX6 hown hK hP 0 rfl rfl 0 (by decide) (hts _ m_166) (fun _ h9 => h9) rfl d_Wr_putCodes_11 ?_
        refine lv_aload_n hx hb d_Wr_putCodes_14 rfl (lv_at hl 1 rfl) ?_
        refine lv_iload_n hx hb d_Wr_putCodes_15 rfl (lv_at hl 2 rfl) ?_
        refine ck_cV (C := "ReadMapper$Codes") (ci := 0) (rest := [.ref wl]) (wr := [(wa, .inr (6, [.ref wl])), (wl, .inr (0, [.ref wlb, .int (nI M.length)])), (wlb, .inl (cA 0, 128, .inl f1))]) (ws2 := fun u => [(wa, .inr (6, [.ref wl])), (wl, .inr (0, [.ref wlb, .int (nI M.length)])), (wlb, .inl (cA 0, 128, .inl f1)), (a, .inr (0, [.ref b, .int (nI C.length)])), (b, .inl (cA 0, cap, .inl g))]) (c_Co_at l D cA K a b cap g C (nI i) hcc) hx hb hml hown hts hK hE hA hP hD hS k_Co_at m_348 (by decide) 3 rfl rfl rfl hl.1 rfl (Nat.le_of_ble_eq_true rfl) d_Wr_putCodes_16  [3, 4] [0, 1, 2] [0, 1, 2, 3, 4] rfl rfl (by decide) (fun _ => rfl) (fun r16 u16 H locs hq16 hP hD hS => ?_)
        try dsimp only at hq16
        have hP : va_P D vwCl [(wa, .inr (6, [.ref wl])), (wl, .inr (0, [.ref wlb, .int (nI M.length)])), (wlb, .inl (cA 0, 128, .inl f1)), (a, .inr (0, [.ref b, .int (nI C.length)])), (b, .inl (cA 0, cap, .inl g))] H := hP
        have hD : va_D A [(wa, .inr (6, [.ref wl])), (wl, .inr (0, [.ref wlb, .int (nI M.length)])), (wlb, .inl (cA 0, 128, .inl f1)), (a, .inr (0, [.ref b, .int (nI C.length)])), (b, .inl (cA 0, cap, .inl g))] := hD
        subst r16
        refine wn_eq (y := C.getD i 0) (at_n (by omega) (by omega)) ?_
        refine ck_cVv (C := "ReadMapper$Codes") (ci := 0) (rest := []) (wr := [(wa, .inr (6, [.ref wl])), (a, .inr (0, [.ref b, .int (nI C.length)])), (b, .inl (cA 0, cap, .inl g))]) (ws2 := fun u => [(wa, .inr (6, [.ref wl])), (wl, .inr (0, [.ref wlb, .int (nI ((M ++ [(C.getD i 0)]).length))])), (wlb, .inl (cA 0, 128, .inl u)), (a, .inr (0, [.ref b, .int (nI C.length)])), (b, .inl (cA 0, cap, .inl g))]) (c_Co_append l D cA K wl wlb 128 f1 M (C.getD i 0) (by first | assumption | omega) (by first | assumption | omega)) hx hb hml hown hts hK hE hA hP hD hS k_Co_append m_349 (by decide) 1 rfl rfl rfl hl.1 rfl (Nat.le_of_ble_eq_true rfl) d_Wr_putCodes_19  [1, 2] [0, 3, 4] [0, 3, 4, 1, 2] rfl rfl (by decide) (fun _ => rfl) (fun u19 H locs hq19 hP hD hS => ?_)
        obtain ⟨f2_19, rfl⟩ : ∃ z, z = u19 := ⟨_, rfl⟩
        try dsimp only at hq19
        have hP : va_P D vwCl [(wa, .inr (6, [.ref wl])), (wl, .inr (0, [.ref wlb, .int (nI ((M ++ [(C.getD i 0)]).length))])), (wlb, .inl (cA 0, 128, .inl f2_19)), (a, .inr (0, [.ref b, .int (nI C.length)])), (b, .inl (cA 0, cap, .inl g))] H := hP
        have hD : va_D A [(wa, .inr (6, [.ref wl])), (wl, .inr (0, [.ref wlb, .int (nI ((M ++ [(C.getD i 0)]).length))])), (wlb, .inl (cA 0, 128, .inl f2_19)), (a, .inr (0, [.ref b, .int (nI C.length)])), (b, .inl (cA 0, cap, .inl g))] := hD
        refine lv_iinc (k := 2) (v := nI (i + 1)) (lv' := [(2, .int (nI (i + 1))), (0, .ref wa), (1, .ref a)]) hx hb d_Wr_putCodes_22 hl rfl (wi_inc1 _) (by decide) rfl (fun ls hl => ?_)
        refine lv_goto (tgt := 2) hx hb d_Wr_putCodes_25 (by decide) ?_
        exact ih2 _ (by omega) (i + 1) (M ++ [(C.getD i 0)]) f2_19 _ _ _ rfl (by first | assumption | omega) (by rw [hM, List.append_assoc, li_take h7]) (by first | assumption | omega) hP hD hS (lv_sub hl [1, 2, 0] rfl)
  exact L2 _ 0 L f _ _ _ rfl (by first | assumption | omega) (by rw [List.take_zero, List.append_nil]) (by first | assumption | omega) hP hD hS (lv_sub hl [1, 2, 0] rfl)
theorem k_Wr_putCodes : cf_V y_Wr_putCodes b_Wr_putCodes 3 none "ReadMapper$RecordWriter" 1 := ⟨⟨m_345, (wm_s (q := (y_Wr_putCodes, 1)) (by decide +kernel)), m_7, m_346⟩, by decide +kernel⟩
set_option maxHeartbeats 4000000 in
set_option maxRecDepth 100000 in
theorem c_Wr_putCodesTurned (l : Launch) (D : va_G) (cA : Nat → ClassId) (K : Nat → Nat) (wa wl wlb : Nat) (f : Nat → Int32) (L : List Int32) (a b cap : Nat) (g : Nat → Int32) (C : List Int32) (hc : cd_r 128 f L) (hcc : cd_r cap g C) (hr : L.length + C.length ≤ 128) : ck_V l y_Wr_putCodesTurned (Cond.code y_Wr_putCodesTurned b_Wr_putCodesTurned 3 none :: w_all) 2 D cA K [.ref wa, .ref a] [(wa, .inr (6, [.ref wl])), (wl, .inr (0, [.ref wlb, .int (nI L.length)])), (wlb, .inl (cA 0, 128, .inl f)), (a, .inr (0, [.ref b, .int (nI C.length)])), (b, .inl (cA 0, cap, .inl g))] (fun (u : (Nat → Int32) × (List Int32)) => cd_r 128 u.1 u.2 ∧ u.2 = L ++ (C.reverse)) (fun u => [(wa, .inr (6, [.ref wl])), (wl, .inr (0, [.ref wlb, .int (nI u.2.length)])), (wlb, .inl (cA 0, 128, .inl u.1)), (a, .inr (0, [.ref b, .int (nI C.length)])), (b, .inl (cA 0, cap, .inl g))]) := by
  refine ck_mkV (by decide) (Nat.le_of_ble_eq_true rfl) ?_
  intro pG eG sG mG argsG belowG methG cG Q A H locs ls hx hb hml hown hts hK hE hA hP hD hS hl hret
  have hl : lv_has ls 3 [(0, .ref wa), (1, .ref a)] := hl
  have hl2 := cd_len hcc
  refine lv_aload_n hx hb d_Wr_putCodesTurned_0 rfl (lv_at hl 1 rfl) ?_
  refine ck_cV (C := "ReadMapper$Codes") (ci := 0) (rest := []) (wr := [(wa, .inr (6, [.ref wl])), (wl, .inr (0, [.ref wlb, .int (nI L.length)])), (wlb, .inl (cA 0, 128, .inl f))]) (ws2 := fun u => [(wa, .inr (6, [.ref wl])), (wl, .inr (0, [.ref wlb, .int (nI L.length)])), (wlb, .inl (cA 0, 128, .inl f)), (a, .inr (0, [.ref b, .int (nI C.length)])), (b, .inl (cA 0, cap, .inl g))]) (c_Co_size l D cA K a b cap g C hcc) hx hb hml hown hts hK hE hA hP hD hS k_Co_size m_347 (by decide) 3 rfl rfl rfl hl.1 rfl (Nat.le_of_ble_eq_true rfl) d_Wr_putCodesTurned_1  [3, 4] [0, 1, 2] [0, 1, 2, 3, 4] rfl rfl (by decide) (fun _ => rfl) (fun r1 u1 H locs hq1 hP hD hS => ?_)
  try dsimp only at hq1
  have hP : va_P D vwCl [(wa, .inr (6, [.ref wl])), (wl, .inr (0, [.ref wlb, .int (nI L.length)])), (wlb, .inl (cA 0, 128, .inl f)), (a, .inr (0, [.ref b, .int (nI C.length)])), (b, .inl (cA 0, cap, .inl g))] H := hP
  have hD : va_D A [(wa, .inr (6, [.ref wl])), (wl, .inr (0, [.ref wlb, .int (nI L.length)])), (wlb, .inl (cA 0, 128, .inl f)), (a, .inr (0, [.ref b, .int (nI C.length)])), (b, .inl (cA 0, cap, .inl g))] := hD
  subst r1
  refine lv_iconst (v := 1) hx hb d_Wr_putCodesTurned_4 (by decide) ?_
  refine lv_isub hx hb d_Wr_putCodesTurned_5 ?_
  refine lv_istore_n (lv' := [(2, .int ((nI C.length) - 1)), (0, .ref wa), (1, .ref a)]) hx hb d_Wr_putCodesTurned_6 rfl hl (by decide) rfl (fun ls hl => ?_)
  have L7 : ∀ (nG : Nat) (o : Nat) (M : List Int32) (f1 : Nat → Int32) (H : Heap) (locs : List Loc) (ls : Array Slot), o = nG → (o ≤ C.length) → (M = L ++ (C.drop o).reverse) → (cd_r 128 f1 M) →  va_P D vwCl [(wa, .inr (6, [.ref wl])), (wl, .inr (0, [.ref wlb, .int (nI M.length)])), (wlb, .inl (cA 0, 128, .inl f1)), (a, .inr (0, [.ref b, .int (nI C.length)])), (b, .inl (cA 0, cap, .inl g))] H → va_D A [(wa, .inr (6, [.ref wl])), (wl, .inr (0, [.ref wlb, .int (nI M.length)])), (wlb, .inl (cA 0, 128, .inl f1)), (a, .inr (0, [.ref b, .int (nI C.length)])), (b, .inl (cA 0, cap, .inl g))] → va_S A sG.heap H locs → lv_has ls 3 [(0, .ref wa), (1, .ref a), (2, .int (nI o - 1))] → W pG l eG (rm_d 2) sG mG argsG belowG methG cG H locs 0 0 Q (F0 mG 7 ls []) := by
    intro nG
    induction nG using Nat.strongRecOn with
    | ind nG ih7 =>
      intro o M f1 H locs ls hn7 ho hM hf1 hP hD hS hl
      have hml9 := congrArg List.length hM
      rw [List.length_append, List.length_reverse, List.length_drop] at hml9
      refine lv_iload_n hx hb d_Wr_putCodesTurned_7 rfl (lv_at hl 2 rfl) ?_
      refine lv_if_lt (tgt := 29) hx hb d_Wr_putCodesTurned_8 (by decide) ?_ ?_
      · intro h8
        exact hret (f1, M) _ _ _ 29 d_Wr_putCodesTurned_29 (by have ho0 := in_zero2 (by omega) h8; subst ho0; exact ⟨hf1, hM⟩) hP hD hS
      · intro h8
        obtain ⟨k, rfl⟩ : ∃ k, o = k + 1 := by
          cases o with
          | zero => exact absurd (by decide) h8
          | succ k => exact ⟨k, rfl⟩
        have hl : lv_has ls 3 [(0, .ref wa), (1, .ref a), (2, .int (nI k))] := by rw [nI_pred] at hl; exact hl
        refine lv_aload_n hx hb d_Wr_putCodesTurned_11 rfl (lv_at hl 0 rfl) ?_
        refine va_get (C := RX6) (T := TX6) (N := 1) hx hb hts inX6 hown hK hP 0 rfl rfl 0 (by decide) (hts _ m_166) (fun _ h9 => h9) rfl d_Wr_putCodesTurned_12 ?_
        refine lv_aload_n hx hb d_Wr_putCodesTurned_15 rfl (lv_at hl 1 rfl) ?_
        refine lv_iload_n hx hb d_Wr_putCodesTurned_16 rfl (lv_at hl 2 rfl) ?_
        refine ck_cV (C := "ReadMapper$Codes") (ci := 0) (rest := [.ref wl]) (wr := [(wa, .inr (6, [.ref wl])), (wl, .inr (0, [.ref wlb, .int (nI M.length)])), (wlb, .inl (cA 0, 128, .inl f1))]) (ws2 := fun u => [(wa, .inr (6, [.ref wl])), (wl, .inr (0, [.ref wlb, .int (nI M.length)])), (wlb, .inl (cA 0, 128, .inl f1)), (a, .inr (0, [.ref b, .int (nI C.length)])), (b, .inl (cA 0, cap, .inl g))]) (c_Co_at l D cA K a b cap g C (nI k) hcc) hx hb hml hown hts hK hE hA hP hD hS k_Co_at m_348 (by decide) 3 rfl rfl rfl hl.1 rfl (Nat.le_of_ble_eq_true rfl) d_Wr_putCodesTurned_17  [3, 4] [0, 1, 2] [0, 1, 2, 3, 4] rfl rfl (by decide) (fun _ => rfl) (fun r17 u17 H locs hq17 hP hD hS => ?_)
        try dsimp only at hq17
        have hP : va_P D vwCl [(wa, .inr (6, [.ref wl])), (wl, .inr (0, [.ref wlb, .int (nI M.length)])), (wlb, .inl (cA 0, 128, .inl f1)), (a, .inr (0, [.ref b, .int (nI C.length)])), (b, .inl (cA 0, cap, .inl g))] H := hP
        have hD : va_D A [(wa, .inr (6, [.ref wl])), (wl, .inr (0, [.ref wlb, .int (nI M.length)])), (wlb, .inl (cA 0, 128, .inl f1)), (a, .inr (0, [.ref b, .int (nI C.length)])), (b, .inl (cA 0, cap, .inl g))] := hD
        subst r17
        refine wn_eq (y := C.getD k 0) (at_n (by omega) (by omega)) ?_
        refine ck_cVv (C := "ReadMapper$Codes") (ci := 0) (rest := []) (wr := [(wa, .inr (6, [.ref wl])), (a, .inr (0, [.ref b, .int (nI C.length)])), (b, .inl (cA 0, cap, .inl g))]) (ws2 := fun u => [(wa, .inr (6, [.ref wl])), (wl, .inr (0, [.ref wlb, .int (nI ((M ++ [(C.getD k 0)]).length))])), (wlb, .inl (cA 0, 128, .inl u)), (a, .inr (0, [.ref b, .int (nI C.length)])), (b, .inl (cA 0, cap, .inl g))]) (c_Co_append l D cA K wl wlb 128 f1 M (C.getD k 0) (by first | assumption | omega) (by first | assumption | omega)) hx hb hml hown hts hK hE hA hP hD hS k_Co_append m_349 (by decide) 1 rfl rfl rfl hl.1 rfl (Nat.le_of_ble_eq_true rfl) d_Wr_putCodesTurned_20  [1, 2] [0, 3, 4] [0, 3, 4, 1, 2] rfl rfl (by decide) (fun _ => rfl) (fun u20 H locs hq20 hP hD hS => ?_)
        obtain ⟨f2_20, rfl⟩ : ∃ z, z = u20 := ⟨_, rfl⟩
        try dsimp only at hq20
        have hP : va_P D vwCl [(wa, .inr (6, [.ref wl])), (wl, .inr (0, [.ref wlb, .int (nI ((M ++ [(C.getD k 0)]).length))])), (wlb, .inl (cA 0, 128, .inl f2_20)), (a, .inr (0, [.ref b, .int (nI C.length)])), (b, .inl (cA 0, cap, .inl g))] H := hP
        have hD : va_D A [(wa, .inr (6, [.ref wl])), (wl, .inr (0, [.ref wlb, .int (nI ((M ++ [(C.getD k 0)]).length))])), (wlb, .inl (cA 0, 128, .inl f2_20)), (a, .inr (0, [.ref b, .int (nI C.length)])), (b, .inl (cA 0, cap, .inl g))] := hD
        refine lv_iinc (k := 2) (v := nI k - 1) (lv' := [(2, .int (nI k - 1)), (0, .ref wa), (1, .ref a)]) hx hb d_Wr_putCodesTurned_23 hl rfl (wi_m1 _) (by decide) rfl (fun ls hl => ?_)
        refine lv_goto (tgt := 7) hx hb d_Wr_putCodesTurned_26 (by decide) ?_
        exact ih7 _ (by omega) k (M ++ [C.getD k 0]) f2_20 _ _ _ rfl (by first | assumption | omega) (by rw [hM, List.append_assoc, rv_s (by omega)]) hq20 hP hD hS (lv_sub hl [1, 2, 0] rfl)
  exact L7 _ C.length L f _ _ _ rfl (by first | assumption | omega) (by rw [List.drop_length]; exact (List.append_nil _).symm) (by first | assumption | omega) hP hD hS (lv_sub hl [1, 2, 0] rfl)
theorem k_Wr_putCodesTurned : cf_V y_Wr_putCodesTurned b_Wr_putCodesTurned 3 none "ReadMapper$RecordWriter" 1 := ⟨⟨m_405, (wm_s (q := (y_Wr_putCodesTurned, 1)) (by decide +kernel)), m_7, m_406⟩, by decide +kernel⟩
set_option maxHeartbeats 4000000 in
set_option maxRecDepth 100000 in
theorem c_Wr_putText (l : Launch) (D : va_G) (cA : Nat → ClassId) (K : Nat → Nat) (wa wl wlb : Nat) (f : Nat → Int32) (L : List Int32) (ti : Nat) (hc : cd_r 128 f L) (hti : ti < 5) (hr : L.length + st_l.getD ti 0 ≤ 128) : ck_V l y_Wr_putText (Cond.code y_Wr_putText b_Wr_putText 3 none :: w_all) 5 D cA K [.ref wa, .ref (K (10 + ti))] [(wa, .inr (6, [.ref wl])), (wl, .inr (0, [.ref wlb, .int (nI L.length)])), (wlb, .inl (cA 0, 128, .inl f))] (fun (u : (Nat → Int32) × (List Int32)) => cd_r 128 u.1 u.2 ∧ u.2 = L ++ (st_b.getD ti [])) (fun u => [(wa, .inr (6, [.ref wl])), (wl, .inr (0, [.ref wlb, .int (nI u.2.length)])), (wlb, .inl (cA 0, 128, .inl u.1))]) := by
  refine ck_mkV (by decide) (Nat.le_of_ble_eq_true rfl) ?_
  intro pG eG sG mG argsG belowG methG cG Q A H locs ls hx hb hml hown hts hK hE hA hP hD hS hl hret
  have hl : lv_has ls 3 [(0, .ref wa), (1, .ref (K (10 + ti)))] := hl
  obtain ⟨ht1, ht2, ht3⟩ := st_all ti hti
  refine lv_iconst (v := nI 0) hx hb d_Wr_putText_0 (by decide) ?_
  refine lv_istore_n (lv' := [(2, .int (nI 0)), (0, .ref wa), (1, .ref (K (10 + ti)))]) hx hb d_Wr_putText_1 rfl hl (by decide) rfl (fun ls hl => ?_)
  have L2 : ∀ (nG : Nat) (i : Nat) (M : List Int32) (f1 : Nat → Int32) (H : Heap) (locs : List Loc) (ls : Array Slot), st_l.getD ti 0 - i = nG → (i ≤ st_l.getD ti 0) → (M = L ++ (st_b.getD ti []).take i) → (cd_r 128 f1 M) →  va_P D vwCl [(wa, .inr (6, [.ref wl])), (wl, .inr (0, [.ref wlb, .int (nI M.length)])), (wlb, .inl (cA 0, 128, .inl f1))] H → va_D A [(wa, .inr (6, [.ref wl])), (wl, .inr (0, [.ref wlb, .int (nI M.length)])), (wlb, .inl (cA 0, 128, .inl f1))] → va_S A sG.heap H locs → lv_has ls 3 [(0, .ref wa), (1, .ref (K (10 + ti))), (2, .int (nI i))] → W pG l eG (rm_d 5) sG mG argsG belowG methG cG H locs 0 0 Q (F0 mG 2 ls []) := by
    intro nG
    induction nG using Nat.strongRecOn with
    | ind nG ih2 =>
      intro i M f1 H locs ls hn2 hi hM hf1 hP hD hS hl
      have hml9 := congrArg List.length hM
      rw [List.length_append, List.length_take, ← ht1] at hml9
      refine lv_iload_n hx hb d_Wr_putText_2 rfl (lv_at hl 2 rfl) ?_
      refine lv_aload_n hx hb d_Wr_putText_3 rfl (lv_at hl 1 rfl) ?_
      refine ck_cVx (C := "java/lang/String") (rest := [.int (nI i)]) (wr := [(wa, .inr (6, [.ref wl])), (wl, .inr (0, [.ref wlb, .int (nI M.length)])), (wlb, .inl (cA 0, 128, .inl f1))]) (ws2 := fun u => [(wa, .inr (6, [.ref wl])), (wl, .inr (0, [.ref wlb, .int (nI M.length)])), (wlb, .inl (cA 0, 128, .inl f1))]) (c_Str_length l D cA K ti hti) hx hb hml hown hts hK hE hA hP hD hS k_Str_length m_355 (by decide) (vk_recv (adK := fun i => K (10 + i)) (i := ti) hE.2.2.2.2.2.2.1 hti hS) rfl hl.1 rfl (Nat.le_of_ble_eq_true rfl) d_Wr_putText_4 [] [0, 1, 2] [0, 1, 2] rfl rfl (by decide) (fun _ => rfl) (fun r4 u4 H locs hq4 hP hD hS => ?_)
      try dsimp only at hq4
      subst hq4
      have hP : va_P D vwCl [(wa, .inr (6, [.ref wl])), (wl, .inr (0, [.ref wlb, .int (nI M.length)])), (wlb, .inl (cA 0, 128, .inl f1))] H := hP
      have hD : va_D A [(wa, .inr (6, [.ref wl])), (wl, .inr (0, [.ref wlb, .int (nI M.length)])), (wlb, .inl (cA 0, 128, .inl f1))] := hD
      refine wn_icmp_ge (by omega) (by omega) (tgt := 28) hx hb d_Wr_putText_7 (by decide) ?_ ?_
      · intro h7
        exact hret (f1, M) _ _ _ 28 d_Wr_putText_28 ⟨hf1, by rw [hM, List.take_of_length_le (by omega)]⟩ hP hD hS
      · intro h7
        refine lv_aload_n hx hb d_Wr_putText_10 rfl (lv_at hl 0 rfl) ?_
        refine va_get (C := RX6) (T := TX6) (N := 1) hx hb hts inX6 hown hK hP 0 rfl rfl 0 (by decide) (hts _ m_166) (fun _ h9 => h9) rfl d_Wr_putText_11 ?_
        refine lv_aload_n hx hb d_Wr_putText_14 rfl (lv_at hl 1 rfl) ?_
        refine lv_iload_n hx hb d_Wr_putText_15 rfl (lv_at hl 2 rfl) ?_
        refine ck_cVx (C := "java/lang/String") (rest := [.ref wl]) (wr := [(wa, .inr (6, [.ref wl])), (wl, .inr (0, [.ref wlb, .int (nI M.length)])), (wlb, .inl (cA 0, 128, .inl f1))]) (ws2 := fun u => [(wa, .inr (6, [.ref wl])), (wl, .inr (0, [.ref wlb, .int (nI M.length)])), (wlb, .inl (cA 0, 128, .inl f1))]) (c_Str_charAt l D cA K ti i hti h7) hx hb hml hown hts hK hE hA hP hD hS k_Str_charAt m_356 (by decide) (vk_recv (adK := fun i => K (10 + i)) (i := ti) hE.2.2.2.2.2.2.1 hti hS) rfl hl.1 rfl (Nat.le_of_ble_eq_true rfl) d_Wr_putText_16 [] [0, 1, 2] [0, 1, 2] rfl rfl (by decide) (fun _ => rfl) (fun r16 u16 H locs hq16 hP hD hS => ?_)
        try dsimp only at hq16
        subst hq16
        have hP : va_P D vwCl [(wa, .inr (6, [.ref wl])), (wl, .inr (0, [.ref wlb, .int (nI M.length)])), (wlb, .inl (cA 0, 128, .inl f1))] H := hP
        have hD : va_D A [(wa, .inr (6, [.ref wl])), (wl, .inr (0, [.ref wlb, .int (nI M.length)])), (wlb, .inl (cA 0, 128, .inl f1))] := hD
        refine ck_cVv (C := "ReadMapper$Codes") (ci := 0) (rest := []) (wr := [(wa, .inr (6, [.ref wl]))]) (ws2 := fun u => [(wa, .inr (6, [.ref wl])), (wl, .inr (0, [.ref wlb, .int (nI ((M ++ [(st_ch ti i)]).length))])), (wlb, .inl (cA 0, 128, .inl u))]) (c_Co_append l D cA K wl wlb 128 f1 M (st_ch ti i) (by first | assumption | omega) (by first | assumption | omega)) hx hb hml hown hts hK hE hA hP hD hS k_Co_append m_349 (by decide) 1 rfl rfl rfl hl.1 rfl (Nat.le_of_ble_eq_true rfl) d_Wr_putText_19  [1, 2] [0] [0, 1, 2] rfl rfl (by decide) (fun _ => rfl) (fun u19 H locs hq19 hP hD hS => ?_)
        obtain ⟨f2_19, rfl⟩ : ∃ z, z = u19 := ⟨_, rfl⟩
        try dsimp only at hq19
        have hP : va_P D vwCl [(wa, .inr (6, [.ref wl])), (wl, .inr (0, [.ref wlb, .int (nI ((M ++ [(st_ch ti i)]).length))])), (wlb, .inl (cA 0, 128, .inl f2_19))] H := hP
        have hD : va_D A [(wa, .inr (6, [.ref wl])), (wl, .inr (0, [.ref wlb, .int (nI ((M ++ [(st_ch ti i)]).length))])), (wlb, .inl (cA 0, 128, .inl f2_19))] := hD
        refine lv_iinc (k := 2) (v := nI (i + 1)) (lv' := [(2, .int (nI (i + 1))), (0, .ref wa), (1, .ref (K (10 + ti)))]) hx hb d_Wr_putText_22 hl rfl (wi_inc1 _) (by decide) rfl (fun ls hl => ?_)
        refine lv_goto (tgt := 2) hx hb d_Wr_putText_25 (by decide) ?_
        exact ih2 _ (by omega) (i + 1) (M ++ [(st_ch ti i)]) f2_19 _ _ _ rfl (by first | assumption | omega) (by rw [hM, List.append_assoc, ← li_take (by omega)]; rfl) (by first | assumption | omega) hP hD hS (lv_sub hl [1, 2, 0] rfl)
  exact L2 _ 0 L f _ _ _ rfl (by first | assumption | omega) (by rw [List.take_zero, List.append_nil]) (by first | assumption | omega) hP hD hS (lv_sub hl [1, 2, 0] rfl)
theorem k_Wr_putText : cf_V y_Wr_putText b_Wr_putText 3 none "ReadMapper$RecordWriter" 1 := ⟨⟨m_353, (wm_s (q := (y_Wr_putText, 1)) (by decide +kernel)), m_7, m_354⟩, by decide +kernel⟩
