theorem d_Co_size_0 : decode b_Co_size 0 = .ok (.aload_n 0, 1) := by decide +kernel
theorem d_Co_size_1 : decode b_Co_size 1 = .ok (.getfield 15, 3) := by decide +kernel
theorem d_Co_size_4 : decode b_Co_size 4 = .ok (.ireturn, 1) := by decide +kernel
theorem d_Co_room_0 : decode b_Co_room 0 = .ok (.aload_n 0, 1) := by decide +kernel
theorem d_Co_room_1 : decode b_Co_room 1 = .ok (.getfield 9, 3) := by decide +kernel
theorem d_Co_room_4 : decode b_Co_room 4 = .ok (.arraylength, 1) := by decide +kernel
theorem d_Co_room_5 : decode b_Co_room 5 = .ok (.aload_n 0, 1) := by decide +kernel
theorem d_Co_room_6 : decode b_Co_room 6 = .ok (.getfield 15, 3) := by decide +kernel
theorem d_Co_room_9 : decode b_Co_room 9 = .ok (.isub, 1) := by decide +kernel
theorem d_Co_room_10 : decode b_Co_room 10 = .ok (.ireturn, 1) := by decide +kernel
theorem d_Co_at_0 : decode b_Co_at 0 = .ok (.iload_n 1, 1) := by decide +kernel
theorem d_Co_at_1 : decode b_Co_at 1 = .ok (.ifCond .lt 20, 3) := by decide +kernel
theorem d_Co_at_4 : decode b_Co_at 4 = .ok (.iload_n 1, 1) := by decide +kernel
theorem d_Co_at_5 : decode b_Co_at 5 = .ok (.aload_n 0, 1) := by decide +kernel
theorem d_Co_at_6 : decode b_Co_at 6 = .ok (.getfield 15, 3) := by decide +kernel
theorem d_Co_at_9 : decode b_Co_at 9 = .ok (.if_icmp .ge 12, 3) := by decide +kernel
theorem d_Co_at_12 : decode b_Co_at 12 = .ok (.aload_n 0, 1) := by decide +kernel
theorem d_Co_at_13 : decode b_Co_at 13 = .ok (.getfield 9, 3) := by decide +kernel
theorem d_Co_at_16 : decode b_Co_at 16 = .ok (.iload_n 1, 1) := by decide +kernel
theorem d_Co_at_17 : decode b_Co_at 17 = .ok (.iaload, 1) := by decide +kernel
theorem d_Co_at_18 : decode b_Co_at 18 = .ok (.goto 4, 3) := by decide +kernel
theorem d_Co_at_21 : decode b_Co_at 21 = .ok (.iconst (-1), 1) := by decide +kernel
theorem d_Co_at_22 : decode b_Co_at 22 = .ok (.ireturn, 1) := by decide +kernel
theorem d_Co_set_0 : decode b_Co_set 0 = .ok (.iload_n 1, 1) := by decide +kernel
theorem d_Co_set_1 : decode b_Co_set 1 = .ok (.ifCond .lt 18, 3) := by decide +kernel
theorem d_Co_set_4 : decode b_Co_set 4 = .ok (.iload_n 1, 1) := by decide +kernel
theorem d_Co_set_5 : decode b_Co_set 5 = .ok (.aload_n 0, 1) := by decide +kernel
theorem d_Co_set_6 : decode b_Co_set 6 = .ok (.getfield 15, 3) := by decide +kernel
theorem d_Co_set_9 : decode b_Co_set 9 = .ok (.if_icmp .ge 10, 3) := by decide +kernel
theorem d_Co_set_12 : decode b_Co_set 12 = .ok (.aload_n 0, 1) := by decide +kernel
theorem d_Co_set_13 : decode b_Co_set 13 = .ok (.getfield 9, 3) := by decide +kernel
theorem d_Co_set_16 : decode b_Co_set 16 = .ok (.iload_n 1, 1) := by decide +kernel
theorem d_Co_set_17 : decode b_Co_set 17 = .ok (.iload_n 2, 1) := by decide +kernel
theorem d_Co_set_18 : decode b_Co_set 18 = .ok (.iastore, 1) := by decide +kernel
theorem d_Co_set_19 : decode b_Co_set 19 = .ok (.return_, 1) := by decide +kernel
theorem d_Co_append_0 : decode b_Co_append 0 = .ok (.aload_n 0, 1) := by decide +kernel
theorem d_Co_append_1 : decode b_Co_append 1 = .ok (.getfield 15, 3) := by decide +kernel
theorem d_Co_append_4 : decode b_Co_append 4 = .ok (.aload_n 0, 1) := by decide +kernel
theorem d_Co_append_5 : decode b_Co_append 5 = .ok (.getfield 9, 3) := by decide +kernel
theorem d_Co_append_8 : decode b_Co_append 8 = .ok (.arraylength, 1) := by decide +kernel
theorem d_Co_append_9 : decode b_Co_append 9 = .ok (.if_icmp .ge 23, 3) := by decide +kernel
theorem d_Co_append_12 : decode b_Co_append 12 = .ok (.aload_n 0, 1) := by decide +kernel
theorem d_Co_append_13 : decode b_Co_append 13 = .ok (.getfield 9, 3) := by decide +kernel
theorem d_Co_append_16 : decode b_Co_append 16 = .ok (.aload_n 0, 1) := by decide +kernel
theorem d_Co_append_17 : decode b_Co_append 17 = .ok (.getfield 15, 3) := by decide +kernel
theorem d_Co_append_20 : decode b_Co_append 20 = .ok (.iload_n 1, 1) := by decide +kernel
theorem d_Co_append_21 : decode b_Co_append 21 = .ok (.iastore, 1) := by decide +kernel
theorem d_Co_append_22 : decode b_Co_append 22 = .ok (.aload_n 0, 1) := by decide +kernel
theorem d_Co_append_23 : decode b_Co_append 23 = .ok (.dup, 1) := by decide +kernel
theorem d_Co_append_24 : decode b_Co_append 24 = .ok (.getfield 15, 3) := by decide +kernel
theorem d_Co_append_27 : decode b_Co_append 27 = .ok (.iconst 1, 1) := by decide +kernel
theorem d_Co_append_28 : decode b_Co_append 28 = .ok (.iadd, 1) := by decide +kernel
theorem d_Co_append_29 : decode b_Co_append 29 = .ok (.putfield 15, 3) := by decide +kernel
theorem d_Co_append_32 : decode b_Co_append 32 = .ok (.return_, 1) := by decide +kernel
theorem d_Co_shorten_0 : decode b_Co_shorten 0 = .ok (.aload_n 0, 1) := by decide +kernel
theorem d_Co_shorten_1 : decode b_Co_shorten 1 = .ok (.getfield 15, 3) := by decide +kernel
theorem d_Co_shorten_4 : decode b_Co_shorten 4 = .ok (.ifCond .le 13, 3) := by decide +kernel
theorem d_Co_shorten_7 : decode b_Co_shorten 7 = .ok (.aload_n 0, 1) := by decide +kernel
theorem d_Co_shorten_8 : decode b_Co_shorten 8 = .ok (.dup, 1) := by decide +kernel
theorem d_Co_shorten_9 : decode b_Co_shorten 9 = .ok (.getfield 15, 3) := by decide +kernel
theorem d_Co_shorten_12 : decode b_Co_shorten 12 = .ok (.iconst 1, 1) := by decide +kernel
theorem d_Co_shorten_13 : decode b_Co_shorten 13 = .ok (.isub, 1) := by decide +kernel
theorem d_Co_shorten_14 : decode b_Co_shorten 14 = .ok (.putfield 15, 3) := by decide +kernel
theorem d_Co_shorten_17 : decode b_Co_shorten 17 = .ok (.return_, 1) := by decide +kernel
theorem d_Co_clear_0 : decode b_Co_clear 0 = .ok (.aload_n 0, 1) := by decide +kernel
theorem d_Co_clear_1 : decode b_Co_clear 1 = .ok (.iconst 0, 1) := by decide +kernel
theorem d_Co_clear_2 : decode b_Co_clear 2 = .ok (.putfield 15, 3) := by decide +kernel
theorem d_Co_clear_5 : decode b_Co_clear 5 = .ok (.return_, 1) := by decide +kernel
theorem d_Co_copy_0 : decode b_Co_copy 0 = .ok (.aload_n 0, 1) := by decide +kernel
theorem d_Co_copy_1 : decode b_Co_copy 1 = .ok (.invokevirtual 19, 3) := by decide +kernel
theorem d_Co_copy_4 : decode b_Co_copy 4 = .ok (.iconst 0, 1) := by decide +kernel
theorem d_Co_copy_5 : decode b_Co_copy 5 = .ok (.istore_n 2, 1) := by decide +kernel
theorem d_Co_copy_6 : decode b_Co_copy 6 = .ok (.iload_n 2, 1) := by decide +kernel
theorem d_Co_copy_7 : decode b_Co_copy 7 = .ok (.aload_n 1, 1) := by decide +kernel
theorem d_Co_copy_8 : decode b_Co_copy 8 = .ok (.getfield 15, 3) := by decide +kernel
theorem d_Co_copy_11 : decode b_Co_copy 11 = .ok (.if_icmp .ge 19, 3) := by decide +kernel
theorem d_Co_copy_14 : decode b_Co_copy 14 = .ok (.aload_n 0, 1) := by decide +kernel
theorem d_Co_copy_15 : decode b_Co_copy 15 = .ok (.aload_n 1, 1) := by decide +kernel
theorem d_Co_copy_16 : decode b_Co_copy 16 = .ok (.getfield 9, 3) := by decide +kernel
theorem d_Co_copy_19 : decode b_Co_copy 19 = .ok (.iload_n 2, 1) := by decide +kernel
theorem d_Co_copy_20 : decode b_Co_copy 20 = .ok (.iaload, 1) := by decide +kernel
theorem d_Co_copy_21 : decode b_Co_copy 21 = .ok (.invokevirtual 22, 3) := by decide +kernel
theorem d_Co_copy_24 : decode b_Co_copy 24 = .ok (.iinc 2 1, 3) := by decide +kernel
theorem d_Co_copy_27 : decode b_Co_copy 27 = .ok (.goto (-21), 3) := by decide +kernel
theorem d_Co_copy_30 : decode b_Co_copy 30 = .ok (.return_, 1) := by decide +kernel
theorem d_Co_isSame_0 : decode b_Co_isSame 0 = .ok (.aload_n 0, 1) := by decide +kernel
theorem d_Co_isSame_1 : decode b_Co_isSame 1 = .ok (.getfield 15, 3) := by decide +kernel
theorem d_Co_isSame_4 : decode b_Co_isSame 4 = .ok (.aload_n 1, 1) := by decide +kernel
theorem d_Co_isSame_5 : decode b_Co_isSame 5 = .ok (.getfield 15, 3) := by decide +kernel
theorem d_Co_isSame_8 : decode b_Co_isSame 8 = .ok (.if_icmp .eq 5, 3) := by decide +kernel
theorem d_Co_isSame_11 : decode b_Co_isSame 11 = .ok (.iconst 0, 1) := by decide +kernel
theorem d_Co_isSame_12 : decode b_Co_isSame 12 = .ok (.ireturn, 1) := by decide +kernel
theorem d_Co_isSame_13 : decode b_Co_isSame 13 = .ok (.iconst 0, 1) := by decide +kernel
theorem d_Co_isSame_14 : decode b_Co_isSame 14 = .ok (.istore_n 2, 1) := by decide +kernel
theorem d_Co_isSame_15 : decode b_Co_isSame 15 = .ok (.iload_n 2, 1) := by decide +kernel
theorem d_Co_isSame_16 : decode b_Co_isSame 16 = .ok (.aload_n 0, 1) := by decide +kernel
theorem d_Co_isSame_17 : decode b_Co_isSame 17 = .ok (.getfield 15, 3) := by decide +kernel
theorem d_Co_isSame_20 : decode b_Co_isSame 20 = .ok (.if_icmp .ge 26, 3) := by decide +kernel
theorem d_Co_isSame_23 : decode b_Co_isSame 23 = .ok (.aload_n 0, 1) := by decide +kernel
theorem d_Co_isSame_24 : decode b_Co_isSame 24 = .ok (.getfield 9, 3) := by decide +kernel
theorem d_Co_isSame_27 : decode b_Co_isSame 27 = .ok (.iload_n 2, 1) := by decide +kernel
theorem d_Co_isSame_28 : decode b_Co_isSame 28 = .ok (.iaload, 1) := by decide +kernel
theorem d_Co_isSame_29 : decode b_Co_isSame 29 = .ok (.aload_n 1, 1) := by decide +kernel
theorem d_Co_isSame_30 : decode b_Co_isSame 30 = .ok (.getfield 9, 3) := by decide +kernel
theorem d_Co_isSame_33 : decode b_Co_isSame 33 = .ok (.iload_n 2, 1) := by decide +kernel
theorem d_Co_isSame_34 : decode b_Co_isSame 34 = .ok (.iaload, 1) := by decide +kernel
theorem d_Co_isSame_35 : decode b_Co_isSame 35 = .ok (.if_icmp .eq 5, 3) := by decide +kernel
theorem d_Co_isSame_38 : decode b_Co_isSame 38 = .ok (.iconst 0, 1) := by decide +kernel
theorem d_Co_isSame_39 : decode b_Co_isSame 39 = .ok (.ireturn, 1) := by decide +kernel
theorem d_Co_isSame_40 : decode b_Co_isSame 40 = .ok (.iinc 2 1, 3) := by decide +kernel
theorem d_Co_isSame_43 : decode b_Co_isSame 43 = .ok (.goto (-28), 3) := by decide +kernel
theorem d_Co_isSame_46 : decode b_Co_isSame 46 = .ok (.iconst 1, 1) := by decide +kernel
theorem d_Co_isSame_47 : decode b_Co_isSame 47 = .ok (.ireturn, 1) := by decide +kernel
theorem d_Co_next_0 : decode b_Co_next 0 = .ok (.iload_n 2, 1) := by decide +kernel
theorem d_Co_next_1 : decode b_Co_next 1 = .ok (.istore_n 3, 1) := by decide +kernel
theorem d_Co_next_2 : decode b_Co_next 2 = .ok (.iload_n 3, 1) := by decide +kernel
theorem d_Co_next_3 : decode b_Co_next 3 = .ok (.aload_n 0, 1) := by decide +kernel
theorem d_Co_next_4 : decode b_Co_next 4 = .ok (.getfield 15, 3) := by decide +kernel
theorem d_Co_next_7 : decode b_Co_next 7 = .ok (.if_icmp .ge 20, 3) := by decide +kernel
theorem d_Co_next_10 : decode b_Co_next 10 = .ok (.aload_n 0, 1) := by decide +kernel
theorem d_Co_next_11 : decode b_Co_next 11 = .ok (.iload_n 3, 1) := by decide +kernel
theorem d_Co_next_12 : decode b_Co_next 12 = .ok (.invokevirtual 26, 3) := by decide +kernel
theorem d_Co_next_15 : decode b_Co_next 15 = .ok (.iload_n 1, 1) := by decide +kernel
theorem d_Co_next_16 : decode b_Co_next 16 = .ok (.if_icmp .ne 5, 3) := by decide +kernel
theorem d_Co_next_19 : decode b_Co_next 19 = .ok (.iload_n 3, 1) := by decide +kernel
theorem d_Co_next_20 : decode b_Co_next 20 = .ok (.ireturn, 1) := by decide +kernel
theorem d_Co_next_21 : decode b_Co_next 21 = .ok (.iinc 3 1, 3) := by decide +kernel
theorem d_Co_next_24 : decode b_Co_next 24 = .ok (.goto (-22), 3) := by decide +kernel
theorem d_Co_next_27 : decode b_Co_next 27 = .ok (.aload_n 0, 1) := by decide +kernel
theorem d_Co_next_28 : decode b_Co_next 28 = .ok (.getfield 15, 3) := by decide +kernel
theorem d_Co_next_31 : decode b_Co_next 31 = .ok (.ireturn, 1) := by decide +kernel
set_option maxHeartbeats 4000000 in
set_option maxRecDepth 100000 in
theorem c_Co_size (l : Launch) (D : va_G) (cA : Nat → ClassId) (K : Nat → Nat) (a b cap : Nat) (f : Nat → Int32) (L : List Int32) (hc : cd_r cap f L) : ck_I l y_Co_size (Cond.code y_Co_size b_Co_size 1 (some .int) :: w_all) 1 D cA K [.ref a] [(a, .inr (0, [.ref b, .int (nI L.length)])), (b, .inl (cA 0, cap, .inl f))] (fun (r : Int32) (u : Unit) => r = nI L.length) (fun u => [(a, .inr (0, [.ref b, .int (nI L.length)])), (b, .inl (cA 0, cap, .inl f))]) := by
  refine ck_mkI (by decide) (fun _ _ _ => rfl) (Nat.le_of_ble_eq_true rfl) ?_
  intro p e s m args below meth c Q A H locs ls hx hb hml hown hts hK hE hA hP hD hS hl hret
  have hl : lv_has ls 1 [(0, .ref a)] := hl
  refine lv_aload_n hx hb d_Co_size_0 rfl (lv_at hl 0 rfl) ?_
  refine va_get (C := RX0) (T := TX0) (N := 2) hx hb hts inX0 hown hK hP 0 rfl rfl 1 (by decide) (hts _ m_37) (fun _ h9 => h9) rfl d_Co_size_1 ?_
  exact hret (nI L.length) () _ _ _ 4 d_Co_size_4 rfl hP hD hS
theorem k_Co_size : cf_V y_Co_size b_Co_size 1 (some .int) "ReadMapper$Codes" 0 := ⟨⟨m_329, m_330, m_2, m_331⟩, by decide +kernel⟩
set_option maxHeartbeats 4000000 in
set_option maxRecDepth 100000 in
theorem c_Co_room (l : Launch) (D : va_G) (cA : Nat → ClassId) (K : Nat → Nat) (a b cap : Nat) (f : Nat → Int32) (L : List Int32) (hc : cd_r cap f L) : ck_I l y_Co_room (Cond.code y_Co_room b_Co_room 1 (some .int) :: w_all) 1 D cA K [.ref a] [(a, .inr (0, [.ref b, .int (nI L.length)])), (b, .inl (cA 0, cap, .inl f))] (fun (r : Int32) (u : Unit) => r = nI (cap - L.length)) (fun u => [(a, .inr (0, [.ref b, .int (nI L.length)])), (b, .inl (cA 0, cap, .inl f))]) := by
  refine ck_mkI (by decide) (fun _ _ _ => rfl) (Nat.le_of_ble_eq_true rfl) ?_
  intro p e s m args below meth c Q A H locs ls hx hb hml hown hts hK hE hA hP hD hS hl hret
  have hl : lv_has ls 1 [(0, .ref a)] := hl
  have hl1 := cd_len hc
  refine lv_aload_n hx hb d_Co_room_0 rfl (lv_at hl 0 rfl) ?_
  refine va_get (C := RX0) (T := TX0) (N := 2) hx hb hts inX0 hown hK hP 0 rfl rfl 0 (by decide) (hts _ m_36) (fun _ h9 => h9) rfl d_Co_room_1 ?_
  refine va_alen (v := nI cap) hx hb hK hP 1 0 rfl rfl rfl d_Co_room_4 ?_
  refine lv_aload_n hx hb d_Co_room_5 rfl (lv_at hl 0 rfl) ?_
  refine va_get (C := RX0) (T := TX0) (N := 2) hx hb hts inX0 hown hK hP 0 rfl rfl 1 (by decide) (hts _ m_37) (fun _ h9 => h9) rfl d_Co_room_6 ?_
  refine wn_isub (by omega) hx hb d_Co_room_9 ?_
  exact hret (nI (cap - L.length)) () _ _ _ 10 d_Co_room_10 rfl hP hD hS
theorem k_Co_room : cf_V y_Co_room b_Co_room 1 (some .int) "ReadMapper$Codes" 0 := ⟨⟨m_240, m_241, m_2, m_242⟩, by decide +kernel⟩
set_option maxHeartbeats 4000000 in
set_option maxRecDepth 100000 in
theorem c_Co_at (l : Launch) (D : va_G) (cA : Nat → ClassId) (K : Nat → Nat) (a b cap : Nat) (f : Nat → Int32) (L : List Int32) (i : Int32) (hc : cd_r cap f L) : ck_I l y_Co_at (Cond.code y_Co_at b_Co_at 2 (some .int) :: w_all) 1 D cA K [.ref a, .int i] [(a, .inr (0, [.ref b, .int (nI L.length)])), (b, .inl (cA 0, cap, .inl f))] (fun (r : Int32) (u : Unit) => r = at_c L i) (fun u => [(a, .inr (0, [.ref b, .int (nI L.length)])), (b, .inl (cA 0, cap, .inl f))]) := by
  refine ck_mkI (by decide) (fun _ _ _ => rfl) (Nat.le_of_ble_eq_true rfl) ?_
  intro p e s m args below meth c Q A H locs ls hx hb hml hown hts hK hE hA hP hD hS hl hret
  have hl : lv_has ls 2 [(0, .ref a), (1, .int i)] := hl
  have hl1 := cd_len hc
  refine lv_iload_n hx hb d_Co_at_0 rfl (lv_at hl 1 rfl) ?_
  refine lv_if_lt (tgt := 21) hx hb d_Co_at_1 (by decide) ?_ ?_
  · intro h1
    refine lv_iconst (v := (-1)) hx hb d_Co_at_21 (by decide) ?_
    exact hret (-1) () _ _ _ 22 d_Co_at_22 (by first | exact at_in hc h1 h9 | exact (at_neg h1).symm | exact (at_big h9).symm) hP hD hS
  · intro h1
    refine lv_iload_n hx hb d_Co_at_4 rfl (lv_at hl 1 rfl) ?_
    refine lv_aload_n hx hb d_Co_at_5 rfl (lv_at hl 0 rfl) ?_
    refine va_get (C := RX0) (T := TX0) (N := 2) hx hb hts inX0 hown hK hP 0 rfl rfl 1 (by decide) (hts _ m_37) (fun _ h9 => h9) rfl d_Co_at_6 ?_
    refine lv_icmp_ge (tgt := 21) hx hb d_Co_at_9 (by decide) ?_ ?_
    · intro h9
      refine lv_iconst (v := (-1)) hx hb d_Co_at_21 (by decide) ?_
      exact hret (-1) () _ _ _ 22 d_Co_at_22 (by first | exact at_in hc h1 h9 | exact (at_neg h1).symm | exact (at_big h9).symm) hP hD hS
    · intro h9
      refine lv_aload_n hx hb d_Co_at_12 rfl (lv_at hl 0 rfl) ?_
      refine va_get (C := RX0) (T := TX0) (N := 2) hx hb hts inX0 hown hK hP 0 rfl rfl 0 (by decide) (hts _ m_36) (fun _ h9 => h9) rfl d_Co_at_13 ?_
      refine lv_iload_n hx hb d_Co_at_16 rfl (lv_at hl 1 rfl) ?_
      refine va_iald hx hb hK hP 1 0 rfl rfl (cd_vin hc h1 h9) d_Co_at_17 ?_
      refine lv_goto (tgt := 22) hx hb d_Co_at_18 (by decide) ?_
      exact hret (f (i).toNatClampNeg) () _ _ _ 22 d_Co_at_22 (by first | exact at_in hc h1 h9 | exact (at_neg h1).symm | exact (at_big h9).symm) hP hD hS
theorem k_Co_at : cf_V y_Co_at b_Co_at 2 (some .int) "ReadMapper$Codes" 1 := ⟨⟨m_313, m_314, m_2, m_315⟩, by decide +kernel⟩
set_option maxHeartbeats 4000000 in
set_option maxRecDepth 100000 in
theorem c_Co_set (l : Launch) (D : va_G) (cA : Nat → ClassId) (K : Nat → Nat) (a b cap : Nat) (f : Nat → Int32) (L : List Int32) (i x : Int32) (hc : cd_r cap f L) : ck_V l y_Co_set (Cond.code y_Co_set b_Co_set 3 none :: w_all) 1 D cA K [.ref a, .int i, .int x] [(a, .inr (0, [.ref b, .int (nI L.length)])), (b, .inl (cA 0, cap, .inl f))] (fun (u : Nat → Int32) => cd_r cap u (st_c L i x)) (fun u => [(a, .inr (0, [.ref b, .int (nI ((st_c L i x).length))])), (b, .inl (cA 0, cap, .inl u))]) := by
  refine ck_mkV (by decide) (Nat.le_of_ble_eq_true rfl) ?_
  intro p e s m args below meth c Q A H locs ls hx hb hml hown hts hK hE hA hP hD hS hl hret
  have hl : lv_has ls 3 [(0, .ref a), (1, .int i), (2, .int x)] := hl
  have hl1 := cd_len hc
  refine lv_iload_n hx hb d_Co_set_0 rfl (lv_at hl 1 rfl) ?_
  refine lv_if_lt (tgt := 19) hx hb d_Co_set_1 (by decide) ?_ ?_
  · intro h1
    have hP : va_P D vwCl [(a, .inr (0, [.ref b, .int (nI ((st_c L i x).length))])), (b, .inl (cA 0, cap, .inl f))] H := by rw [st_len]; exact hP
    have hD : va_D A [(a, .inr (0, [.ref b, .int (nI ((st_c L i x).length))])), (b, .inl (cA 0, cap, .inl f))] := by rw [st_len]; exact hD
    exact hret f _ _ _ 19 d_Co_set_19 (by first | (rw [st_neg h1]; exact hc) | (rw [st_big h9]; exact hc)) hP hD hS
  · intro h1
    refine lv_iload_n hx hb d_Co_set_4 rfl (lv_at hl 1 rfl) ?_
    refine lv_aload_n hx hb d_Co_set_5 rfl (lv_at hl 0 rfl) ?_
    refine va_get (C := RX0) (T := TX0) (N := 2) hx hb hts inX0 hown hK hP 0 rfl rfl 1 (by decide) (hts _ m_37) (fun _ h9 => h9) rfl d_Co_set_6 ?_
    refine lv_icmp_ge (tgt := 19) hx hb d_Co_set_9 (by decide) ?_ ?_
    · intro h9
      have hP : va_P D vwCl [(a, .inr (0, [.ref b, .int (nI ((st_c L i x).length))])), (b, .inl (cA 0, cap, .inl f))] H := by rw [st_len]; exact hP
      have hD : va_D A [(a, .inr (0, [.ref b, .int (nI ((st_c L i x).length))])), (b, .inl (cA 0, cap, .inl f))] := by rw [st_len]; exact hD
      exact hret f _ _ _ 19 d_Co_set_19 (by first | (rw [st_neg h1]; exact hc) | (rw [st_big h9]; exact hc)) hP hD hS
    · intro h9
      obtain ⟨k, hk, rfl⟩ := cd_in hc h1 h9
      refine lv_aload_n hx hb d_Co_set_12 rfl (lv_at hl 0 rfl) ?_
      refine va_get (C := RX0) (T := TX0) (N := 2) hx hb hts inX0 hown hK hP 0 rfl rfl 0 (by decide) (hts _ m_36) (fun _ h9 => h9) rfl d_Co_set_13 ?_
      refine lv_iload_n hx hb d_Co_set_16 rfl (lv_at hl 1 rfl) ?_
      refine lv_iload_n hx hb d_Co_set_17 rfl (lv_at hl 2 rfl) ?_
      refine wn_iast hx hb hK hP hD hS 1 0 rfl rfl (by omega) (by omega) d_Co_set_18 (fun H locs hP hD hS => ?_)
      have hP : va_P D vwCl [(a, .inr (0, [.ref b, .int (nI L.length)])), (b, .inl (cA 0, cap, .inl (upd f k x)))] H := hP
      have hD : va_D A [(a, .inr (0, [.ref b, .int (nI L.length)])), (b, .inl (cA 0, cap, .inl (upd f k x)))] := hD
      have hP : va_P D vwCl [(a, .inr (0, [.ref b, .int (nI ((st_c L (nI k) x).length))])), (b, .inl (cA 0, cap, .inl (upd f k x)))] H := by rw [st_len]; exact hP
      have hD : va_D A [(a, .inr (0, [.ref b, .int (nI ((st_c L (nI k) x).length))])), (b, .inl (cA 0, cap, .inl (upd f k x)))] := by rw [st_len]; exact hD
      exact hret (upd f k x) _ _ _ 19 d_Co_set_19 (by rw [st_in hc h1 h9, nI_clamp (by omega)]; exact cd_set hc hk) hP hD hS
theorem k_Co_set : cf_V y_Co_set b_Co_set 3 none "ReadMapper$Codes" 2 := ⟨⟨m_453, m_454, m_2, m_455⟩, by decide +kernel⟩
set_option maxHeartbeats 4000000 in
set_option maxRecDepth 100000 in
theorem c_Co_append (l : Launch) (D : va_G) (cA : Nat → ClassId) (K : Nat → Nat) (a b cap : Nat) (f : Nat → Int32) (L : List Int32) (x : Int32) (hc : cd_r cap f L) (hr : L.length < cap) : ck_V l y_Co_append (Cond.code y_Co_append b_Co_append 2 none :: w_all) 1 D cA K [.ref a, .int x] [(a, .inr (0, [.ref b, .int (nI L.length)])), (b, .inl (cA 0, cap, .inl f))] (fun (u : Nat → Int32) => cd_r cap u (L ++ [x])) (fun u => [(a, .inr (0, [.ref b, .int (nI ((L ++ [x]).length))])), (b, .inl (cA 0, cap, .inl u))]) := by
  refine ck_mkV (by decide) (Nat.le_of_ble_eq_true rfl) ?_
  intro p e s m args below meth c Q A H locs ls hx hb hml hown hts hK hE hA hP hD hS hl hret
  have hl : lv_has ls 2 [(0, .ref a), (1, .int x)] := hl
  have hl1 := cd_len hc
  refine lv_aload_n hx hb d_Co_append_0 rfl (lv_at hl 0 rfl) ?_
  refine va_get (C := RX0) (T := TX0) (N := 2) hx hb hts inX0 hown hK hP 0 rfl rfl 1 (by decide) (hts _ m_37) (fun _ h9 => h9) rfl d_Co_append_1 ?_
  refine lv_aload_n hx hb d_Co_append_4 rfl (lv_at hl 0 rfl) ?_
  refine va_get (C := RX0) (T := TX0) (N := 2) hx hb hts inX0 hown hK hP 0 rfl rfl 0 (by decide) (hts _ m_36) (fun _ h9 => h9) rfl d_Co_append_5 ?_
  refine va_alen (v := nI cap) hx hb hK hP 1 0 rfl rfl rfl d_Co_append_8 ?_
  refine wn_icmp_ge (by omega) (by omega) (tgt := 32) hx hb d_Co_append_9 (by decide) (fun h9 => absurd h9 (by omega)) (fun h9 => ?_)
  refine lv_aload_n hx hb d_Co_append_12 rfl (lv_at hl 0 rfl) ?_
  refine va_get (C := RX0) (T := TX0) (N := 2) hx hb hts inX0 hown hK hP 0 rfl rfl 0 (by decide) (hts _ m_36) (fun _ h9 => h9) rfl d_Co_append_13 ?_
  refine lv_aload_n hx hb d_Co_append_16 rfl (lv_at hl 0 rfl) ?_
  refine va_get (C := RX0) (T := TX0) (N := 2) hx hb hts inX0 hown hK hP 0 rfl rfl 1 (by decide) (hts _ m_37) (fun _ h9 => h9) rfl d_Co_append_17 ?_
  refine lv_iload_n hx hb d_Co_append_20 rfl (lv_at hl 1 rfl) ?_
  refine wn_iast hx hb hK hP hD hS 1 0 rfl rfl (by omega) (by omega) d_Co_append_21 (fun H locs hP hD hS => ?_)
  have hP : va_P D vwCl [(a, .inr (0, [.ref b, .int (nI L.length)])), (b, .inl (cA 0, cap, .inl (upd f L.length x)))] H := hP
  have hD : va_D A [(a, .inr (0, [.ref b, .int (nI L.length)])), (b, .inl (cA 0, cap, .inl (upd f L.length x)))] := hD
  refine lv_aload_n hx hb d_Co_append_22 rfl (lv_at hl 0 rfl) ?_
  refine lv_dup hx hb d_Co_append_23 rfl ?_
  refine va_get (C := RX0) (T := TX0) (N := 2) hx hb hts inX0 hown hK hP 0 rfl rfl 1 (by decide) (hts _ m_37) (fun _ h9 => h9) rfl d_Co_append_24 ?_
  refine lv_iconst (v := nI 1) hx hb d_Co_append_27 (by decide) ?_
  refine wn_iadd hx hb d_Co_append_28 ?_
  refine wn_nat (b := (L ++ [x]).length) (by rw [List.length_append]; rfl) ?_
  refine va_put (D := D) (ci := 0) (v := .int (nI ((L ++ [x]).length))) (ty := .int) (C := RX0) (T := TX0) (N := 2) hx hb hts inX0 tyX0 tyX0_ok nmX0 hown hK hP hD hS 0 rfl rfl 1 (by decide) (hts _ m_37) (fun _ h9 => h9) rfl (by decide +kernel) rfl rfl (Nat.le_of_ble_eq_true rfl) d_Co_append_29 (fun H locs hP hD hS => ?_)
  have hP : va_P D vwCl [(a, .inr (0, [.ref b, .int (nI ((L ++ [x]).length))])), (b, .inl (cA 0, cap, .inl (upd f L.length x)))] H := hP
  have hD : va_D A [(a, .inr (0, [.ref b, .int (nI ((L ++ [x]).length))])), (b, .inl (cA 0, cap, .inl (upd f L.length x)))] := hD
  exact hret (upd f L.length x) _ _ _ 32 d_Co_append_32 (cd_app hc hr) hP hD hS
theorem k_Co_append : cf_V y_Co_append b_Co_append 2 none "ReadMapper$Codes" 1 := ⟨⟨m_244, m_245, m_2, m_246⟩, by decide +kernel⟩
set_option maxHeartbeats 4000000 in
set_option maxRecDepth 100000 in
theorem c_Co_shorten (l : Launch) (D : va_G) (cA : Nat → ClassId) (K : Nat → Nat) (a b cap : Nat) (f : Nat → Int32) (L : List Int32) (hc : cd_r cap f L) : ck_V l y_Co_shorten (Cond.code y_Co_shorten b_Co_shorten 1 none :: w_all) 1 D cA K [.ref a] [(a, .inr (0, [.ref b, .int (nI L.length)])), (b, .inl (cA 0, cap, .inl f))] (fun (u : Unit) => cd_r cap f L.dropLast) (fun u => [(a, .inr (0, [.ref b, .int (nI L.dropLast.length)])), (b, .inl (cA 0, cap, .inl f))]) := by
  refine ck_mkV (by decide) (Nat.le_of_ble_eq_true rfl) ?_
  intro p e s m args below meth c Q A H locs ls hx hb hml hown hts hK hE hA hP hD hS hl hret
  have hl : lv_has ls 1 [(0, .ref a)] := hl
  have hl1 := cd_len hc
  refine lv_aload_n hx hb d_Co_shorten_0 rfl (lv_at hl 0 rfl) ?_
  refine va_get (C := RX0) (T := TX0) (N := 2) hx hb hts inX0 hown hK hP 0 rfl rfl 1 (by decide) (hts _ m_37) (fun _ h9 => h9) rfl d_Co_shorten_1 ?_
  refine wn_if_le (by omega) (tgt := 17) hx hb d_Co_shorten_4 (by decide) ?_ ?_
  · intro h4
    have e0 : L = [] := List.eq_nil_of_length_eq_zero (by omega)
    subst e0
    exact hret () _ _ _ 17 d_Co_shorten_17 (cd_drop hc) hP hD hS
  · intro h4
    refine lv_aload_n hx hb d_Co_shorten_7 rfl (lv_at hl 0 rfl) ?_
    refine lv_dup hx hb d_Co_shorten_8 rfl ?_
    refine va_get (C := RX0) (T := TX0) (N := 2) hx hb hts inX0 hown hK hP 0 rfl rfl 1 (by decide) (hts _ m_37) (fun _ h9 => h9) rfl d_Co_shorten_9 ?_
    refine lv_iconst (v := nI 1) hx hb d_Co_shorten_12 (by decide) ?_
    refine wn_isub (by omega) hx hb d_Co_shorten_13 ?_
    refine wn_nat (b := L.dropLast.length) (by rw [List.length_dropLast]) ?_
    refine va_put (D := D) (ci := 0) (v := .int (nI L.dropLast.length)) (ty := .int) (C := RX0) (T := TX0) (N := 2) hx hb hts inX0 tyX0 tyX0_ok nmX0 hown hK hP hD hS 0 rfl rfl 1 (by decide) (hts _ m_37) (fun _ h9 => h9) rfl (by decide +kernel) rfl rfl (Nat.le_of_ble_eq_true rfl) d_Co_shorten_14 (fun H locs hP hD hS => ?_)
    have hP : va_P D vwCl [(a, .inr (0, [.ref b, .int (nI L.dropLast.length)])), (b, .inl (cA 0, cap, .inl f))] H := hP
    have hD : va_D A [(a, .inr (0, [.ref b, .int (nI L.dropLast.length)])), (b, .inl (cA 0, cap, .inl f))] := hD
    exact hret () _ _ _ 17 d_Co_shorten_17 (cd_drop hc) hP hD hS
theorem k_Co_shorten : cf_V y_Co_shorten b_Co_shorten 1 none "ReadMapper$Codes" 0 := ⟨⟨m_461, m_462, m_2, m_463⟩, by decide +kernel⟩
set_option maxHeartbeats 4000000 in
set_option maxRecDepth 100000 in
theorem c_Co_clear (l : Launch) (D : va_G) (cA : Nat → ClassId) (K : Nat → Nat) (a b cap : Nat) (f : Nat → Int32) (L : List Int32) (hc : cd_r cap f L) : ck_V l y_Co_clear (Cond.code y_Co_clear b_Co_clear 1 none :: w_all) 1 D cA K [.ref a] [(a, .inr (0, [.ref b, .int (nI L.length)])), (b, .inl (cA 0, cap, .inl f))] (fun (u : Unit) => cd_r cap f []) (fun u => [(a, .inr (0, [.ref b, .int (nI (([] : List Int32).length))])), (b, .inl (cA 0, cap, .inl f))]) := by
  refine ck_mkV (by decide) (Nat.le_of_ble_eq_true rfl) ?_
  intro p e s m args below meth c Q A H locs ls hx hb hml hown hts hK hE hA hP hD hS hl hret
  have hl : lv_has ls 1 [(0, .ref a)] := hl
  refine lv_aload_n hx hb d_Co_clear_0 rfl (lv_at hl 0 rfl) ?_
  refine lv_iconst (v := nI (([] : List Int32).length)) hx hb d_Co_clear_1 rfl ?_
  refine va_put (D := D) (ci := 0) (v := .int (nI (([] : List Int32).length))) (ty := .int) (C := RX0) (T := TX0) (N := 2) hx hb hts inX0 tyX0 tyX0_ok nmX0 hown hK hP hD hS 0 rfl rfl 1 (by decide) (hts _ m_37) (fun _ h9 => h9) rfl (by decide +kernel) rfl rfl (Nat.le_of_ble_eq_true rfl) d_Co_clear_2 (fun H locs hP hD hS => ?_)
  have hP : va_P D vwCl [(a, .inr (0, [.ref b, .int (nI (([] : List Int32).length))])), (b, .inl (cA 0, cap, .inl f))] H := hP
  have hD : va_D A [(a, .inr (0, [.ref b, .int (nI (([] : List Int32).length))])), (b, .inl (cA 0, cap, .inl f))] := hD
  exact hret () _ _ _ 5 d_Co_clear_5 (cd_clear hc) hP hD hS
theorem k_Co_clear : cf_V y_Co_clear b_Co_clear 1 none "ReadMapper$Codes" 0 := ⟨⟨m_340, m_341, m_2, m_342⟩, by decide +kernel⟩
set_option maxHeartbeats 4000000 in
set_option maxRecDepth 100000 in
theorem c_Co_copy (l : Launch) (D : va_G) (cA : Nat → ClassId) (K : Nat → Nat) (a b cap : Nat) (f : Nat → Int32) (L : List Int32) (a2 b2 cap2 : Nat) (g : Nat → Int32) (M : List Int32) (hc : cd_r cap f L) (hc2 : cd_r cap2 g M) (hm : M.length ≤ cap) : ck_V l y_Co_copy (Cond.code y_Co_copy b_Co_copy 3 none :: w_all) 2 D cA K [.ref a, .ref a2] [(a, .inr (0, [.ref b, .int (nI L.length)])), (b, .inl (cA 0, cap, .inl f)), (a2, .inr (0, [.ref b2, .int (nI M.length)])), (b2, .inl (cA 0, cap2, .inl g))] (fun (u : Nat → Int32) => cd_r cap u M) (fun u => [(a, .inr (0, [.ref b, .int (nI M.length)])), (b, .inl (cA 0, cap, .inl u)), (a2, .inr (0, [.ref b2, .int (nI M.length)])), (b2, .inl (cA 0, cap2, .inl g))]) := by
  refine ck_mkV (by decide) (Nat.le_of_ble_eq_true rfl) ?_
  intro p e s m args below meth c Q A H locs ls hx hb hml hown hts hK hE hA hP hD hS hl hret
  have hl : lv_has ls 3 [(0, .ref a), (1, .ref a2)] := hl
  have hl1 := cd_len hc
  have hl2 := cd_len hc2
  refine lv_aload_n hx hb d_Co_copy_0 rfl (lv_at hl 0 rfl) ?_
  refine ck_cVv (C := "ReadMapper$Codes") (ci := 0) (rest := []) (wr := [(a2, .inr (0, [.ref b2, .int (nI M.length)])), (b2, .inl (cA 0, cap2, .inl g))]) (ws2 := fun u => [(a, .inr (0, [.ref b, .int (nI (([] : List Int32).length))])), (b, .inl (cA 0, cap, .inl f)), (a2, .inr (0, [.ref b2, .int (nI M.length)])), (b2, .inl (cA 0, cap2, .inl g))]) (c_Co_clear l D cA K a b cap f L (by first | assumption | omega)) hx hb hml hown hts hK hE hA hP hD hS k_Co_clear m_596 (by decide) 0 rfl rfl rfl hl.1 rfl (Nat.le_of_ble_eq_true rfl) d_Co_copy_1  [0, 1] [2, 3] [2, 3, 0, 1] rfl rfl (by decide) (fun _ => rfl) (fun u1 H locs hq1 hP hD hS => ?_)
  try dsimp only at hq1
  have hP : va_P D vwCl [(a, .inr (0, [.ref b, .int (nI (([] : List Int32).length))])), (b, .inl (cA 0, cap, .inl f)), (a2, .inr (0, [.ref b2, .int (nI M.length)])), (b2, .inl (cA 0, cap2, .inl g))] H := hP
  have hD : va_D A [(a, .inr (0, [.ref b, .int (nI (([] : List Int32).length))])), (b, .inl (cA 0, cap, .inl f)), (a2, .inr (0, [.ref b2, .int (nI M.length)])), (b2, .inl (cA 0, cap2, .inl g))] := hD
  refine lv_iconst (v := nI 0) hx hb d_Co_copy_4 (by decide) ?_
  refine lv_istore_n (lv' := [(2, .int (nI 0)), (0, .ref a), (1, .ref a2)]) hx hb d_Co_copy_5 rfl hl (by decide) rfl (fun ls hl => ?_)
  have L6 : ∀ (n : Nat) (i : Nat) (f2 : Nat → Int32) (H : Heap) (locs : List Loc) (ls : Array Slot), M.length - i = n → i ≤ M.length → cd_r cap f2 (M.take i) →  va_P D vwCl [(a, .inr (0, [.ref b, .int (nI ((M.take i).length))])), (b, .inl (cA 0, cap, .inl f2)), (a2, .inr (0, [.ref b2, .int (nI M.length)])), (b2, .inl (cA 0, cap2, .inl g))] H → va_D A [(a, .inr (0, [.ref b, .int (nI ((M.take i).length))])), (b, .inl (cA 0, cap, .inl f2)), (a2, .inr (0, [.ref b2, .int (nI M.length)])), (b2, .inl (cA 0, cap2, .inl g))] → va_S A s.heap H locs → lv_has ls 3 [(0, .ref a), (1, .ref a2), (2, .int (nI i))] → W p l e (rm_d 2) s m args below meth c H locs 0 0 Q (F0 m 6 ls []) := by
    intro n
    induction n using Nat.strongRecOn with
    | ind n ih6 =>
      intro i f2 H locs ls hn6 hi hf hP hD hS hl
      refine lv_iload_n hx hb d_Co_copy_6 rfl (lv_at hl 2 rfl) ?_
      refine lv_aload_n hx hb d_Co_copy_7 rfl (lv_at hl 1 rfl) ?_
      refine va_get (C := RX0) (T := TX0) (N := 2) hx hb hts inX0 hown hK hP 2 rfl rfl 1 (by decide) (hts _ m_37) (fun _ h9 => h9) rfl d_Co_copy_8 ?_
      refine wn_icmp_ge (by omega) (by omega) (tgt := 30) hx hb d_Co_copy_11 (by decide) ?_ ?_
      · intro h11
        have e0 : M.take i = M := List.take_of_length_le h11
        rw [e0] at hf
        have hP : va_P D vwCl [(a, .inr (0, [.ref b, .int (nI M.length)])), (b, .inl (cA 0, cap, .inl f2)), (a2, .inr (0, [.ref b2, .int (nI M.length)])), (b2, .inl (cA 0, cap2, .inl g))] H := by rw [e0] at hP; exact hP
        have hD : va_D A [(a, .inr (0, [.ref b, .int (nI M.length)])), (b, .inl (cA 0, cap, .inl f2)), (a2, .inr (0, [.ref b2, .int (nI M.length)])), (b2, .inl (cA 0, cap2, .inl g))] := by rw [e0] at hD; exact hD
        exact hret f2 _ _ _ 30 d_Co_copy_30 hf hP hD hS
      · intro h11
        refine lv_aload_n hx hb d_Co_copy_14 rfl (lv_at hl 0 rfl) ?_
        refine lv_aload_n hx hb d_Co_copy_15 rfl (lv_at hl 1 rfl) ?_
        refine va_get (C := RX0) (T := TX0) (N := 2) hx hb hts inX0 hown hK hP 2 rfl rfl 0 (by decide) (hts _ m_36) (fun _ h9 => h9) rfl d_Co_copy_16 ?_
        refine lv_iload_n hx hb d_Co_copy_19 rfl (lv_at hl 2 rfl) ?_
        refine wn_iald hx hb hK hP 3 0 rfl rfl (by omega) (by omega) d_Co_copy_20 ?_
        refine wn_eq (y := M.getD i 0) (hc2.2.2 i (by omega)) ?_
        refine ck_cVv (C := "ReadMapper$Codes") (ci := 0) (rest := []) (wr := [(a2, .inr (0, [.ref b2, .int (nI M.length)])), (b2, .inl (cA 0, cap2, .inl g))]) (ws2 := fun u => [(a, .inr (0, [.ref b, .int (nI (((M.take i) ++ [(M.getD i 0)]).length))])), (b, .inl (cA 0, cap, .inl u)), (a2, .inr (0, [.ref b2, .int (nI M.length)])), (b2, .inl (cA 0, cap2, .inl g))]) (c_Co_append l D cA K a b cap f2 (M.take i) (M.getD i 0) (by first | assumption | omega) (by rw [List.length_take]; omega)) hx hb hml hown hts hK hE hA hP hD hS k_Co_append m_597 (by decide) 0 rfl rfl rfl hl.1 rfl (Nat.le_of_ble_eq_true rfl) d_Co_copy_21  [0, 1] [2, 3] [2, 3, 0, 1] rfl rfl (by decide) (fun _ => rfl) (fun u21 H locs hq21 hP hD hS => ?_)
        obtain ⟨f2_21, rfl⟩ : ∃ z, z = u21 := ⟨_, rfl⟩
        try dsimp only at hq21
        have hP : va_P D vwCl [(a, .inr (0, [.ref b, .int (nI (((M.take i) ++ [(M.getD i 0)]).length))])), (b, .inl (cA 0, cap, .inl f2_21)), (a2, .inr (0, [.ref b2, .int (nI M.length)])), (b2, .inl (cA 0, cap2, .inl g))] H := hP
        have hD : va_D A [(a, .inr (0, [.ref b, .int (nI (((M.take i) ++ [(M.getD i 0)]).length))])), (b, .inl (cA 0, cap, .inl f2_21)), (a2, .inr (0, [.ref b2, .int (nI M.length)])), (b2, .inl (cA 0, cap2, .inl g))] := hD
        rw [li_take h11] at hq21
        have hP : va_P D vwCl [(a, .inr (0, [.ref b, .int (nI ((M.take (i + 1)).length))])), (b, .inl (cA 0, cap, .inl f2_21)), (a2, .inr (0, [.ref b2, .int (nI M.length)])), (b2, .inl (cA 0, cap2, .inl g))] H := by rw [← li_take h11]; exact hP
        have hD : va_D A [(a, .inr (0, [.ref b, .int (nI ((M.take (i + 1)).length))])), (b, .inl (cA 0, cap, .inl f2_21)), (a2, .inr (0, [.ref b2, .int (nI M.length)])), (b2, .inl (cA 0, cap2, .inl g))] := by rw [← li_take h11]; exact hD
        refine lv_iinc (k := 2) (v := nI (i + 1)) (lv' := [(2, .int (nI (i + 1))), (0, .ref a), (1, .ref a2)]) hx hb d_Co_copy_24 hl rfl (wi_inc1 _) (by decide) rfl (fun ls hl => ?_)
        refine lv_goto (tgt := 6) hx hb d_Co_copy_27 (by decide) ?_
        exact ih6 _ (by omega) (i + 1) f2_21 _ _ _ rfl (by first | assumption | omega) (by first | assumption | omega) hP hD hS (lv_sub hl [1, 2, 0] rfl)
  exact L6 _ 0 f _ _ _ rfl (by first | assumption | omega) hq1 hP hD hS (lv_sub hl [1, 2, 0] rfl)
theorem k_Co_copy : cf_V y_Co_copy b_Co_copy 3 none "ReadMapper$Codes" 1 := ⟨⟨m_593, m_594, m_2, m_595⟩, by decide +kernel⟩
set_option maxHeartbeats 4000000 in
set_option maxRecDepth 100000 in
theorem c_Co_isSame (l : Launch) (D : va_G) (cA : Nat → ClassId) (K : Nat → Nat) (a b cap : Nat) (f : Nat → Int32) (L : List Int32) (a2 b2 cap2 : Nat) (g : Nat → Int32) (M : List Int32) (hc : cd_r cap f L) (hc2 : cd_r cap2 g M) : ck_I l y_Co_isSame (Cond.code y_Co_isSame b_Co_isSame 3 (some .boolean) :: w_all) 1 D cA K [.ref a, .ref a2] [(a, .inr (0, [.ref b, .int (nI L.length)])), (b, .inl (cA 0, cap, .inl f)), (a2, .inr (0, [.ref b2, .int (nI M.length)])), (b2, .inl (cA 0, cap2, .inl g))] (fun (r : Int32) (u : Unit) => (r = 1 ∧ L = M) ∨ (r = 0 ∧ ¬ L = M)) (fun u => [(a, .inr (0, [.ref b, .int (nI L.length)])), (b, .inl (cA 0, cap, .inl f)), (a2, .inr (0, [.ref b2, .int (nI M.length)])), (b2, .inl (cA 0, cap2, .inl g))]) := by
  refine ck_mkI (by decide) (fun r u h => by rcases h with ⟨rfl, _⟩ | ⟨rfl, _⟩ <;> rfl) (Nat.le_of_ble_eq_true rfl) ?_
  intro p e s m args below meth c Q A H locs ls hx hb hml hown hts hK hE hA hP hD hS hl hret
  have hl : lv_has ls 3 [(0, .ref a), (1, .ref a2)] := hl
  have hl1 := cd_len hc
  have hl2 := cd_len hc2
  refine lv_aload_n hx hb d_Co_isSame_0 rfl (lv_at hl 0 rfl) ?_
  refine va_get (C := RX0) (T := TX0) (N := 2) hx hb hts inX0 hown hK hP 0 rfl rfl 1 (by decide) (hts _ m_37) (fun _ h9 => h9) rfl d_Co_isSame_1 ?_
  refine lv_aload_n hx hb d_Co_isSame_4 rfl (lv_at hl 1 rfl) ?_
  refine va_get (C := RX0) (T := TX0) (N := 2) hx hb hts inX0 hown hK hP 2 rfl rfl 1 (by decide) (hts _ m_37) (fun _ h9 => h9) rfl d_Co_isSame_5 ?_
  refine wn_icmp_eq (by omega) (by omega) (tgt := 13) hx hb d_Co_isSame_8 (by decide) ?_ ?_
  · intro h8
    refine lv_iconst (v := nI 0) hx hb d_Co_isSame_13 (by decide) ?_
    refine lv_istore_n (lv' := [(2, .int (nI 0)), (0, .ref a), (1, .ref a2)]) hx hb d_Co_isSame_14 rfl hl (by decide) rfl (fun ls hl => ?_)
    have L15 : ∀ (n : Nat) (i : Nat) (H : Heap) (locs : List Loc) (ls : Array Slot), L.length - i = n → i ≤ L.length → (∀ j, j < i → L.getD j 0 = M.getD j 0) →  va_P D vwCl [(a, .inr (0, [.ref b, .int (nI L.length)])), (b, .inl (cA 0, cap, .inl f)), (a2, .inr (0, [.ref b2, .int (nI M.length)])), (b2, .inl (cA 0, cap2, .inl g))] H → va_D A [(a, .inr (0, [.ref b, .int (nI L.length)])), (b, .inl (cA 0, cap, .inl f)), (a2, .inr (0, [.ref b2, .int (nI M.length)])), (b2, .inl (cA 0, cap2, .inl g))] → va_S A s.heap H locs → lv_has ls 3 [(0, .ref a), (1, .ref a2), (2, .int (nI i))] → W p l e (rm_d 1) s m args below meth c H locs 0 0 Q (F0 m 15 ls []) := by
      intro n
      induction n using Nat.strongRecOn with
      | ind n ih15 =>
        intro i H locs ls hn15 hi hs hP hD hS hl
        refine lv_iload_n hx hb d_Co_isSame_15 rfl (lv_at hl 2 rfl) ?_
        refine lv_aload_n hx hb d_Co_isSame_16 rfl (lv_at hl 0 rfl) ?_
        refine va_get (C := RX0) (T := TX0) (N := 2) hx hb hts inX0 hown hK hP 0 rfl rfl 1 (by decide) (hts _ m_37) (fun _ h9 => h9) rfl d_Co_isSame_17 ?_
        refine wn_icmp_ge (by omega) (by omega) (tgt := 46) hx hb d_Co_isSame_20 (by decide) ?_ ?_
        · intro h20
          refine lv_iconst (v := 1) hx hb d_Co_isSame_46 (by decide) ?_
          exact hret 1 () _ _ _ 47 d_Co_isSame_47 (Or.inl ⟨rfl, li_ext h8 (fun j hj => hs j (by omega))⟩) hP hD hS
        · intro h20
          refine lv_aload_n hx hb d_Co_isSame_23 rfl (lv_at hl 0 rfl) ?_
          refine va_get (C := RX0) (T := TX0) (N := 2) hx hb hts inX0 hown hK hP 0 rfl rfl 0 (by decide) (hts _ m_36) (fun _ h9 => h9) rfl d_Co_isSame_24 ?_
          refine lv_iload_n hx hb d_Co_isSame_27 rfl (lv_at hl 2 rfl) ?_
          refine wn_iald hx hb hK hP 1 0 rfl rfl (by omega) (by omega) d_Co_isSame_28 ?_
          refine wn_eq (y := L.getD i 0) (hc.2.2 i (by omega)) ?_
          refine lv_aload_n hx hb d_Co_isSame_29 rfl (lv_at hl 1 rfl) ?_
          refine va_get (C := RX0) (T := TX0) (N := 2) hx hb hts inX0 hown hK hP 2 rfl rfl 0 (by decide) (hts _ m_36) (fun _ h9 => h9) rfl d_Co_isSame_30 ?_
          refine lv_iload_n hx hb d_Co_isSame_33 rfl (lv_at hl 2 rfl) ?_
          refine wn_iald hx hb hK hP 3 0 rfl rfl (by omega) (by omega) d_Co_isSame_34 ?_
          refine wn_eq (y := M.getD i 0) (hc2.2.2 i (by omega)) ?_
          refine lv_icmp_eq (tgt := 40) hx hb d_Co_isSame_35 (by decide) ?_ ?_
          · intro h35
            refine lv_iinc (k := 2) (v := nI (i + 1)) (lv' := [(2, .int (nI (i + 1))), (0, .ref a), (1, .ref a2)]) hx hb d_Co_isSame_40 hl rfl (wi_inc1 _) (by decide) rfl (fun ls hl => ?_)
            refine lv_goto (tgt := 15) hx hb d_Co_isSame_43 (by decide) ?_
            exact ih15 _ (by omega) _ _ _ _ rfl (by first | assumption | omega) (lt_s hs h35) hP hD hS (lv_sub hl [1, 2, 0] rfl)
          · intro h35
            refine lv_iconst (v := 0) hx hb d_Co_isSame_38 (by decide) ?_
            exact hret 0 () _ _ _ 39 d_Co_isSame_39 (Or.inr ⟨rfl, fun e => h35 (by rw [e])⟩) hP hD hS
    exact L15 _ _ _ _ _ rfl (by first | assumption | omega) (fun j hj => absurd hj (Nat.not_lt_zero j)) hP hD hS (lv_sub hl [1, 2, 0] rfl)
  · intro h8
    refine lv_iconst (v := 0) hx hb d_Co_isSame_11 (by decide) ?_
    exact hret 0 () _ _ _ 12 d_Co_isSame_12 (Or.inr ⟨rfl, fun e => h8 (by rw [e])⟩) hP hD hS
theorem k_Co_isSame : cf_V y_Co_isSame b_Co_isSame 3 (some .boolean) "ReadMapper$Codes" 1 := ⟨⟨m_497, m_498, m_2, m_499⟩, by decide +kernel⟩
set_option maxHeartbeats 4000000 in
set_option maxRecDepth 100000 in
theorem c_Co_next (l : Launch) (D : va_G) (cA : Nat → ClassId) (K : Nat → Nat) (a b cap : Nat) (f : Nat → Int32) (L : List Int32) (x : Int32) (bg : Nat) (hc : cd_r cap f L) (hbg : bg ≤ 2000) : ck_I l y_Co_next (Cond.code y_Co_next b_Co_next 4 (some .int) :: w_all) 2 D cA K [.ref a, .int x, .int (nI bg)] [(a, .inr (0, [.ref b, .int (nI L.length)])), (b, .inl (cA 0, cap, .inl f))] (fun (r : Int32) (u : Unit) => ∃ k, r = nI k ∧ nx_p L x bg k) (fun u => [(a, .inr (0, [.ref b, .int (nI L.length)])), (b, .inl (cA 0, cap, .inl f))]) := by
  refine ck_mkI (by decide) (fun _ _ _ => rfl) (Nat.le_of_ble_eq_true rfl) ?_
  intro p e s m args below meth c Q A H locs ls hx hb hml hown hts hK hE hA hP hD hS hl hret
  have hl : lv_has ls 4 [(0, .ref a), (1, .int x), (2, .int (nI bg))] := hl
  have hl1 := cd_len hc
  refine lv_iload_n hx hb d_Co_next_0 rfl (lv_at hl 2 rfl) ?_
  refine lv_istore_n (lv' := [(3, .int (nI bg)), (0, .ref a), (1, .int x), (2, .int (nI bg))]) hx hb d_Co_next_1 rfl hl (by decide) rfl (fun ls hl => ?_)
  have L2 : ∀ (n : Nat) (i : Nat) (H : Heap) (locs : List Loc) (ls : Array Slot), L.length - i = n → i ≤ 2000 → bg ≤ i → (∀ j, bg ≤ j → j < i → L.getD j 0 ≠ x) →  va_P D vwCl [(a, .inr (0, [.ref b, .int (nI L.length)])), (b, .inl (cA 0, cap, .inl f))] H → va_D A [(a, .inr (0, [.ref b, .int (nI L.length)])), (b, .inl (cA 0, cap, .inl f))] → va_S A s.heap H locs → lv_has ls 4 [(0, .ref a), (1, .int x), (3, .int (nI i))] → W p l e (rm_d 2) s m args below meth c H locs 0 0 Q (F0 m 2 ls []) := by
    intro n
    induction n using Nat.strongRecOn with
    | ind n ih2 =>
      intro i H locs ls hn2 hi hbi hs hP hD hS hl
      refine lv_iload_n hx hb d_Co_next_2 rfl (lv_at hl 2 rfl) ?_
      refine lv_aload_n hx hb d_Co_next_3 rfl (lv_at hl 0 rfl) ?_
      refine va_get (C := RX0) (T := TX0) (N := 2) hx hb hts inX0 hown hK hP 0 rfl rfl 1 (by decide) (hts _ m_37) (fun _ h9 => h9) rfl d_Co_next_4 ?_
      refine wn_icmp_ge (by omega) (by omega) (tgt := 27) hx hb d_Co_next_7 (by decide) ?_ ?_
      · intro h7
        refine lv_aload_n hx hb d_Co_next_27 rfl (lv_at hl 0 rfl) ?_
        refine va_get (C := RX0) (T := TX0) (N := 2) hx hb hts inX0 hown hK hP 0 rfl rfl 1 (by decide) (hts _ m_37) (fun _ h9 => h9) rfl d_Co_next_28 ?_
        exact hret (nI L.length) () _ _ _ 31 d_Co_next_31 ⟨L.length, rfl, Or.inl ⟨rfl, fun j h1 h2 => hs j h1 (by omega)⟩⟩ hP hD hS
      · intro h7
        refine lv_aload_n hx hb d_Co_next_10 rfl (lv_at hl 0 rfl) ?_
        refine lv_iload_n hx hb d_Co_next_11 rfl (lv_at hl 2 rfl) ?_
        refine ck_cV (C := "ReadMapper$Codes") (ci := 0) (rest := []) (wr := []) (ws2 := fun u => [(a, .inr (0, [.ref b, .int (nI L.length)])), (b, .inl (cA 0, cap, .inl f))]) (c_Co_at l D cA K a b cap f L (nI i) (by first | assumption | omega)) hx hb hml hown hts hK hE hA hP hD hS k_Co_at m_477 (by decide) 0 rfl rfl rfl hl.1 rfl (Nat.le_of_ble_eq_true rfl) d_Co_next_12  [0, 1] [] [0, 1] rfl rfl (by decide) (fun _ => rfl) (fun r12 u12 H locs hq12 hP hD hS => ?_)
        try dsimp only at hq12
        have hP : va_P D vwCl [(a, .inr (0, [.ref b, .int (nI L.length)])), (b, .inl (cA 0, cap, .inl f))] H := hP
        have hD : va_D A [(a, .inr (0, [.ref b, .int (nI L.length)])), (b, .inl (cA 0, cap, .inl f))] := hD
        obtain rfl := hq12
        refine wn_eq (y := L.getD i 0) (at_n (by omega) (by omega)) ?_
        refine lv_iload_n hx hb d_Co_next_15 rfl (lv_at hl 1 rfl) ?_
        refine lv_icmp_ne (tgt := 21) hx hb d_Co_next_16 (by decide) ?_ ?_
        · intro h16
          refine lv_iinc (k := 2) (v := nI (i + 1)) (lv' := [(3, .int (nI (i + 1))), (0, .ref a), (1, .int x)]) hx hb d_Co_next_21 hl rfl (wi_inc1 _) (by decide) rfl (fun ls hl => ?_)
          refine lv_goto (tgt := 2) hx hb d_Co_next_24 (by decide) ?_
          exact ih2 _ (by omega) _ _ _ _ rfl (by first | assumption | omega) (by first | assumption | omega) (fun j h1 h2 => if e : j = i then by subst e; exact h16 else hs j h1 (by omega)) hP hD hS (lv_sub hl [1, 2, 0] rfl)
        · intro h16
          refine lv_iload_n hx hb d_Co_next_19 rfl (lv_at hl 2 rfl) ?_
          exact hret (nI i) () _ _ _ 20 d_Co_next_20 ⟨i, rfl, Or.inr ⟨hbi, h7, h16, hs⟩⟩ hP hD hS
  exact L2 _ _ _ _ _ rfl (by first | assumption | omega) (by first | assumption | omega) (fun j h1 h2 => by omega) hP hD hS (lv_sub hl [1, 2, 0] rfl)
theorem k_Co_next : cf_V y_Co_next b_Co_next 4 (some .int) "ReadMapper$Codes" 2 := ⟨⟨m_474, m_475, m_2, m_476⟩, by decide +kernel⟩
