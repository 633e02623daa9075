/-! the bytes of an image, read back -/
def hd_p (L : List Int32) : Prop := at_c L (nI 0) = 70 ∧ at_c L (nI 1) = 77 ∧ at_c L (nI 2) = 1
/-- the byte at j as a number, 0 if there is none -/
def bn_c (L : List Int32) (j : Nat) : Nat := (at_c L (nI j)).toNatClampNeg
theorem bn_at {L : List Int32} {i : Nat} (hby : ∀ j, j < L.length → ∃ k, k < 256 ∧ L.getD j 0 = nI k) (hL : L.length ≤ 1000) (hi : i ≤ 3000) : (at_c L (nI i) = -1 ∧ bn_c L i = 0) ∨ ∃ k, k < 256 ∧ at_c L (nI i) = nI k ∧ bn_c L i = k := by
  unfold bn_c
  rcases Nat.lt_or_ge i L.length with h | h
  · obtain ⟨k, hk, e⟩ := hby i h
    rw [at_n h hL, e]
    exact Or.inr ⟨k, hk, rfl, nI_clamp (by omega)⟩
  · rw [at_o h (by omega)]
    exact Or.inl ⟨rfl, by decide⟩
def s7_p (x : Int32) : Prop := ¬ x < 0 ∧ x < nI 7
theorem d_Im_hasHead_0 : decode b_Im_hasHead 0 = .ok (.iconst 0, 1) := by decide +kernel
theorem d_Im_hasHead_1 : decode b_Im_hasHead 1 = .ok (.istore_n 1, 1) := by decide +kernel
theorem d_Im_hasHead_2 : decode b_Im_hasHead 2 = .ok (.iload_n 1, 1) := by decide +kernel
theorem d_Im_hasHead_3 : decode b_Im_hasHead 3 = .ok (.getstatic 20, 3) := by decide +kernel
theorem d_Im_hasHead_6 : decode b_Im_hasHead 6 = .ok (.arraylength, 1) := by decide +kernel
theorem d_Im_hasHead_7 : decode b_Im_hasHead 7 = .ok (.if_icmp .ge 24, 3) := by decide +kernel
theorem d_Im_hasHead_10 : decode b_Im_hasHead 10 = .ok (.aload_n 0, 1) := by decide +kernel
theorem d_Im_hasHead_11 : decode b_Im_hasHead 11 = .ok (.iload_n 1, 1) := by decide +kernel
theorem d_Im_hasHead_12 : decode b_Im_hasHead 12 = .ok (.invokevirtual 24, 3) := by decide +kernel
theorem d_Im_hasHead_15 : decode b_Im_hasHead 15 = .ok (.getstatic 20, 3) := by decide +kernel
theorem d_Im_hasHead_18 : decode b_Im_hasHead 18 = .ok (.iload_n 1, 1) := by decide +kernel
theorem d_Im_hasHead_19 : decode b_Im_hasHead 19 = .ok (.iaload, 1) := by decide +kernel
theorem d_Im_hasHead_20 : decode b_Im_hasHead 20 = .ok (.if_icmp .eq 5, 3) := by decide +kernel
theorem d_Im_hasHead_23 : decode b_Im_hasHead 23 = .ok (.iconst 0, 1) := by decide +kernel
theorem d_Im_hasHead_24 : decode b_Im_hasHead 24 = .ok (.ireturn, 1) := by decide +kernel
theorem d_Im_hasHead_25 : decode b_Im_hasHead 25 = .ok (.iinc 1 1, 3) := by decide +kernel
theorem d_Im_hasHead_28 : decode b_Im_hasHead 28 = .ok (.goto (-26), 3) := by decide +kernel
theorem d_Im_hasHead_31 : decode b_Im_hasHead 31 = .ok (.iconst 1, 1) := by decide +kernel
theorem d_Im_hasHead_32 : decode b_Im_hasHead 32 = .ok (.ireturn, 1) := by decide +kernel
theorem d_Im_nextByte_0 : decode b_Im_nextByte 0 = .ok (.aload_n 1, 1) := by decide +kernel
theorem d_Im_nextByte_1 : decode b_Im_nextByte 1 = .ok (.aload_n 0, 1) := by decide +kernel
theorem d_Im_nextByte_2 : decode b_Im_nextByte 2 = .ok (.getfield 28, 3) := by decide +kernel
theorem d_Im_nextByte_5 : decode b_Im_nextByte 5 = .ok (.invokevirtual 24, 3) := by decide +kernel
theorem d_Im_nextByte_8 : decode b_Im_nextByte 8 = .ok (.istore_n 2, 1) := by decide +kernel
theorem d_Im_nextByte_9 : decode b_Im_nextByte 9 = .ok (.aload_n 0, 1) := by decide +kernel
theorem d_Im_nextByte_10 : decode b_Im_nextByte 10 = .ok (.dup, 1) := by decide +kernel
theorem d_Im_nextByte_11 : decode b_Im_nextByte 11 = .ok (.getfield 28, 3) := by decide +kernel
theorem d_Im_nextByte_14 : decode b_Im_nextByte 14 = .ok (.iconst 1, 1) := by decide +kernel
theorem d_Im_nextByte_15 : decode b_Im_nextByte 15 = .ok (.iadd, 1) := by decide +kernel
theorem d_Im_nextByte_16 : decode b_Im_nextByte 16 = .ok (.putfield 28, 3) := by decide +kernel
theorem d_Im_nextByte_19 : decode b_Im_nextByte 19 = .ok (.iload_n 2, 1) := by decide +kernel
theorem d_Im_nextByte_20 : decode b_Im_nextByte 20 = .ok (.ireturn, 1) := by decide +kernel
theorem d_Im_readNextName_0 : decode b_Im_readNextName 0 = .ok (.aload_n 0, 1) := by decide +kernel
theorem d_Im_readNextName_1 : decode b_Im_readNextName 1 = .ok (.aload_n 1, 1) := by decide +kernel
theorem d_Im_readNextName_2 : decode b_Im_readNextName 2 = .ok (.invokevirtual 42, 3) := by decide +kernel
theorem d_Im_readNextName_5 : decode b_Im_readNextName 5 = .ok (.istore_n 2, 1) := by decide +kernel
theorem d_Im_readNextName_6 : decode b_Im_readNextName 6 = .ok (.aload_n 0, 1) := by decide +kernel
theorem d_Im_readNextName_7 : decode b_Im_readNextName 7 = .ok (.getfield 28, 3) := by decide +kernel
theorem d_Im_readNextName_10 : decode b_Im_readNextName 10 = .ok (.istore_n 3, 1) := by decide +kernel
theorem d_Im_readNextName_11 : decode b_Im_readNextName 11 = .ok (.aload_n 0, 1) := by decide +kernel
theorem d_Im_readNextName_12 : decode b_Im_readNextName 12 = .ok (.iload_n 3, 1) := by decide +kernel
theorem d_Im_readNextName_13 : decode b_Im_readNextName 13 = .ok (.iload_n 2, 1) := by decide +kernel
theorem d_Im_readNextName_14 : decode b_Im_readNextName 14 = .ok (.iadd, 1) := by decide +kernel
theorem d_Im_readNextName_15 : decode b_Im_readNextName 15 = .ok (.putfield 28, 3) := by decide +kernel
theorem d_Im_readNextName_18 : decode b_Im_readNextName 18 = .ok (.aload_n 1, 1) := by decide +kernel
theorem d_Im_readNextName_19 : decode b_Im_readNextName 19 = .ok (.iload_n 3, 1) := by decide +kernel
theorem d_Im_readNextName_20 : decode b_Im_readNextName 20 = .ok (.aload_n 0, 1) := by decide +kernel
theorem d_Im_readNextName_21 : decode b_Im_readNextName 21 = .ok (.getfield 28, 3) := by decide +kernel
theorem d_Im_readNextName_24 : decode b_Im_readNextName 24 = .ok (.aload_n 0, 1) := by decide +kernel
theorem d_Im_readNextName_25 : decode b_Im_readNextName 25 = .ok (.getfield 14, 3) := by decide +kernel
theorem d_Im_readNextName_28 : decode b_Im_readNextName 28 = .ok (.invokestatic 77, 3) := by decide +kernel
theorem d_Im_readNextName_31 : decode b_Im_readNextName 31 = .ok (.ireturn, 1) := by decide +kernel
theorem d_Im_readTurnedRow_0 : decode b_Im_readTurnedRow 0 = .ok (.iconst 0, 1) := by decide +kernel
theorem d_Im_readTurnedRow_1 : decode b_Im_readTurnedRow 1 = .ok (.istore_n 3, 1) := by decide +kernel
theorem d_Im_readTurnedRow_2 : decode b_Im_readTurnedRow 2 = .ok (.iload_n 3, 1) := by decide +kernel
theorem d_Im_readTurnedRow_3 : decode b_Im_readTurnedRow 3 = .ok (.aload_n 2, 1) := by decide +kernel
theorem d_Im_readTurnedRow_4 : decode b_Im_readTurnedRow 4 = .ok (.invokevirtual 81, 3) := by decide +kernel
theorem d_Im_readTurnedRow_7 : decode b_Im_readTurnedRow 7 = .ok (.if_icmp .ge 41, 3) := by decide +kernel
theorem d_Im_readTurnedRow_10 : decode b_Im_readTurnedRow 10 = .ok (.aload_n 0, 1) := by decide +kernel
theorem d_Im_readTurnedRow_11 : decode b_Im_readTurnedRow 11 = .ok (.aload_n 1, 1) := by decide +kernel
theorem d_Im_readTurnedRow_12 : decode b_Im_readTurnedRow 12 = .ok (.invokevirtual 42, 3) := by decide +kernel
theorem d_Im_readTurnedRow_15 : decode b_Im_readTurnedRow 15 = .ok (.istore 4, 2) := by decide +kernel
theorem d_Im_readTurnedRow_17 : decode b_Im_readTurnedRow 17 = .ok (.iload 4, 2) := by decide +kernel
theorem d_Im_readTurnedRow_19 : decode b_Im_readTurnedRow 19 = .ok (.ifCond .lt 13, 3) := by decide +kernel
theorem d_Im_readTurnedRow_22 : decode b_Im_readTurnedRow 22 = .ok (.iload 4, 2) := by decide +kernel
theorem d_Im_readTurnedRow_24 : decode b_Im_readTurnedRow 24 = .ok (.ldc 85, 2) := by decide +kernel
theorem d_Im_readTurnedRow_26 : decode b_Im_readTurnedRow 26 = .ok (.invokevirtual 87, 3) := by decide +kernel
theorem d_Im_readTurnedRow_29 : decode b_Im_readTurnedRow 29 = .ok (.if_icmp .lt 5, 3) := by decide +kernel
theorem d_Im_readTurnedRow_32 : decode b_Im_readTurnedRow 32 = .ok (.iconst 0, 1) := by decide +kernel
theorem d_Im_readTurnedRow_33 : decode b_Im_readTurnedRow 33 = .ok (.ireturn, 1) := by decide +kernel
theorem d_Im_readTurnedRow_34 : decode b_Im_readTurnedRow 34 = .ok (.aload_n 2, 1) := by decide +kernel
theorem d_Im_readTurnedRow_35 : decode b_Im_readTurnedRow 35 = .ok (.getfield 92, 3) := by decide +kernel
theorem d_Im_readTurnedRow_38 : decode b_Im_readTurnedRow 38 = .ok (.iload_n 3, 1) := by decide +kernel
theorem d_Im_readTurnedRow_39 : decode b_Im_readTurnedRow 39 = .ok (.iload 4, 2) := by decide +kernel
theorem d_Im_readTurnedRow_41 : decode b_Im_readTurnedRow 41 = .ok (.iastore, 1) := by decide +kernel
theorem d_Im_readTurnedRow_42 : decode b_Im_readTurnedRow 42 = .ok (.iinc 3 1, 3) := by decide +kernel
theorem d_Im_readTurnedRow_45 : decode b_Im_readTurnedRow 45 = .ok (.goto (-43), 3) := by decide +kernel
theorem d_Im_readTurnedRow_48 : decode b_Im_readTurnedRow 48 = .ok (.iconst 1, 1) := by decide +kernel
theorem d_Im_readTurnedRow_49 : decode b_Im_readTurnedRow 49 = .ok (.ireturn, 1) := by decide +kernel
set_option maxHeartbeats 4000000 in
set_option maxRecDepth 100000 in
theorem c_Im_hasHead (l : Launch) (D : va_G) (cA : Nat → ClassId) (K : Nat → Nat) (a b cap : Nat) (f : Nat → Int32) (L : List Int32) (hc : cd_r cap f L) : ck_I l y_Im_hasHead (Cond.code y_Im_hasHead b_Im_hasHead 2 (some .boolean) :: w_all) 2 D cA K [.ref a] [(a, .inr (0, [.ref b, .int (nI L.length)])), (b, .inl (cA 0, cap, .inl f))] (fun (r : Int32) (u : Unit) => (r = 1 ∧ hd_p L) ∨ (r = 0 ∧ ¬ hd_p L)) (fun u => [(a, .inr (0, [.ref b, .int (nI L.length)])), (b, .inl (cA 0, cap, .inl f))]) := by
  refine ck_mkI (by decide) (fun r u h => by rcases h with ⟨rfl, _⟩ | ⟨rfl, _⟩ <;> rfl) (Nat.le_of_ble_eq_true rfl) ?_
  intro pG eG sG mG argsG belowG methG cG Q A H locs ls hx hb hml hown hts hK hE hA hP hD hS hl hret
  have hl : lv_has ls 2 [(0, .ref a)] := hl
  refine lv_iconst (v := nI 0) hx hb d_Im_hasHead_0 (by decide) ?_
  refine lv_istore_n (lv' := [(1, .int (nI 0)), (0, .ref a)]) hx hb d_Im_hasHead_1 rfl hl (by decide) rfl (fun ls hl => ?_)
  refine lv_iload_n hx hb d_Im_hasHead_2 rfl (lv_at hl 0 rfl) ?_
  refine va_getsN hx hb hE.2.2.1 hS hown (va_Nw.use rfl (hE.1 _ n_776)) (fun _ h9 => h9) d_Im_hasHead_3 ?_
  refine va_tlen (v := nI 3) hx hb hE.2.2.2.1 hS rfl d_Im_hasHead_6 ?_
  refine lv_icmp_ge (tgt := 31) hx hb d_Im_hasHead_7 (by decide) (fun h9 => absurd h9 (by decide)) (fun _ => ?_)
  refine lv_aload_n hx hb d_Im_hasHead_10 rfl (lv_at hl 1 rfl) ?_
  refine lv_iload_n hx hb d_Im_hasHead_11 rfl (lv_at hl 0 rfl) ?_
  refine ck_cV (C := "ReadMapper$Codes") (ci := 0) (rest := []) (wr := []) (ws2 := fun u => [(a, .inr (0, [.ref b, .int (nI L.length)])), (b, .inl (cA 0, cap, .inl f))]) (c_Co_at l D cA K a b cap f L (nI 0) (by first | assumption | omega)) hx hb hml hown hts hK hE hA hP hD hS k_Co_at m_777 (by decide) 0 rfl rfl rfl hl.1 rfl (Nat.le_of_ble_eq_true rfl) d_Im_hasHead_12  [0, 1] [] [0, 1] rfl rfl (by decide) (fun _ => rfl) (fun r12 u12 H locs hq12 hP hD hS => ?_)
  try dsimp only at hq12
  have hP : va_P D vwCl [(a, .inr (0, [.ref b, .int (nI L.length)])), (b, .inl (cA 0, cap, .inl f))] H := hP
  have hD : va_D A [(a, .inr (0, [.ref b, .int (nI L.length)])), (b, .inl (cA 0, cap, .inl f))] := hD
  obtain rfl := hq12
  refine va_getsN hx hb hE.2.2.1 hS hown (va_Nw.use rfl (hE.1 _ n_776)) (fun _ h9 => h9) d_Im_hasHead_15 ?_
  refine lv_iload_n hx hb d_Im_hasHead_18 rfl (lv_at hl 0 rfl) ?_
  refine va_ti (v := .int 70) hx hb hE.2.2.2.1 hS (vp_in_nI (by decide) (by decide)) rfl d_Im_hasHead_19 ?_
  refine lv_icmp_eq (tgt := 25) hx hb d_Im_hasHead_20 (by decide) ?_ ?_
  · intro h20
    refine lv_iinc (k := 0) (v := nI 1) (lv' := [(1, .int (nI 1)), (0, .ref a)]) hx hb d_Im_hasHead_25 hl rfl (wi_inc1 _) (by decide) rfl (fun ls hl => ?_)
    refine lv_goto (tgt := 2) hx hb d_Im_hasHead_28 (by decide) ?_
    refine lv_iload_n hx hb d_Im_hasHead_2 rfl (lv_at hl 0 rfl) ?_
    refine va_getsN hx hb hE.2.2.1 hS hown (va_Nw.use rfl (hE.1 _ n_776)) (fun _ h9 => h9) d_Im_hasHead_3 ?_
    refine va_tlen (v := nI 3) hx hb hE.2.2.2.1 hS rfl d_Im_hasHead_6 ?_
    refine lv_icmp_ge (tgt := 31) hx hb d_Im_hasHead_7 (by decide) (fun h9 => absurd h9 (by decide)) (fun _ => ?_)
    refine lv_aload_n hx hb d_Im_hasHead_10 rfl (lv_at hl 1 rfl) ?_
    refine lv_iload_n hx hb d_Im_hasHead_11 rfl (lv_at hl 0 rfl) ?_
    refine ck_cV (C := "ReadMapper$Codes") (ci := 0) (rest := []) (wr := []) (ws2 := fun u => [(a, .inr (0, [.ref b, .int (nI L.length)])), (b, .inl (cA 0, cap, .inl f))]) (c_Co_at l D cA K a b cap f L (nI 1) (by first | assumption | omega)) hx hb hml hown hts hK hE hA hP hD hS k_Co_at m_777 (by decide) 0 rfl rfl rfl hl.1 rfl (Nat.le_of_ble_eq_true rfl) d_Im_hasHead_12  [0, 1] [] [0, 1] rfl rfl (by decide) (fun _ => rfl) (fun r12 u12 H locs hq12 hP hD hS => ?_)
    try dsimp only at hq12
    have hP : va_P D vwCl [(a, .inr (0, [.ref b, .int (nI L.length)])), (b, .inl (cA 0, cap, .inl f))] H := hP
    have hD : va_D A [(a, .inr (0, [.ref b, .int (nI L.length)])), (b, .inl (cA 0, cap, .inl f))] := hD
    obtain rfl := hq12
    refine va_getsN hx hb hE.2.2.1 hS hown (va_Nw.use rfl (hE.1 _ n_776)) (fun _ h9 => h9) d_Im_hasHead_15 ?_
    refine lv_iload_n hx hb d_Im_hasHead_18 rfl (lv_at hl 0 rfl) ?_
    refine va_ti (v := .int 77) hx hb hE.2.2.2.1 hS (vp_in_nI (by decide) (by decide)) rfl d_Im_hasHead_19 ?_
    refine lv_icmp_eq (tgt := 25) hx hb d_Im_hasHead_20 (by decide) ?_ ?_
    · intro h20_2
      refine lv_iinc (k := 0) (v := nI 2) (lv' := [(1, .int (nI 2)), (0, .ref a)]) hx hb d_Im_hasHead_25 hl rfl (wi_inc1 _) (by decide) rfl (fun ls hl => ?_)
      refine lv_goto (tgt := 2) hx hb d_Im_hasHead_28 (by decide) ?_
      refine lv_iload_n hx hb d_Im_hasHead_2 rfl (lv_at hl 0 rfl) ?_
      refine va_getsN hx hb hE.2.2.1 hS hown (va_Nw.use rfl (hE.1 _ n_776)) (fun _ h9 => h9) d_Im_hasHead_3 ?_
      refine va_tlen (v := nI 3) hx hb hE.2.2.2.1 hS rfl d_Im_hasHead_6 ?_
      refine lv_icmp_ge (tgt := 31) hx hb d_Im_hasHead_7 (by decide) (fun h9 => absurd h9 (by decide)) (fun _ => ?_)
      refine lv_aload_n hx hb d_Im_hasHead_10 rfl (lv_at hl 1 rfl) ?_
      refine lv_iload_n hx hb d_Im_hasHead_11 rfl (lv_at hl 0 rfl) ?_
      refine ck_cV (C := "ReadMapper$Codes") (ci := 0) (rest := []) (wr := []) (ws2 := fun u => [(a, .inr (0, [.ref b, .int (nI L.length)])), (b, .inl (cA 0, cap, .inl f))]) (c_Co_at l D cA K a b cap f L (nI 2) (by first | assumption | omega)) hx hb hml hown hts hK hE hA hP hD hS k_Co_at m_777 (by decide) 0 rfl rfl rfl hl.1 rfl (Nat.le_of_ble_eq_true rfl) d_Im_hasHead_12  [0, 1] [] [0, 1] rfl rfl (by decide) (fun _ => rfl) (fun r12 u12 H locs hq12 hP hD hS => ?_)
      try dsimp only at hq12
      have hP : va_P D vwCl [(a, .inr (0, [.ref b, .int (nI L.length)])), (b, .inl (cA 0, cap, .inl f))] H := hP
      have hD : va_D A [(a, .inr (0, [.ref b, .int (nI L.length)])), (b, .inl (cA 0, cap, .inl f))] := hD
      obtain rfl := hq12
      refine va_getsN hx hb hE.2.2.1 hS hown (va_Nw.use rfl (hE.1 _ n_776)) (fun _ h9 => h9) d_Im_hasHead_15 ?_
      refine lv_iload_n hx hb d_Im_hasHead_18 rfl (lv_at hl 0 rfl) ?_
      refine va_ti (v := .int 1) hx hb hE.2.2.2.1 hS (vp_in_nI (by decide) (by decide)) rfl d_Im_hasHead_19 ?_
      refine lv_icmp_eq (tgt := 25) hx hb d_Im_hasHead_20 (by decide) ?_ ?_
      · intro h20_3
        refine lv_iinc (k := 0) (v := nI 3) (lv' := [(1, .int (nI 3)), (0, .ref a)]) hx hb d_Im_hasHead_25 hl rfl (wi_inc1 _) (by decide) rfl (fun ls hl => ?_)
        refine lv_goto (tgt := 2) hx hb d_Im_hasHead_28 (by decide) ?_
        refine lv_iload_n hx hb d_Im_hasHead_2 rfl (lv_at hl 0 rfl) ?_
        refine va_getsN hx hb hE.2.2.1 hS hown (va_Nw.use rfl (hE.1 _ n_776)) (fun _ h9 => h9) d_Im_hasHead_3 ?_
        refine va_tlen (v := nI 3) hx hb hE.2.2.2.1 hS rfl d_Im_hasHead_6 ?_
        refine lv_icmp_ge (tgt := 31) hx hb d_Im_hasHead_7 (by decide) (fun _ => ?_) (fun h9 => absurd h9 (by decide))
        refine lv_iconst (v := 1) hx hb d_Im_hasHead_31 (by decide) ?_
        exact hret 1 () _ _ _ 32 d_Im_hasHead_32 (by first | exact Or.inl ⟨rfl, h20, h20_2, h20_3⟩ | exact Or.inr ⟨rfl, fun z => h20 z.1⟩ | exact Or.inr ⟨rfl, fun z => h20_2 z.2.1⟩ | exact Or.inr ⟨rfl, fun z => h20_3 z.2.2⟩) hP hD hS
      · intro h20_3
        refine lv_iconst (v := 0) hx hb d_Im_hasHead_23 (by decide) ?_
        exact hret 0 () _ _ _ 24 d_Im_hasHead_24 (by first | exact Or.inl ⟨rfl, h20, h20_2, h20_3⟩ | exact Or.inr ⟨rfl, fun z => h20 z.1⟩ | exact Or.inr ⟨rfl, fun z => h20_2 z.2.1⟩ | exact Or.inr ⟨rfl, fun z => h20_3 z.2.2⟩) hP hD hS
    · intro h20_2
      refine lv_iconst (v := 0) hx hb d_Im_hasHead_23 (by decide) ?_
      exact hret 0 () _ _ _ 24 d_Im_hasHead_24 (by first | exact Or.inl ⟨rfl, h20, h20_2, h20_3⟩ | exact Or.inr ⟨rfl, fun z => h20 z.1⟩ | exact Or.inr ⟨rfl, fun z => h20_2 z.2.1⟩ | exact Or.inr ⟨rfl, fun z => h20_3 z.2.2⟩) hP hD hS
  · intro h20
    refine lv_iconst (v := 0) hx hb d_Im_hasHead_23 (by decide) ?_
    exact hret 0 () _ _ _ 24 d_Im_hasHead_24 (by first | exact Or.inl ⟨rfl, h20, h20_2, h20_3⟩ | exact Or.inr ⟨rfl, fun z => h20 z.1⟩ | exact Or.inr ⟨rfl, fun z => h20_2 z.2.1⟩ | exact Or.inr ⟨rfl, fun z => h20_3 z.2.2⟩) hP hD hS
theorem k_Im_hasHead : cf_S y_Im_hasHead b_Im_hasHead 2 (some .boolean) 1 := ⟨⟨m_774, m_8, m_775⟩, by decide +kernel⟩
set_option maxHeartbeats 4000000 in
set_option maxRecDepth 100000 in
theorem c_Im_nextByte (l : Launch) (D : va_G) (cA : Nat → ClassId) (K : Nat → Nat) (ma mn mnb nx : Nat) (a b cap : Nat) (f : Nat → Int32) (L : List Int32) (hc : cd_r cap f L) : ck_I l y_Im_nextByte (Cond.code y_Im_nextByte b_Im_nextByte 3 (some .int) :: w_all) 2 D cA K [.ref ma, .ref a] [(ma, .inr (2, [.ref mn, .int (nI nx)])), (a, .inr (0, [.ref b, .int (nI L.length)])), (b, .inl (cA 0, cap, .inl f))] (fun (r : Int32) (u : Unit) => r = at_c L (nI nx)) (fun u => [(ma, .inr (2, [.ref mn, .int (nI (nx + 1))])), (a, .inr (0, [.ref b, .int (nI L.length)])), (b, .inl (cA 0, cap, .inl f))]) := by
  refine ck_mkI (by decide) (fun _ _ _ => rfl) (Nat.le_of_ble_eq_true rfl) ?_
  intro pG eG sG mG argsG belowG methG cG Q A H locs ls hx hb hml hown hts hK hE hA hP hD hS hl hret
  have hl : lv_has ls 3 [(0, .ref ma), (1, .ref a)] := hl
  refine lv_aload_n hx hb d_Im_nextByte_0 rfl (lv_at hl 1 rfl) ?_
  refine lv_aload_n hx hb d_Im_nextByte_1 rfl (lv_at hl 0 rfl) ?_
  refine va_get (C := RX2) (T := TX2) (N := 2) hx hb hts inX2 hown hK hP 0 rfl rfl 1 (by decide) (hts _ m_180) (fun _ h9 => h9) rfl d_Im_nextByte_2 ?_
  refine ck_cV (C := "ReadMapper$Codes") (ci := 0) (rest := []) (wr := [(ma, .inr (2, [.ref mn, .int (nI nx)]))]) (ws2 := fun u => [(ma, .inr (2, [.ref mn, .int (nI nx)])), (a, .inr (0, [.ref b, .int (nI L.length)])), (b, .inl (cA 0, cap, .inl f))]) (c_Co_at l D cA K a b cap f L (nI nx) (by first | assumption | omega)) hx hb hml hown hts hK hE hA hP hD hS k_Co_at m_777 (by decide) 1 rfl rfl rfl hl.1 rfl (Nat.le_of_ble_eq_true rfl) d_Im_nextByte_5  [1, 2] [0] [0, 1, 2] rfl rfl (by decide) (fun _ => rfl) (fun r5 u5 H locs hq5 hP hD hS => ?_)
  try dsimp only at hq5
  have hP : va_P D vwCl [(ma, .inr (2, [.ref mn, .int (nI nx)])), (a, .inr (0, [.ref b, .int (nI L.length)])), (b, .inl (cA 0, cap, .inl f))] H := hP
  have hD : va_D A [(ma, .inr (2, [.ref mn, .int (nI nx)])), (a, .inr (0, [.ref b, .int (nI L.length)])), (b, .inl (cA 0, cap, .inl f))] := hD
  obtain rfl := hq5
  refine lv_istore_n (lv' := [(2, .int (at_c L (nI nx))), (0, .ref ma), (1, .ref a)]) hx hb d_Im_nextByte_8 rfl hl (by decide) rfl (fun ls hl => ?_)
  refine lv_aload_n hx hb d_Im_nextByte_9 rfl (lv_at hl 1 rfl) ?_
  refine lv_dup hx hb d_Im_nextByte_10 rfl ?_
  refine va_get (C := RX2) (T := TX2) (N := 2) hx hb hts inX2 hown hK hP 0 rfl rfl 1 (by decide) (hts _ m_180) (fun _ h9 => h9) rfl d_Im_nextByte_11 ?_
  refine lv_iconst (v := nI 1) hx hb d_Im_nextByte_14 (by decide) ?_
  refine wn_iadd hx hb d_Im_nextByte_15 ?_
  refine va_put (D := D) (ci := 2) (v := .int (nI (nx + 1))) (ty := .int) (C := RX2) (T := TX2) (N := 2) hx hb hts inX2 tyX2 tyX2_ok nmX2 hown hK hP hD hS 0 rfl rfl 1 (by decide) (hts _ m_180) (fun _ h9 => h9) rfl (by decide +kernel) rfl rfl (Nat.le_of_ble_eq_true rfl) d_Im_nextByte_16 (fun H locs hP hD hS => ?_)
  have hP : va_P D vwCl [(ma, .inr (2, [.ref mn, .int (nI (nx + 1))])), (a, .inr (0, [.ref b, .int (nI L.length)])), (b, .inl (cA 0, cap, .inl f))] H := hP
  have hD : va_D A [(ma, .inr (2, [.ref mn, .int (nI (nx + 1))])), (a, .inr (0, [.ref b, .int (nI L.length)])), (b, .inl (cA 0, cap, .inl f))] := hD
  refine lv_iload_n hx hb d_Im_nextByte_19 rfl (lv_at hl 0 rfl) ?_
  exact hret (at_c L (nI nx)) () _ _ _ 20 d_Im_nextByte_20 rfl hP hD hS
theorem k_Im_nextByte : cf_V y_Im_nextByte b_Im_nextByte 3 (some .int) "ReadMapper$ImageReader" 1 := ⟨⟨m_811, (wm_s (q := (y_Im_nextByte, 2)) (by decide +kernel)), m_8, m_812⟩, by decide +kernel⟩
set_option maxHeartbeats 4000000 in
set_option maxRecDepth 100000 in
theorem c_Im_readNextName (l : Launch) (D : va_G) (cA : Nat → ClassId) (K : Nat → Nat) (ma mn mnb nx : Nat) (fm : Nat → Int32) (MN : List Int32) (a b cap : Nat) (f : Nat → Int32) (L : List Int32) (hc : cd_r cap f L) (hby : ∀ j, j < L.length → ∃ k, k < 256 ∧ L.getD j 0 = nI k) (hm : cd_r 8 fm MN) (hnx : nx ≤ 1000) : ck_I l y_Im_readNextName (Cond.code y_Im_readNextName b_Im_readNextName 4 (some .boolean) :: w_all) 4 D cA K [.ref ma, .ref a] [(ma, .inr (2, [.ref mn, .int (nI nx)])), (mn, .inr (0, [.ref mnb, .int (nI MN.length)])), (mnb, .inl (cA 0, 8, .inl fm)), (a, .inr (0, [.ref b, .int (nI L.length)])), (b, .inl (cA 0, cap, .inl f))] (fun (r : Int32) (u : (Nat) × (Nat → Int32) × (List Int32)) => (r = 1 ∧ cd_r 8 u.2.1 u.2.2 ∧ nm_ok L (nx + 1) (nx + 1 + bn_c L nx) ∧ u.2.2 = sl_p L (nx + 1) (nx + 1 + bn_c L nx) ∧ u.1 = nx + 1 + bn_c L nx) ∨ (r = 0 ∧ cd_r 8 u.2.1 u.2.2 ∧ ¬ nm_ok L (nx + 1) (nx + 1 + bn_c L nx))) (fun u => [(ma, .inr (2, [.ref mn, .int (nI u.1)])), (mn, .inr (0, [.ref mnb, .int (nI u.2.2.length)])), (mnb, .inl (cA 0, 8, .inl u.2.1)), (a, .inr (0, [.ref b, .int (nI L.length)])), (b, .inl (cA 0, cap, .inl f))]) := by
  refine ck_mkI (by decide) (fun r u h => by rcases h with ⟨rfl, _⟩ | ⟨rfl, _⟩ <;> rfl) (Nat.le_of_ble_eq_true rfl) ?_
  intro pG eG sG mG argsG belowG methG cG Q A H locs ls hx hb hml hown hts hK hE hA hP hD hS hl hret
  have hl : lv_has ls 4 [(0, .ref ma), (1, .ref a)] := hl
  have hl1 := cd_len hc
  refine lv_aload_n hx hb d_Im_readNextName_0 rfl (lv_at hl 0 rfl) ?_
  refine lv_aload_n hx hb d_Im_readNextName_1 rfl (lv_at hl 1 rfl) ?_
  refine ck_cV (C := "ReadMapper$ImageReader") (ci := 2) (rest := []) (wr := [(mn, .inr (0, [.ref mnb, .int (nI MN.length)])), (mnb, .inl (cA 0, 8, .inl fm))]) (ws2 := fun u => [(ma, .inr (2, [.ref mn, .int (nI (nx + 1))])), (mn, .inr (0, [.ref mnb, .int (nI MN.length)])), (mnb, .inl (cA 0, 8, .inl fm)), (a, .inr (0, [.ref b, .int (nI L.length)])), (b, .inl (cA 0, cap, .inl f))]) (c_Im_nextByte l D cA K ma mn 0 nx a b cap f L (by first | assumption | omega)) hx hb hml hown hts hK hE hA hP hD hS k_Im_nextByte m_809 (by decide) 0 rfl rfl rfl hl.1 rfl (Nat.le_of_ble_eq_true rfl) d_Im_readNextName_2  [0, 3, 4] [1, 2] [2, 0, 1, 3, 4] rfl rfl (by decide) (fun _ => rfl) (fun r2 u2 H locs hq2 hP hD hS => ?_)
  try dsimp only at hq2
  have hP : va_P D vwCl [(ma, .inr (2, [.ref mn, .int (nI (nx + 1))])), (mn, .inr (0, [.ref mnb, .int (nI MN.length)])), (mnb, .inl (cA 0, 8, .inl fm)), (a, .inr (0, [.ref b, .int (nI L.length)])), (b, .inl (cA 0, cap, .inl f))] H := hP
  have hD : va_D A [(ma, .inr (2, [.ref mn, .int (nI (nx + 1))])), (mn, .inr (0, [.ref mnb, .int (nI MN.length)])), (mnb, .inl (cA 0, 8, .inl fm)), (a, .inr (0, [.ref b, .int (nI L.length)])), (b, .inl (cA 0, cap, .inl f))] := hD
  obtain rfl := hq2
  rcases bn_at (i := nx) hby (by omega) (by omega) with ⟨hz, hz0⟩ | ⟨kb, hkb, hz, hz0⟩
  ·
    refine wn_eq (y := (-1)) hz ?_
    refine lv_istore_n (lv' := [(2, .int (-1)), (0, .ref ma), (1, .ref a)]) hx hb d_Im_readNextName_5 rfl hl (by decide) rfl (fun ls hl => ?_)
    refine lv_aload_n hx hb d_Im_readNextName_6 rfl (lv_at hl 1 rfl) ?_
    refine va_get (C := RX2) (T := TX2) (N := 2) hx hb hts inX2 hown hK hP 0 rfl rfl 1 (by decide) (hts _ m_180) (fun _ h9 => h9) rfl d_Im_readNextName_7 ?_
    refine lv_istore_n (lv' := [(3, .int (nI (nx + 1))), (2, .int (-1)), (0, .ref ma), (1, .ref a)]) hx hb d_Im_readNextName_10 rfl hl (by decide) rfl (fun ls hl => ?_)
    refine lv_aload_n hx hb d_Im_readNextName_11 rfl (lv_at hl 2 rfl) ?_
    refine lv_iload_n hx hb d_Im_readNextName_12 rfl (lv_at hl 0 rfl) ?_
    refine lv_iload_n hx hb d_Im_readNextName_13 rfl (lv_at hl 1 rfl) ?_
    refine lv_iadd hx hb d_Im_readNextName_14 ?_
    refine wn_eq (y := nI nx) (pk_m1 nx) ?_
    refine va_put (D := D) (ci := 2) (v := .int (nI nx)) (ty := .int) (C := RX2) (T := TX2) (N := 2) hx hb hts inX2 tyX2 tyX2_ok nmX2 hown hK hP hD hS 0 rfl rfl 1 (by decide) (hts _ m_180) (fun _ h9 => h9) rfl (by decide +kernel) rfl rfl (Nat.le_of_ble_eq_true rfl) d_Im_readNextName_15 (fun H locs hP hD hS => ?_)
    have hP : va_P D vwCl [(ma, .inr (2, [.ref mn, .int (nI nx)])), (mn, .inr (0, [.ref mnb, .int (nI MN.length)])), (mnb, .inl (cA 0, 8, .inl fm)), (a, .inr (0, [.ref b, .int (nI L.length)])), (b, .inl (cA 0, cap, .inl f))] H := hP
    have hD : va_D A [(ma, .inr (2, [.ref mn, .int (nI nx)])), (mn, .inr (0, [.ref mnb, .int (nI MN.length)])), (mnb, .inl (cA 0, 8, .inl fm)), (a, .inr (0, [.ref b, .int (nI L.length)])), (b, .inl (cA 0, cap, .inl f))] := hD
    refine lv_aload_n hx hb d_Im_readNextName_18 rfl (lv_at hl 3 rfl) ?_
    refine lv_iload_n hx hb d_Im_readNextName_19 rfl (lv_at hl 0 rfl) ?_
    refine lv_aload_n hx hb d_Im_readNextName_20 rfl (lv_at hl 2 rfl) ?_
    refine va_get (C := RX2) (T := TX2) (N := 2) hx hb hts inX2 hown hK hP 0 rfl rfl 1 (by decide) (hts _ m_180) (fun _ h9 => h9) rfl d_Im_readNextName_21 ?_
    refine lv_aload_n hx hb d_Im_readNextName_24 rfl (lv_at hl 2 rfl) ?_
    refine va_get (C := RX2) (T := TX2) (N := 2) hx hb hts inX2 hown hK hP 0 rfl rfl 0 (by decide) (hts _ m_179) (fun _ h9 => h9) rfl d_Im_readNextName_25 ?_
    refine ck_cSN (rest := []) (wr := [(ma, .inr (2, [.ref mn, .int (nI nx)]))]) (ws2 := fun u => [(ma, .inr (2, [.ref mn, .int (nI nx)])), (mn, .inr (0, [.ref mnb, .int (nI u.2.length)])), (mnb, .inl (cA 0, 8, .inl u.1)), (a, .inr (0, [.ref b, .int (nI L.length)])), (b, .inl (cA 0, cap, .inl f))]) (c_Rm_readName l D cA K a b cap f L mn mnb 8 fm MN (nx + 1) nx hc hm (by first | assumption | omega) (by first | assumption | omega) (by first | assumption | omega)) hx hb hml hown hts hK hE hA hP hD hS k_Rm_readName n_817 (by decide) rfl hl.1 rfl (Nat.le_of_ble_eq_true rfl) d_Im_readNextName_28 [3, 4, 1, 2] [0] [0, 3, 4, 1, 2] rfl rfl (by decide) (fun _ => rfl) (fun r28 u28 H locs hq28 hP hD hS => ?_)
    obtain ⟨g2_28, M2_28⟩ := u28
    try dsimp only at hq28
    have hP : va_P D vwCl [(ma, .inr (2, [.ref mn, .int (nI nx)])), (mn, .inr (0, [.ref mnb, .int (nI M2_28.length)])), (mnb, .inl (cA 0, 8, .inl g2_28)), (a, .inr (0, [.ref b, .int (nI L.length)])), (b, .inl (cA 0, cap, .inl f))] H := hP
    have hD : va_D A [(ma, .inr (2, [.ref mn, .int (nI nx)])), (mn, .inr (0, [.ref mnb, .int (nI M2_28.length)])), (mnb, .inl (cA 0, 8, .inl g2_28)), (a, .inr (0, [.ref b, .int (nI L.length)])), (b, .inl (cA 0, cap, .inl f))] := hD
    rcases hq28 with ⟨rfl, hq28⟩ | ⟨rfl, hq28⟩
    ·
      exact hret 1 (nx, g2_28, M2_28) _ _ _ 31 d_Im_readNextName_31 (by rw [hz0]; first | exact Or.inl ⟨rfl, hq28.1, hq28.2.1, hq28.2.2, rfl⟩ | exact Or.inr ⟨rfl, hq28.1, hq28.2⟩ | exact absurd hq28.2.1.1 (by omega) | exact Or.inr ⟨rfl, hq28.1, fun z => by have := z.1; omega⟩) hP hD hS
    ·
      exact hret 0 (nx, g2_28, M2_28) _ _ _ 31 d_Im_readNextName_31 (by rw [hz0]; first | exact Or.inl ⟨rfl, hq28.1, hq28.2.1, hq28.2.2, rfl⟩ | exact Or.inr ⟨rfl, hq28.1, hq28.2⟩ | exact absurd hq28.2.1.1 (by omega) | exact Or.inr ⟨rfl, hq28.1, fun z => by have := z.1; omega⟩) hP hD hS
  ·
    refine wn_eq (y := nI kb) hz ?_
    refine lv_istore_n (lv' := [(2, .int (nI kb)), (0, .ref ma), (1, .ref a)]) hx hb d_Im_readNextName_5 rfl hl (by decide) rfl (fun ls hl => ?_)
    refine lv_aload_n hx hb d_Im_readNextName_6 rfl (lv_at hl 1 rfl) ?_
    refine va_get (C := RX2) (T := TX2) (N := 2) hx hb hts inX2 hown hK hP 0 rfl rfl 1 (by decide) (hts _ m_180) (fun _ h9 => h9) rfl d_Im_readNextName_7 ?_
    refine lv_istore_n (lv' := [(3, .int (nI (nx + 1))), (2, .int (nI kb)), (0, .ref ma), (1, .ref a)]) hx hb d_Im_readNextName_10 rfl hl (by decide) rfl (fun ls hl => ?_)
    refine lv_aload_n hx hb d_Im_readNextName_11 rfl (lv_at hl 2 rfl) ?_
    refine lv_iload_n hx hb d_Im_readNextName_12 rfl (lv_at hl 0 rfl) ?_
    refine lv_iload_n hx hb d_Im_readNextName_13 rfl (lv_at hl 1 rfl) ?_
    refine wn_iadd hx hb d_Im_readNextName_14 ?_
    refine va_put (D := D) (ci := 2) (v := .int (nI ((nx + 1) + kb))) (ty := .int) (C := RX2) (T := TX2) (N := 2) hx hb hts inX2 tyX2 tyX2_ok nmX2 hown hK hP hD hS 0 rfl rfl 1 (by decide) (hts _ m_180) (fun _ h9 => h9) rfl (by decide +kernel) rfl rfl (Nat.le_of_ble_eq_true rfl) d_Im_readNextName_15 (fun H locs hP hD hS => ?_)
    have hP : va_P D vwCl [(ma, .inr (2, [.ref mn, .int (nI ((nx + 1) + kb))])), (mn, .inr (0, [.ref mnb, .int (nI MN.length)])), (mnb, .inl (cA 0, 8, .inl fm)), (a, .inr (0, [.ref b, .int (nI L.length)])), (b, .inl (cA 0, cap, .inl f))] H := hP
    have hD : va_D A [(ma, .inr (2, [.ref mn, .int (nI ((nx + 1) + kb))])), (mn, .inr (0, [.ref mnb, .int (nI MN.length)])), (mnb, .inl (cA 0, 8, .inl fm)), (a, .inr (0, [.ref b, .int (nI L.length)])), (b, .inl (cA 0, cap, .inl f))] := hD
    refine lv_aload_n hx hb d_Im_readNextName_18 rfl (lv_at hl 3 rfl) ?_
    refine lv_iload_n hx hb d_Im_readNextName_19 rfl (lv_at hl 0 rfl) ?_
    refine lv_aload_n hx hb d_Im_readNextName_20 rfl (lv_at hl 2 rfl) ?_
    refine va_get (C := RX2) (T := TX2) (N := 2) hx hb hts inX2 hown hK hP 0 rfl rfl 1 (by decide) (hts _ m_180) (fun _ h9 => h9) rfl d_Im_readNextName_21 ?_
    refine lv_aload_n hx hb d_Im_readNextName_24 rfl (lv_at hl 2 rfl) ?_
    refine va_get (C := RX2) (T := TX2) (N := 2) hx hb hts inX2 hown hK hP 0 rfl rfl 0 (by decide) (hts _ m_179) (fun _ h9 => h9) rfl d_Im_readNextName_25 ?_
    refine ck_cSN (rest := []) (wr := [(ma, .inr (2, [.ref mn, .int (nI ((nx + 1) + kb))]))]) (ws2 := fun u => [(ma, .inr (2, [.ref mn, .int (nI ((nx + 1) + kb))])), (mn, .inr (0, [.ref mnb, .int (nI u.2.length)])), (mnb, .inl (cA 0, 8, .inl u.1)), (a, .inr (0, [.ref b, .int (nI L.length)])), (b, .inl (cA 0, cap, .inl f))]) (c_Rm_readName l D cA K a b cap f L mn mnb 8 fm MN (nx + 1) ((nx + 1) + kb) hc hm (by first | assumption | omega) (by first | assumption | omega) (by first | assumption | omega)) hx hb hml hown hts hK hE hA hP hD hS k_Rm_readName n_817 (by decide) rfl hl.1 rfl (Nat.le_of_ble_eq_true rfl) d_Im_readNextName_28 [3, 4, 1, 2] [0] [0, 3, 4, 1, 2] rfl rfl (by decide) (fun _ => rfl) (fun r28 u28 H locs hq28 hP hD hS => ?_)
    obtain ⟨g2_28, M2_28⟩ := u28
    try dsimp only at hq28
    have hP : va_P D vwCl [(ma, .inr (2, [.ref mn, .int (nI ((nx + 1) + kb))])), (mn, .inr (0, [.ref mnb, .int (nI M2_28.length)])), (mnb, .inl (cA 0, 8, .inl g2_28)), (a, .inr (0, [.ref b, .int (nI L.length)])), (b, .inl (cA 0, cap, .inl f))] H := hP
    have hD : va_D A [(ma, .inr (2, [.ref mn, .int (nI ((nx + 1) + kb))])), (mn, .inr (0, [.ref mnb, .int (nI M2_28.length)])), (mnb, .inl (cA 0, 8, .inl g2_28)), (a, .inr (0, [.ref b, .int (nI L.length)])), (b, .inl (cA 0, cap, .inl f))] := hD
    rcases hq28 with ⟨rfl, hq28⟩ | ⟨rfl, hq28⟩
    ·
      exact hret 1 ((nx + 1) + kb, g2_28, M2_28) _ _ _ 31 d_Im_readNextName_31 (by rw [hz0]; first | exact Or.inl ⟨rfl, hq28.1, hq28.2.1, hq28.2.2, rfl⟩ | exact Or.inr ⟨rfl, hq28.1, hq28.2⟩ | exact absurd hq28.2.1.1 (by omega) | exact Or.inr ⟨rfl, hq28.1, fun z => by have := z.1; omega⟩) hP hD hS
    ·
      exact hret 0 ((nx + 1) + kb, g2_28, M2_28) _ _ _ 31 d_Im_readNextName_31 (by rw [hz0]; first | exact Or.inl ⟨rfl, hq28.1, hq28.2.1, hq28.2.2, rfl⟩ | exact Or.inr ⟨rfl, hq28.1, hq28.2⟩ | exact absurd hq28.2.1.1 (by omega) | exact Or.inr ⟨rfl, hq28.1, fun z => by have := z.1; omega⟩) hP hD hS
theorem k_Im_readNextName : cf_V y_Im_readNextName b_Im_readNextName 4 (some .boolean) "ReadMapper$ImageReader" 1 := ⟨⟨m_815, (wm_s (q := (y_Im_readNextName, 2)) (by decide +kernel)), m_8, m_816⟩, by decide +kernel⟩
set_option maxHeartbeats 4000000 in
set_option maxRecDepth 100000 in
theorem c_Im_readTurnedRow (l : Launch) (D : va_G) (cA : Nat → ClassId) (K : Nat → Nat) (ma mn mnb nx : Nat) (a b cap : Nat) (f : Nat → Int32) (L : List Int32) (ia ix it ik rt : Nat) (pa pn ps pln pr : Nat) (num pl : Nat) (tr : Nat → Int32) (hc : cd_r cap f L) (hnx : nx ≤ 1000) (hpl : pl ≤ 65) : ck_I l y_Im_readTurnedRow (Cond.code y_Im_readTurnedRow b_Im_readTurnedRow 5 (some .boolean) :: w_all) 3 D cA K [.ref ma, .ref a, .ref ia] [(ma, .inr (2, [.ref mn, .int (nI nx)])), (a, .inr (0, [.ref b, .int (nI L.length)])), (b, .inl (cA 0, cap, .inl f)), (ia, .inr (3, [.ref pa, .ref ix, .ref it, .ref ik, .int (nI rt)])), (pa, .inr (4, [.ref pn, .ref ps, .ref pln, .ref pr, .int (nI num), .int (nI pl)])), (it, .inl (cA 0, 65, .inl tr))] (fun (r : Int32) (u : (Nat) × (Nat → Int32)) => (r = 1 ∧ u.1 = nx + pl ∧ (∀ j, j < pl → s7_p (at_c L (nI (nx + j)))) ∧ ∀ j, j < pl → u.2 j = at_c L (nI (nx + j))) ∨ (r = 0 ∧ ¬ ∀ j, j < pl → s7_p (at_c L (nI (nx + j))))) (fun u => [(ma, .inr (2, [.ref mn, .int (nI u.1)])), (a, .inr (0, [.ref b, .int (nI L.length)])), (b, .inl (cA 0, cap, .inl f)), (ia, .inr (3, [.ref pa, .ref ix, .ref it, .ref ik, .int (nI rt)])), (pa, .inr (4, [.ref pn, .ref ps, .ref pln, .ref pr, .int (nI num), .int (nI pl)])), (it, .inl (cA 0, 65, .inl u.2))]) := by
  refine ck_mkI (by decide) (fun r u h => by rcases h with ⟨rfl, _⟩ | ⟨rfl, _⟩ <;> rfl) (Nat.le_of_ble_eq_true rfl) ?_
  intro pG eG sG mG argsG belowG methG cG Q A H locs ls hx hb hml hown hts hK hE hA hP hD hS hl hret
  have hl : lv_has ls 5 [(0, .ref ma), (1, .ref a), (2, .ref ia)] := hl
  have hl1 := cd_len hc
  refine lv_iconst (v := nI 0) hx hb d_Im_readTurnedRow_0 (by decide) ?_
  refine lv_istore_n (lv' := [(3, .int (nI 0)), (0, .ref ma), (1, .ref a), (2, .ref ia)]) hx hb d_Im_readTurnedRow_1 rfl hl (by decide) rfl (fun ls hl => ?_)
  have L2 : ∀ (nG : Nat) (i : Nat) (tr1 : Nat → Int32) (H : Heap) (locs : List Loc) (ls : Array Slot), pl - i = nG → (i ≤ pl) → (∀ j, j < i → s7_p (at_c L (nI (nx + j)))) → (∀ j, j < i → tr1 j = at_c L (nI (nx + j))) →  va_P D vwCl [(ma, .inr (2, [.ref mn, .int (nI (nx + i))])), (a, .inr (0, [.ref b, .int (nI L.length)])), (b, .inl (cA 0, cap, .inl f)), (ia, .inr (3, [.ref pa, .ref ix, .ref it, .ref ik, .int (nI rt)])), (pa, .inr (4, [.ref pn, .ref ps, .ref pln, .ref pr, .int (nI num), .int (nI pl)])), (it, .inl (cA 0, 65, .inl tr1))] H → va_D A [(ma, .inr (2, [.ref mn, .int (nI (nx + i))])), (a, .inr (0, [.ref b, .int (nI L.length)])), (b, .inl (cA 0, cap, .inl f)), (ia, .inr (3, [.ref pa, .ref ix, .ref it, .ref ik, .int (nI rt)])), (pa, .inr (4, [.ref pn, .ref ps, .ref pln, .ref pr, .int (nI num), .int (nI pl)])), (it, .inl (cA 0, 65, .inl tr1))] → va_S A sG.heap H locs → lv_has ls 5 [(0, .ref ma), (1, .ref a), (2, .ref ia), (3, .int (nI i))] → W pG l eG (rm_d 3) sG mG argsG belowG methG cG H locs 0 0 Q (F0 mG 2 ls []) := by
    intro nG
    induction nG using Nat.strongRecOn with
    | ind nG ih2 =>
      intro i tr1 H locs ls hn2 hi hs1 hs2 hP hD hS hl
      refine lv_iload_n hx hb d_Im_readTurnedRow_2 rfl (lv_at hl 3 rfl) ?_
      refine lv_aload_n hx hb d_Im_readTurnedRow_3 rfl (lv_at hl 2 rfl) ?_
      refine ck_cV (C := "ReadMapper$Index") (ci := 3) (rest := [.int (nI i)]) (wr := [(ma, .inr (2, [.ref mn, .int (nI (nx + i))])), (a, .inr (0, [.ref b, .int (nI L.length)])), (b, .inl (cA 0, cap, .inl f)), (it, .inl (cA 0, 65, .inl tr1))]) (ws2 := fun u => [(ma, .inr (2, [.ref mn, .int (nI (nx + i))])), (a, .inr (0, [.ref b, .int (nI L.length)])), (b, .inl (cA 0, cap, .inl f)), (ia, .inr (3, [.ref pa, .ref ix, .ref it, .ref ik, .int (nI rt)])), (pa, .inr (4, [.ref pn, .ref ps, .ref pln, .ref pr, .int (nI num), .int (nI pl)])), (it, .inl (cA 0, 65, .inl tr1))]) (c_In_places l D cA K ia ix it ik rt pa pn ps pln pr num pl ) hx hb hml hown hts hK hE hA hP hD hS k_In_places m_825 (by decide) 3 rfl rfl rfl hl.1 rfl (Nat.le_of_ble_eq_true rfl) d_Im_readTurnedRow_4  [3, 4] [0, 1, 2, 5] [0, 1, 2, 4, 5, 3] rfl rfl (by decide) (fun _ => rfl) (fun r4 u4 H locs hq4 hP hD hS => ?_)
      try dsimp only at hq4
      have hP : va_P D vwCl [(ma, .inr (2, [.ref mn, .int (nI (nx + i))])), (a, .inr (0, [.ref b, .int (nI L.length)])), (b, .inl (cA 0, cap, .inl f)), (ia, .inr (3, [.ref pa, .ref ix, .ref it, .ref ik, .int (nI rt)])), (pa, .inr (4, [.ref pn, .ref ps, .ref pln, .ref pr, .int (nI num), .int (nI pl)])), (it, .inl (cA 0, 65, .inl tr1))] H := hP
      have hD : va_D A [(ma, .inr (2, [.ref mn, .int (nI (nx + i))])), (a, .inr (0, [.ref b, .int (nI L.length)])), (b, .inl (cA 0, cap, .inl f)), (ia, .inr (3, [.ref pa, .ref ix, .ref it, .ref ik, .int (nI rt)])), (pa, .inr (4, [.ref pn, .ref ps, .ref pln, .ref pr, .int (nI num), .int (nI pl)])), (it, .inl (cA 0, 65, .inl tr1))] := hD
      obtain rfl := hq4
      refine wn_icmp_ge (by omega) (by omega) (tgt := 48) hx hb d_Im_readTurnedRow_7 (by decide) ?_ ?_
      · intro h7
        refine lv_iconst (v := 1) hx hb d_Im_readTurnedRow_48 (by decide) ?_
        exact hret 1 (nx + i, tr1) _ _ _ 49 d_Im_readTurnedRow_49 (Or.inl ⟨rfl, by rw [show i = pl by omega], fun j hj => hs1 j (by omega), fun j hj => hs2 j (by omega)⟩) hP hD hS
      · intro h7
        refine lv_aload_n hx hb d_Im_readTurnedRow_10 rfl (lv_at hl 0 rfl) ?_
        refine lv_aload_n hx hb d_Im_readTurnedRow_11 rfl (lv_at hl 1 rfl) ?_
        refine ck_cV (C := "ReadMapper$ImageReader") (ci := 2) (rest := []) (wr := [(ia, .inr (3, [.ref pa, .ref ix, .ref it, .ref ik, .int (nI rt)])), (pa, .inr (4, [.ref pn, .ref ps, .ref pln, .ref pr, .int (nI num), .int (nI pl)])), (it, .inl (cA 0, 65, .inl tr1))]) (ws2 := fun u => [(ma, .inr (2, [.ref mn, .int (nI ((nx + i) + 1))])), (a, .inr (0, [.ref b, .int (nI L.length)])), (b, .inl (cA 0, cap, .inl f)), (ia, .inr (3, [.ref pa, .ref ix, .ref it, .ref ik, .int (nI rt)])), (pa, .inr (4, [.ref pn, .ref ps, .ref pln, .ref pr, .int (nI num), .int (nI pl)])), (it, .inl (cA 0, 65, .inl tr1))]) (c_Im_nextByte l D cA K ma mn 0 (nx + i) a b cap f L (by first | assumption | omega)) hx hb hml hown hts hK hE hA hP hD hS k_Im_nextByte m_809 (by decide) 0 rfl rfl rfl hl.1 rfl (Nat.le_of_ble_eq_true rfl) d_Im_readTurnedRow_12  [0, 1, 2] [3, 4, 5] [3, 4, 5, 0, 1, 2] rfl rfl (by decide) (fun _ => rfl) (fun r12 u12 H locs hq12 hP hD hS => ?_)
        try dsimp only at hq12
        have hP : va_P D vwCl [(ma, .inr (2, [.ref mn, .int (nI ((nx + i) + 1))])), (a, .inr (0, [.ref b, .int (nI L.length)])), (b, .inl (cA 0, cap, .inl f)), (ia, .inr (3, [.ref pa, .ref ix, .ref it, .ref ik, .int (nI rt)])), (pa, .inr (4, [.ref pn, .ref ps, .ref pln, .ref pr, .int (nI num), .int (nI pl)])), (it, .inl (cA 0, 65, .inl tr1))] H := hP
        have hD : va_D A [(ma, .inr (2, [.ref mn, .int (nI ((nx + i) + 1))])), (a, .inr (0, [.ref b, .int (nI L.length)])), (b, .inl (cA 0, cap, .inl f)), (ia, .inr (3, [.ref pa, .ref ix, .ref it, .ref ik, .int (nI rt)])), (pa, .inr (4, [.ref pn, .ref ps, .ref pln, .ref pr, .int (nI num), .int (nI pl)])), (it, .inl (cA 0, 65, .inl tr1))] := hD
        obtain rfl := hq12
        refine lv_istore (lv' := [(4, .int (at_c L (nI (nx + i)))), (0, .ref ma), (1, .ref a), (2, .ref ia), (3, .int (nI i))]) hx hb d_Im_readTurnedRow_15 hl (by decide) rfl (fun ls hl => ?_)
        refine lv_iload hx hb d_Im_readTurnedRow_17 (lv_at hl 0 rfl) ?_
        refine lv_if_lt (tgt := 32) hx hb d_Im_readTurnedRow_19 (by decide) ?_ ?_
        · intro h19
          refine lv_iconst (v := 0) hx hb d_Im_readTurnedRow_32 (by decide) ?_
          exact hret 0 ((nx + i) + 1, tr1) _ _ _ 33 d_Im_readTurnedRow_33 (by first | exact Or.inr ⟨rfl, fun z => (z i h7).1 h19⟩ | exact Or.inr ⟨rfl, fun z => h29 (z i h7).2⟩) hP hD hS
        · intro h19
          refine lv_iload hx hb d_Im_readTurnedRow_22 (lv_at hl 0 rfl) ?_
          refine va_ldcS hx hb hown (hE.2.1 ("ReadMapper$ImageReader", 85, "#$ACGNT", 0) (by decide)) d_Im_readTurnedRow_24 ?_
          refine ck_cVx (C := "java/lang/String") (rest := [.int (at_c L (nI (nx + i)))]) (wr := [(ma, .inr (2, [.ref mn, .int (nI ((nx + i) + 1))])), (a, .inr (0, [.ref b, .int (nI L.length)])), (b, .inl (cA 0, cap, .inl f)), (ia, .inr (3, [.ref pa, .ref ix, .ref it, .ref ik, .int (nI rt)])), (pa, .inr (4, [.ref pn, .ref ps, .ref pln, .ref pr, .int (nI num), .int (nI pl)])), (it, .inl (cA 0, 65, .inl tr1))]) (ws2 := fun u => [(ma, .inr (2, [.ref mn, .int (nI ((nx + i) + 1))])), (a, .inr (0, [.ref b, .int (nI L.length)])), (b, .inl (cA 0, cap, .inl f)), (ia, .inr (3, [.ref pa, .ref ix, .ref it, .ref ik, .int (nI rt)])), (pa, .inr (4, [.ref pn, .ref ps, .ref pln, .ref pr, .int (nI num), .int (nI pl)])), (it, .inl (cA 0, 65, .inl tr1))]) (c_Str_length l D cA K 0 (by decide)) hx hb hml hown hts hK hE hA hP hD hS k_Str_length m_827 (by decide) (vk_recv (adK := fun i => K (10 + i)) (i := 0) hE.2.2.2.2.2.2.1 (by decide) hS) rfl hl.1 rfl (Nat.le_of_ble_eq_true rfl) d_Im_readTurnedRow_26 [] [0, 1, 2, 3, 4, 5] [0, 1, 2, 3, 4, 5] rfl rfl (by decide) (fun _ => rfl) (fun r26 u26 H locs hq26 hP hD hS => ?_)
          try dsimp only at hq26
          subst hq26
          refine wn_nat (b := 7) rfl ?_
          have hP : va_P D vwCl [(ma, .inr (2, [.ref mn, .int (nI ((nx + i) + 1))])), (a, .inr (0, [.ref b, .int (nI L.length)])), (b, .inl (cA 0, cap, .inl f)), (ia, .inr (3, [.ref pa, .ref ix, .ref it, .ref ik, .int (nI rt)])), (pa, .inr (4, [.ref pn, .ref ps, .ref pln, .ref pr, .int (nI num), .int (nI pl)])), (it, .inl (cA 0, 65, .inl tr1))] H := hP
          have hD : va_D A [(ma, .inr (2, [.ref mn, .int (nI ((nx + i) + 1))])), (a, .inr (0, [.ref b, .int (nI L.length)])), (b, .inl (cA 0, cap, .inl f)), (ia, .inr (3, [.ref pa, .ref ix, .ref it, .ref ik, .int (nI rt)])), (pa, .inr (4, [.ref pn, .ref ps, .ref pln, .ref pr, .int (nI num), .int (nI pl)])), (it, .inl (cA 0, 65, .inl tr1))] := hD
          refine lv_icmp_lt (tgt := 34) hx hb d_Im_readTurnedRow_29 (by decide) ?_ ?_
          · intro h29
            refine lv_aload_n hx hb d_Im_readTurnedRow_34 rfl (lv_at hl 3 rfl) ?_
            refine va_getN (C := RX3) (T := TX3) (N := 5) hx hb hts inX3 hown hK hP 3 rfl rfl 2 (by decide) (va_Nw.use rfl (hE.1 _ n_88)) (fun _ h9 => h9) rfl d_Im_readTurnedRow_35 ?_
            refine lv_iload_n hx hb d_Im_readTurnedRow_38 rfl (lv_at hl 4 rfl) ?_
            refine lv_iload hx hb d_Im_readTurnedRow_39 (lv_at hl 0 rfl) ?_
            refine wn_iast hx hb hK hP hD hS 5 0 rfl rfl (by omega) (by omega) d_Im_readTurnedRow_41 (fun H locs hP hD hS => ?_)
            have hP : va_P D vwCl [(ma, .inr (2, [.ref mn, .int (nI ((nx + i) + 1))])), (a, .inr (0, [.ref b, .int (nI L.length)])), (b, .inl (cA 0, cap, .inl f)), (ia, .inr (3, [.ref pa, .ref ix, .ref it, .ref ik, .int (nI rt)])), (pa, .inr (4, [.ref pn, .ref ps, .ref pln, .ref pr, .int (nI num), .int (nI pl)])), (it, .inl (cA 0, 65, .inl (upd tr1 i (at_c L (nI (nx + i))))))] H := hP
            have hD : va_D A [(ma, .inr (2, [.ref mn, .int (nI ((nx + i) + 1))])), (a, .inr (0, [.ref b, .int (nI L.length)])), (b, .inl (cA 0, cap, .inl f)), (ia, .inr (3, [.ref pa, .ref ix, .ref it, .ref ik, .int (nI rt)])), (pa, .inr (4, [.ref pn, .ref ps, .ref pln, .ref pr, .int (nI num), .int (nI pl)])), (it, .inl (cA 0, 65, .inl (upd tr1 i (at_c L (nI (nx + i))))))] := hD
            refine lv_iinc (k := 4) (v := nI (i + 1)) (lv' := [(3, .int (nI (i + 1))), (4, .int (at_c L (nI (nx + i)))), (0, .ref ma), (1, .ref a), (2, .ref ia)]) hx hb d_Im_readTurnedRow_42 hl rfl (wi_inc1 _) (by decide) rfl (fun ls hl => ?_)
            refine lv_goto (tgt := 2) hx hb d_Im_readTurnedRow_45 (by decide) ?_
            exact ih2 _ (by omega) (i + 1) (upd tr1 i (at_c L (nI (nx + i)))) _ _ _ rfl (by first | assumption | omega) (lt_s hs1 ⟨h19, h29⟩) (fun j hj => if e : j = i then by subst e; exact pk_us else (pk_un e).trans (hs2 j (by omega))) hP hD hS (lv_sub hl [2, 3, 4, 0] rfl)
          · intro h29
            refine lv_iconst (v := 0) hx hb d_Im_readTurnedRow_32 (by decide) ?_
            exact hret 0 ((nx + i) + 1, tr1) _ _ _ 33 d_Im_readTurnedRow_33 (by first | exact Or.inr ⟨rfl, fun z => (z i h7).1 h19⟩ | exact Or.inr ⟨rfl, fun z => h29 (z i h7).2⟩) hP hD hS
  exact L2 _ 0 tr _ _ _ rfl (by first | assumption | omega) (fun j hj => absurd hj (Nat.not_lt_zero j)) (fun j hj => absurd hj (Nat.not_lt_zero j)) hP hD hS (lv_sub hl [1, 2, 3, 0] rfl)
theorem k_Im_readTurnedRow : cf_V y_Im_readTurnedRow b_Im_readTurnedRow 5 (some .boolean) "ReadMapper$ImageReader" 2 := ⟨⟨m_823, (wm_s (q := (y_Im_readTurnedRow, 2)) (by decide +kernel)), m_8, m_824⟩, by decide +kernel⟩
