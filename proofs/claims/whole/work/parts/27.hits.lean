/-! hits in mathematics: (piece, place, strand, mismatches) -/
def hp_c (X : List (Nat × Nat × Nat × Nat)) : List Int32 := X.map (fun h => nI h.1)
def hl_c (X : List (Nat × Nat × Nat × Nat)) : List Int32 := X.map (fun h => nI h.2.1)
def hs_c (X : List (Nat × Nat × Nat × Nat)) : List Int32 := X.map (fun h => nI h.2.2.1)
def hm_c (X : List (Nat × Nat × Nat × Nat)) : List Int32 := X.map (fun h => nI h.2.2.2)
theorem hx_len {X : List (Nat × Nat × Nat × Nat)} : (hp_c X).length = X.length := List.length_map _
theorem hx_len2 {X : List (Nat × Nat × Nat × Nat)} : (hl_c X).length = X.length := List.length_map _
theorem hx_len3 {X : List (Nat × Nat × Nat × Nat)} : (hs_c X).length = X.length := List.length_map _
theorem hx_len4 {X : List (Nat × Nat × Nat × Nat)} : (hm_c X).length = X.length := List.length_map _
theorem hp_s {X : List (Nat × Nat × Nat × Nat)} {a b c d : Nat} : hp_c (X ++ [(a, b, c, d)]) = hp_c X ++ [nI a] := List.map_append
theorem hl_s {X : List (Nat × Nat × Nat × Nat)} {a b c d : Nat} : hl_c (X ++ [(a, b, c, d)]) = hl_c X ++ [nI b] := List.map_append
theorem hs_s {X : List (Nat × Nat × Nat × Nat)} {a b c d : Nat} : hs_c (X ++ [(a, b, c, d)]) = hs_c X ++ [nI c] := List.map_append
theorem hm_s {X : List (Nat × Nat × Nat × Nat)} {a b c d : Nat} : hm_c (X ++ [(a, b, c, d)]) = hm_c X ++ [nI d] := List.map_append
def ab_c (X : List (Nat × Nat × Nat × Nat)) (i x : Int32) : Int32 := if x = 0 then at_c (hp_c X) i else if x = 1 then at_c (hl_c X) i else if x = 2 then at_c (hs_c X) i else if x = 3 then at_c (hm_c X) i else -1
theorem in_sw (x : Int32) : x = 0 ∨ x = 1 ∨ x = 2 ∨ x = 3 ∨ (x.toInt < 0 ∨ 3 < x.toInt) := by
  by_cases h : x.toInt < 0
  · exact Or.inr (Or.inr (Or.inr (Or.inr (Or.inl h))))
  · by_cases g : 3 < x.toInt
    · exact Or.inr (Or.inr (Or.inr (Or.inr (Or.inr g))))
    · have e : x.toInt = 0 ∨ x.toInt = 1 ∨ x.toInt = 2 ∨ x.toInt = 3 := by omega
      rcases e with e | e | e | e
      · exact Or.inl (Int32.toInt_inj.mp (by rw [e]; rfl))
      · exact Or.inr (Or.inl (Int32.toInt_inj.mp (by rw [e]; rfl)))
      · exact Or.inr (Or.inr (Or.inl (Int32.toInt_inj.mp (by rw [e]; rfl))))
      · exact Or.inr (Or.inr (Or.inr (Or.inl (Int32.toInt_inj.mp (by rw [e]; rfl)))))
theorem ab_out {X : List (Nat × Nat × Nat × Nat)} {i x : Int32} (h : x.toInt < 0 ∨ 3 < x.toInt) : ab_c X i x = -1 := by
  unfold ab_c
  rw [if_neg (by rintro rfl; revert h; decide), if_neg (by rintro rfl; revert h; decide), if_neg (by rintro rfl; revert h; decide), if_neg (by rintro rfl; revert h; decide)]
/-- the first of the least -/
def be_c (f : Nat → Int32) : Nat → Nat
  | 0 => 0
  | j + 1 => if f j < f (be_c f j) then j else be_c f j
theorem be_le (f : Nat → Int32) (j : Nat) : be_c f j < j ∨ j = 0 := by
  induction j with
  | zero => exact Or.inr rfl
  | succ j ih =>
    refine Or.inl ?_
    show (if f j < f (be_c f j) then j else be_c f j) < j + 1
    split
    · omega
    · rcases ih with h | h
      · omega
      · subst h; exact Nat.lt_succ_self _
theorem be_1 {f : Nat → Int32} : be_c f 1 = 0 := by
  show (if f 0 < f 0 then 0 else 0) = 0
  split <;> rfl
theorem be_y {f : Nat → Int32} {j : Nat} (h : f j < f (be_c f j)) : be_c f (j + 1) = j := if_pos h
theorem be_n {f : Nat → Int32} {j : Nat} (h : ¬ f j < f (be_c f j)) : be_c f (j + 1) = be_c f j := if_neg h
theorem be_end {f : Nat → Int32} {n i : Nat} (h : i = n ∨ (i = 1 ∧ n = 0)) (hi : 1 ≤ i) : be_c f n = be_c f i := by
  rcases h with h | ⟨h, g⟩
  · rw [h]
  · subst h; subst g; rw [be_1]; rfl
theorem d_Hi_number_0 : decode b_Hi_number 0 = .ok (.aload_n 0, 1) := by decide +kernel
theorem d_Hi_number_1 : decode b_Hi_number 1 = .ok (.getfield 14, 3) := by decide +kernel
theorem d_Hi_number_4 : decode b_Hi_number 4 = .ok (.invokevirtual 29, 3) := by decide +kernel
theorem d_Hi_number_7 : decode b_Hi_number 7 = .ok (.ireturn, 1) := by decide +kernel
theorem d_Hi_about_0 : decode b_Hi_about 0 = .ok (.iload_n 2, 1) := by decide +kernel
theorem d_Hi_about_32 : decode b_Hi_about 32 = .ok (.aload_n 0, 1) := by decide +kernel
theorem d_Hi_about_33 : decode b_Hi_about 33 = .ok (.getfield 14, 3) := by decide +kernel
theorem d_Hi_about_36 : decode b_Hi_about 36 = .ok (.iload_n 1, 1) := by decide +kernel
theorem d_Hi_about_37 : decode b_Hi_about 37 = .ok (.invokevirtual 33, 3) := by decide +kernel
theorem d_Hi_about_40 : decode b_Hi_about 40 = .ok (.ireturn, 1) := by decide +kernel
theorem d_Hi_about_41 : decode b_Hi_about 41 = .ok (.aload_n 0, 1) := by decide +kernel
theorem d_Hi_about_42 : decode b_Hi_about 42 = .ok (.getfield 20, 3) := by decide +kernel
theorem d_Hi_about_45 : decode b_Hi_about 45 = .ok (.iload_n 1, 1) := by decide +kernel
theorem d_Hi_about_46 : decode b_Hi_about 46 = .ok (.invokevirtual 33, 3) := by decide +kernel
theorem d_Hi_about_49 : decode b_Hi_about 49 = .ok (.ireturn, 1) := by decide +kernel
theorem d_Hi_about_50 : decode b_Hi_about 50 = .ok (.aload_n 0, 1) := by decide +kernel
theorem d_Hi_about_51 : decode b_Hi_about 51 = .ok (.getfield 23, 3) := by decide +kernel
theorem d_Hi_about_54 : decode b_Hi_about 54 = .ok (.iload_n 1, 1) := by decide +kernel
theorem d_Hi_about_55 : decode b_Hi_about 55 = .ok (.invokevirtual 33, 3) := by decide +kernel
theorem d_Hi_about_58 : decode b_Hi_about 58 = .ok (.ireturn, 1) := by decide +kernel
theorem d_Hi_about_59 : decode b_Hi_about 59 = .ok (.aload_n 0, 1) := by decide +kernel
theorem d_Hi_about_60 : decode b_Hi_about 60 = .ok (.getfield 26, 3) := by decide +kernel
theorem d_Hi_about_63 : decode b_Hi_about 63 = .ok (.iload_n 1, 1) := by decide +kernel
theorem d_Hi_about_64 : decode b_Hi_about 64 = .ok (.invokevirtual 33, 3) := by decide +kernel
theorem d_Hi_about_67 : decode b_Hi_about 67 = .ok (.ireturn, 1) := by decide +kernel
theorem d_Hi_about_68 : decode b_Hi_about 68 = .ok (.iconst (-1), 1) := by decide +kernel
theorem d_Hi_about_69 : decode b_Hi_about 69 = .ok (.ireturn, 1) := by decide +kernel
theorem d_Hi_add_0 : decode b_Hi_add 0 = .ok (.aload_n 0, 1) := by decide +kernel
theorem d_Hi_add_1 : decode b_Hi_add 1 = .ok (.getfield 14, 3) := by decide +kernel
theorem d_Hi_add_4 : decode b_Hi_add 4 = .ok (.iload_n 1, 1) := by decide +kernel
theorem d_Hi_add_5 : decode b_Hi_add 5 = .ok (.invokevirtual 70, 3) := by decide +kernel
theorem d_Hi_add_8 : decode b_Hi_add 8 = .ok (.aload_n 0, 1) := by decide +kernel
theorem d_Hi_add_9 : decode b_Hi_add 9 = .ok (.getfield 20, 3) := by decide +kernel
theorem d_Hi_add_12 : decode b_Hi_add 12 = .ok (.iload_n 2, 1) := by decide +kernel
theorem d_Hi_add_13 : decode b_Hi_add 13 = .ok (.invokevirtual 70, 3) := by decide +kernel
theorem d_Hi_add_16 : decode b_Hi_add 16 = .ok (.aload_n 0, 1) := by decide +kernel
theorem d_Hi_add_17 : decode b_Hi_add 17 = .ok (.getfield 23, 3) := by decide +kernel
theorem d_Hi_add_20 : decode b_Hi_add 20 = .ok (.iload_n 3, 1) := by decide +kernel
theorem d_Hi_add_21 : decode b_Hi_add 21 = .ok (.invokevirtual 70, 3) := by decide +kernel
theorem d_Hi_add_24 : decode b_Hi_add 24 = .ok (.aload_n 0, 1) := by decide +kernel
theorem d_Hi_add_25 : decode b_Hi_add 25 = .ok (.getfield 26, 3) := by decide +kernel
theorem d_Hi_add_28 : decode b_Hi_add 28 = .ok (.iload 4, 2) := by decide +kernel
theorem d_Hi_add_30 : decode b_Hi_add 30 = .ok (.invokevirtual 70, 3) := by decide +kernel
theorem d_Hi_add_33 : decode b_Hi_add 33 = .ok (.return_, 1) := by decide +kernel
theorem d_Hi_countWith_0 : decode b_Hi_countWith 0 = .ok (.iconst 0, 1) := by decide +kernel
theorem d_Hi_countWith_1 : decode b_Hi_countWith 1 = .ok (.istore_n 2, 1) := by decide +kernel
theorem d_Hi_countWith_2 : decode b_Hi_countWith 2 = .ok (.iconst 0, 1) := by decide +kernel
theorem d_Hi_countWith_3 : decode b_Hi_countWith 3 = .ok (.istore_n 3, 1) := by decide +kernel
theorem d_Hi_countWith_4 : decode b_Hi_countWith 4 = .ok (.iload_n 3, 1) := by decide +kernel
theorem d_Hi_countWith_5 : decode b_Hi_countWith 5 = .ok (.aload_n 0, 1) := by decide +kernel
theorem d_Hi_countWith_6 : decode b_Hi_countWith 6 = .ok (.invokevirtual 77, 3) := by decide +kernel
theorem d_Hi_countWith_9 : decode b_Hi_countWith 9 = .ok (.if_icmp .ge 24, 3) := by decide +kernel
theorem d_Hi_countWith_12 : decode b_Hi_countWith 12 = .ok (.aload_n 0, 1) := by decide +kernel
theorem d_Hi_countWith_13 : decode b_Hi_countWith 13 = .ok (.getfield 26, 3) := by decide +kernel
theorem d_Hi_countWith_16 : decode b_Hi_countWith 16 = .ok (.iload_n 3, 1) := by decide +kernel
theorem d_Hi_countWith_17 : decode b_Hi_countWith 17 = .ok (.invokevirtual 33, 3) := by decide +kernel
theorem d_Hi_countWith_20 : decode b_Hi_countWith 20 = .ok (.iload_n 1, 1) := by decide +kernel
theorem d_Hi_countWith_21 : decode b_Hi_countWith 21 = .ok (.if_icmp .ne 6, 3) := by decide +kernel
theorem d_Hi_countWith_24 : decode b_Hi_countWith 24 = .ok (.iinc 2 1, 3) := by decide +kernel
theorem d_Hi_countWith_27 : decode b_Hi_countWith 27 = .ok (.iinc 3 1, 3) := by decide +kernel
theorem d_Hi_countWith_30 : decode b_Hi_countWith 30 = .ok (.goto (-26), 3) := by decide +kernel
theorem d_Hi_countWith_33 : decode b_Hi_countWith 33 = .ok (.iload_n 2, 1) := by decide +kernel
theorem d_Hi_countWith_34 : decode b_Hi_countWith 34 = .ok (.ireturn, 1) := by decide +kernel
theorem d_Hi_chooseBest_0 : decode b_Hi_chooseBest 0 = .ok (.aload_n 0, 1) := by decide +kernel
theorem d_Hi_chooseBest_1 : decode b_Hi_chooseBest 1 = .ok (.iconst 0, 1) := by decide +kernel
theorem d_Hi_chooseBest_2 : decode b_Hi_chooseBest 2 = .ok (.putfield 73, 3) := by decide +kernel
theorem d_Hi_chooseBest_5 : decode b_Hi_chooseBest 5 = .ok (.iconst 1, 1) := by decide +kernel
theorem d_Hi_chooseBest_6 : decode b_Hi_chooseBest 6 = .ok (.istore_n 1, 1) := by decide +kernel
theorem d_Hi_chooseBest_7 : decode b_Hi_chooseBest 7 = .ok (.iload_n 1, 1) := by decide +kernel
theorem d_Hi_chooseBest_8 : decode b_Hi_chooseBest 8 = .ok (.aload_n 0, 1) := by decide +kernel
theorem d_Hi_chooseBest_9 : decode b_Hi_chooseBest 9 = .ok (.invokevirtual 77, 3) := by decide +kernel
theorem d_Hi_chooseBest_12 : decode b_Hi_chooseBest 12 = .ok (.if_icmp .ge 36, 3) := by decide +kernel
theorem d_Hi_chooseBest_15 : decode b_Hi_chooseBest 15 = .ok (.aload_n 0, 1) := by decide +kernel
theorem d_Hi_chooseBest_16 : decode b_Hi_chooseBest 16 = .ok (.getfield 26, 3) := by decide +kernel
theorem d_Hi_chooseBest_19 : decode b_Hi_chooseBest 19 = .ok (.iload_n 1, 1) := by decide +kernel
theorem d_Hi_chooseBest_20 : decode b_Hi_chooseBest 20 = .ok (.invokevirtual 33, 3) := by decide +kernel
theorem d_Hi_chooseBest_23 : decode b_Hi_chooseBest 23 = .ok (.aload_n 0, 1) := by decide +kernel
theorem d_Hi_chooseBest_24 : decode b_Hi_chooseBest 24 = .ok (.getfield 26, 3) := by decide +kernel
theorem d_Hi_chooseBest_27 : decode b_Hi_chooseBest 27 = .ok (.aload_n 0, 1) := by decide +kernel
theorem d_Hi_chooseBest_28 : decode b_Hi_chooseBest 28 = .ok (.getfield 73, 3) := by decide +kernel
theorem d_Hi_chooseBest_31 : decode b_Hi_chooseBest 31 = .ok (.invokevirtual 33, 3) := by decide +kernel
theorem d_Hi_chooseBest_34 : decode b_Hi_chooseBest 34 = .ok (.if_icmp .ge 8, 3) := by decide +kernel
theorem d_Hi_chooseBest_37 : decode b_Hi_chooseBest 37 = .ok (.aload_n 0, 1) := by decide +kernel
theorem d_Hi_chooseBest_38 : decode b_Hi_chooseBest 38 = .ok (.iload_n 1, 1) := by decide +kernel
theorem d_Hi_chooseBest_39 : decode b_Hi_chooseBest 39 = .ok (.putfield 73, 3) := by decide +kernel
theorem d_Hi_chooseBest_42 : decode b_Hi_chooseBest 42 = .ok (.iinc 1 1, 3) := by decide +kernel
theorem d_Hi_chooseBest_45 : decode b_Hi_chooseBest 45 = .ok (.goto (-38), 3) := by decide +kernel
theorem d_Hi_chooseBest_48 : decode b_Hi_chooseBest 48 = .ok (.return_, 1) := by decide +kernel
set_option maxHeartbeats 4000000 in
set_option maxRecDepth 100000 in
theorem c_Hi_number (l : Launch) (D : va_G) (cA : Nat → ClassId) (K : Nat → Nat) (ha hp hpb hl_ hlb hs_ hsb hm_ hmb bst : Nat) (qy : Int32) (f1 : Nat → Int32) (X : List (Nat × Nat × Nat × Nat)) (h1 : cd_r 120 f1 (hp_c X)) : ck_I l y_Hi_number (Cond.code y_Hi_number b_Hi_number 1 (some .int) :: w_all) 2 D cA K [.ref ha] [(ha, .inr (1, [.ref hp, .ref hl_, .ref hs_, .ref hm_, .int (nI bst), .int qy])), (hp, .inr (0, [.ref hpb, .int (nI ((hp_c X).length))])), (hpb, .inl (cA 0, 120, .inl f1))] (fun (r : Int32) (u : Unit) => r = nI X.length) (fun u => [(ha, .inr (1, [.ref hp, .ref hl_, .ref hs_, .ref hm_, .int (nI bst), .int qy])), (hp, .inr (0, [.ref hpb, .int (nI ((hp_c X).length))])), (hpb, .inl (cA 0, 120, .inl f1))]) := by
  refine ck_mkI (by decide) (fun _ _ _ => rfl) (Nat.le_of_ble_eq_true rfl) ?_
  intro pG eG sG mG argsG belowG methG cG Q A H locs ls hx hb hml hown hts hK hE hA hP hD hS hl hret
  have hl : lv_has ls 1 [(0, .ref ha)] := hl
  refine lv_aload_n hx hb d_Hi_number_0 rfl (lv_at hl 0 rfl) ?_
  refine va_get (C := RX1) (T := TX1) (N := 6) hx hb hts inX1 hown hK hP 0 rfl rfl 0 (by decide) (hts _ m_133) (fun _ h9 => h9) rfl d_Hi_number_1 ?_
  refine ck_cV (C := "ReadMapper$Codes") (ci := 0) (rest := []) (wr := [(ha, .inr (1, [.ref hp, .ref hl_, .ref hs_, .ref hm_, .int (nI bst), .int qy]))]) (ws2 := fun u => [(ha, .inr (1, [.ref hp, .ref hl_, .ref hs_, .ref hm_, .int (nI bst), .int qy])), (hp, .inr (0, [.ref hpb, .int (nI ((hp_c X).length))])), (hpb, .inl (cA 0, 120, .inl f1))]) (c_Co_size l D cA K hp hpb 120 f1 (hp_c X) (by first | assumption | omega)) hx hb hml hown hts hK hE hA hP hD hS k_Co_size m_328 (by decide) 1 rfl rfl rfl hl.1 rfl (Nat.le_of_ble_eq_true rfl) d_Hi_number_4  [1, 2] [0] [0, 1, 2] rfl rfl (by decide) (fun _ => rfl) (fun r4 u4 H locs hq4 hP hD hS => ?_)
  try dsimp only at hq4
  have hP : va_P D vwCl [(ha, .inr (1, [.ref hp, .ref hl_, .ref hs_, .ref hm_, .int (nI bst), .int qy])), (hp, .inr (0, [.ref hpb, .int (nI ((hp_c X).length))])), (hpb, .inl (cA 0, 120, .inl f1))] H := hP
  have hD : va_D A [(ha, .inr (1, [.ref hp, .ref hl_, .ref hs_, .ref hm_, .int (nI bst), .int qy])), (hp, .inr (0, [.ref hpb, .int (nI ((hp_c X).length))])), (hpb, .inl (cA 0, 120, .inl f1))] := hD
  obtain rfl := hq4
  exact hret (nI ((hp_c X).length)) () _ _ _ 7 d_Hi_number_7 (by rw [hx_len]) hP hD hS
theorem k_Hi_number : cf_V y_Hi_number b_Hi_number 1 (some .int) "ReadMapper$Hits" 0 := ⟨⟨m_325, m_326, m_6, m_327⟩, by decide +kernel⟩
theorem d_Hi_about_1 : decode b_Hi_about 1 = .ok (.tableswitch 67 0 3 #[31, 40, 49, 58], 31) := by decide +kernel
set_option maxHeartbeats 4000000 in
set_option maxRecDepth 100000 in
theorem c_Hi_about (l : Launch) (D : va_G) (cA : Nat → ClassId) (K : Nat → Nat) (ha hp hpb hl_ hlb hs_ hsb hm_ hmb bst : Nat) (qy : Int32) (f1 f2 f3 f4 : Nat → Int32) (X : List (Nat × Nat × Nat × Nat)) (i x : Int32) (h1 : cd_r 120 f1 (hp_c X)) (h2 : cd_r 120 f2 (hl_c X)) (h3 : cd_r 120 f3 (hs_c X)) (h4 : cd_r 120 f4 (hm_c X)) : ck_I l y_Hi_about (Cond.code y_Hi_about b_Hi_about 3 (some .int) :: w_all) 2 D cA K [.ref ha, .int i, .int x] [(ha, .inr (1, [.ref hp, .ref hl_, .ref hs_, .ref hm_, .int (nI bst), .int qy])), (hp, .inr (0, [.ref hpb, .int (nI ((hp_c X).length))])), (hpb, .inl (cA 0, 120, .inl f1)), (hl_, .inr (0, [.ref hlb, .int (nI ((hl_c X).length))])), (hlb, .inl (cA 0, 120, .inl f2)), (hs_, .inr (0, [.ref hsb, .int (nI ((hs_c X).length))])), (hsb, .inl (cA 0, 120, .inl f3)), (hm_, .inr (0, [.ref hmb, .int (nI ((hm_c X).length))])), (hmb, .inl (cA 0, 120, .inl f4))] (fun (r : Int32) (u : Unit) => r = ab_c X i x) (fun u => [(ha, .inr (1, [.ref hp, .ref hl_, .ref hs_, .ref hm_, .int (nI bst), .int qy])), (hp, .inr (0, [.ref hpb, .int (nI ((hp_c X).length))])), (hpb, .inl (cA 0, 120, .inl f1)), (hl_, .inr (0, [.ref hlb, .int (nI ((hl_c X).length))])), (hlb, .inl (cA 0, 120, .inl f2)), (hs_, .inr (0, [.ref hsb, .int (nI ((hs_c X).length))])), (hsb, .inl (cA 0, 120, .inl f3)), (hm_, .inr (0, [.ref hmb, .int (nI ((hm_c X).length))])), (hmb, .inl (cA 0, 120, .inl f4))]) := by
  refine ck_mkI (by decide) (fun _ _ _ => rfl) (Nat.le_of_ble_eq_true rfl) ?_
  intro pG eG sG mG argsG belowG methG cG Q A H locs ls hx hb hml hown hts hK hE hA hP hD hS hl hret
  have hl : lv_has ls 3 [(0, .ref ha), (1, .int i), (2, .int x)] := hl
  refine lv_iload_n hx hb d_Hi_about_0 rfl (lv_at hl 2 rfl) ?_
  rcases in_sw x with rfl | rfl | rfl | rfl | hxo
  ·
    refine lv_tableIn (tgt := 32) (off := 31) hx hb d_Hi_about_1 (by decide) (by decide) (by decide) (by decide) ?_
    refine lv_aload_n hx hb d_Hi_about_32 rfl (lv_at hl 0 rfl) ?_
    refine va_get (C := RX1) (T := TX1) (N := 6) hx hb hts inX1 hown hK hP 0 rfl rfl 0 (by decide) (hts _ m_133) (fun _ h9 => h9) rfl d_Hi_about_33 ?_
    refine lv_iload_n hx hb d_Hi_about_36 rfl (lv_at hl 1 rfl) ?_
    refine ck_cV (C := "ReadMapper$Codes") (ci := 0) (rest := []) (wr := [(ha, .inr (1, [.ref hp, .ref hl_, .ref hs_, .ref hm_, .int (nI bst), .int qy])), (hl_, .inr (0, [.ref hlb, .int (nI ((hl_c X).length))])), (hlb, .inl (cA 0, 120, .inl f2)), (hs_, .inr (0, [.ref hsb, .int (nI ((hs_c X).length))])), (hsb, .inl (cA 0, 120, .inl f3)), (hm_, .inr (0, [.ref hmb, .int (nI ((hm_c X).length))])), (hmb, .inl (cA 0, 120, .inl f4))]) (ws2 := fun u => [(ha, .inr (1, [.ref hp, .ref hl_, .ref hs_, .ref hm_, .int (nI bst), .int qy])), (hp, .inr (0, [.ref hpb, .int (nI ((hp_c X).length))])), (hpb, .inl (cA 0, 120, .inl f1)), (hl_, .inr (0, [.ref hlb, .int (nI ((hl_c X).length))])), (hlb, .inl (cA 0, 120, .inl f2)), (hs_, .inr (0, [.ref hsb, .int (nI ((hs_c X).length))])), (hsb, .inl (cA 0, 120, .inl f3)), (hm_, .inr (0, [.ref hmb, .int (nI ((hm_c X).length))])), (hmb, .inl (cA 0, 120, .inl f4))]) (c_Co_at l D cA K hp hpb 120 f1 (hp_c X) i (by first | assumption | omega)) hx hb hml hown hts hK hE hA hP hD hS k_Co_at m_312 (by decide) 1 rfl rfl rfl hl.1 rfl (Nat.le_of_ble_eq_true rfl) d_Hi_about_37  [1, 2] [0, 3, 4, 5, 6, 7, 8] [0, 7, 8, 1, 2, 3, 4, 5, 6] rfl rfl (by decide) (fun _ => rfl) (fun r37 u37 H locs hq37 hP hD hS => ?_)
    try dsimp only at hq37
    have hP : va_P D vwCl [(ha, .inr (1, [.ref hp, .ref hl_, .ref hs_, .ref hm_, .int (nI bst), .int qy])), (hp, .inr (0, [.ref hpb, .int (nI ((hp_c X).length))])), (hpb, .inl (cA 0, 120, .inl f1)), (hl_, .inr (0, [.ref hlb, .int (nI ((hl_c X).length))])), (hlb, .inl (cA 0, 120, .inl f2)), (hs_, .inr (0, [.ref hsb, .int (nI ((hs_c X).length))])), (hsb, .inl (cA 0, 120, .inl f3)), (hm_, .inr (0, [.ref hmb, .int (nI ((hm_c X).length))])), (hmb, .inl (cA 0, 120, .inl f4))] H := hP
    have hD : va_D A [(ha, .inr (1, [.ref hp, .ref hl_, .ref hs_, .ref hm_, .int (nI bst), .int qy])), (hp, .inr (0, [.ref hpb, .int (nI ((hp_c X).length))])), (hpb, .inl (cA 0, 120, .inl f1)), (hl_, .inr (0, [.ref hlb, .int (nI ((hl_c X).length))])), (hlb, .inl (cA 0, 120, .inl f2)), (hs_, .inr (0, [.ref hsb, .int (nI ((hs_c X).length))])), (hsb, .inl (cA 0, 120, .inl f3)), (hm_, .inr (0, [.ref hmb, .int (nI ((hm_c X).length))])), (hmb, .inl (cA 0, 120, .inl f4))] := hD
    obtain rfl := hq37
    exact hret (at_c (hp_c X) i) () _ _ _ 40 d_Hi_about_40 rfl hP hD hS
  ·
    refine lv_tableIn (tgt := 41) (off := 40) hx hb d_Hi_about_1 (by decide) (by decide) (by decide) (by decide) ?_
    refine lv_aload_n hx hb d_Hi_about_41 rfl (lv_at hl 0 rfl) ?_
    refine va_get (C := RX1) (T := TX1) (N := 6) hx hb hts inX1 hown hK hP 0 rfl rfl 1 (by decide) (hts _ m_135) (fun _ h9 => h9) rfl d_Hi_about_42 ?_
    refine lv_iload_n hx hb d_Hi_about_45 rfl (lv_at hl 1 rfl) ?_
    refine ck_cV (C := "ReadMapper$Codes") (ci := 0) (rest := []) (wr := [(ha, .inr (1, [.ref hp, .ref hl_, .ref hs_, .ref hm_, .int (nI bst), .int qy])), (hp, .inr (0, [.ref hpb, .int (nI ((hp_c X).length))])), (hpb, .inl (cA 0, 120, .inl f1)), (hs_, .inr (0, [.ref hsb, .int (nI ((hs_c X).length))])), (hsb, .inl (cA 0, 120, .inl f3)), (hm_, .inr (0, [.ref hmb, .int (nI ((hm_c X).length))])), (hmb, .inl (cA 0, 120, .inl f4))]) (ws2 := fun u => [(ha, .inr (1, [.ref hp, .ref hl_, .ref hs_, .ref hm_, .int (nI bst), .int qy])), (hp, .inr (0, [.ref hpb, .int (nI ((hp_c X).length))])), (hpb, .inl (cA 0, 120, .inl f1)), (hl_, .inr (0, [.ref hlb, .int (nI ((hl_c X).length))])), (hlb, .inl (cA 0, 120, .inl f2)), (hs_, .inr (0, [.ref hsb, .int (nI ((hs_c X).length))])), (hsb, .inl (cA 0, 120, .inl f3)), (hm_, .inr (0, [.ref hmb, .int (nI ((hm_c X).length))])), (hmb, .inl (cA 0, 120, .inl f4))]) (c_Co_at l D cA K hl_ hlb 120 f2 (hl_c X) i (by first | assumption | omega)) hx hb hml hown hts hK hE hA hP hD hS k_Co_at m_312 (by decide) 3 rfl rfl rfl hl.1 rfl (Nat.le_of_ble_eq_true rfl) d_Hi_about_46  [3, 4] [0, 1, 2, 5, 6, 7, 8] [0, 1, 2, 7, 8, 3, 4, 5, 6] rfl rfl (by decide) (fun _ => rfl) (fun r46 u46 H locs hq46 hP hD hS => ?_)
    try dsimp only at hq46
    have hP : va_P D vwCl [(ha, .inr (1, [.ref hp, .ref hl_, .ref hs_, .ref hm_, .int (nI bst), .int qy])), (hp, .inr (0, [.ref hpb, .int (nI ((hp_c X).length))])), (hpb, .inl (cA 0, 120, .inl f1)), (hl_, .inr (0, [.ref hlb, .int (nI ((hl_c X).length))])), (hlb, .inl (cA 0, 120, .inl f2)), (hs_, .inr (0, [.ref hsb, .int (nI ((hs_c X).length))])), (hsb, .inl (cA 0, 120, .inl f3)), (hm_, .inr (0, [.ref hmb, .int (nI ((hm_c X).length))])), (hmb, .inl (cA 0, 120, .inl f4))] H := hP
    have hD : va_D A [(ha, .inr (1, [.ref hp, .ref hl_, .ref hs_, .ref hm_, .int (nI bst), .int qy])), (hp, .inr (0, [.ref hpb, .int (nI ((hp_c X).length))])), (hpb, .inl (cA 0, 120, .inl f1)), (hl_, .inr (0, [.ref hlb, .int (nI ((hl_c X).length))])), (hlb, .inl (cA 0, 120, .inl f2)), (hs_, .inr (0, [.ref hsb, .int (nI ((hs_c X).length))])), (hsb, .inl (cA 0, 120, .inl f3)), (hm_, .inr (0, [.ref hmb, .int (nI ((hm_c X).length))])), (hmb, .inl (cA 0, 120, .inl f4))] := hD
    obtain rfl := hq46
    exact hret (at_c (hl_c X) i) () _ _ _ 49 d_Hi_about_49 rfl hP hD hS
  ·
    refine lv_tableIn (tgt := 50) (off := 49) hx hb d_Hi_about_1 (by decide) (by decide) (by decide) (by decide) ?_
    refine lv_aload_n hx hb d_Hi_about_50 rfl (lv_at hl 0 rfl) ?_
    refine va_get (C := RX1) (T := TX1) (N := 6) hx hb hts inX1 hown hK hP 0 rfl rfl 2 (by decide) (hts _ m_137) (fun _ h9 => h9) rfl d_Hi_about_51 ?_
    refine lv_iload_n hx hb d_Hi_about_54 rfl (lv_at hl 1 rfl) ?_
    refine ck_cV (C := "ReadMapper$Codes") (ci := 0) (rest := []) (wr := [(ha, .inr (1, [.ref hp, .ref hl_, .ref hs_, .ref hm_, .int (nI bst), .int qy])), (hp, .inr (0, [.ref hpb, .int (nI ((hp_c X).length))])), (hpb, .inl (cA 0, 120, .inl f1)), (hl_, .inr (0, [.ref hlb, .int (nI ((hl_c X).length))])), (hlb, .inl (cA 0, 120, .inl f2)), (hm_, .inr (0, [.ref hmb, .int (nI ((hm_c X).length))])), (hmb, .inl (cA 0, 120, .inl f4))]) (ws2 := fun u => [(ha, .inr (1, [.ref hp, .ref hl_, .ref hs_, .ref hm_, .int (nI bst), .int qy])), (hp, .inr (0, [.ref hpb, .int (nI ((hp_c X).length))])), (hpb, .inl (cA 0, 120, .inl f1)), (hl_, .inr (0, [.ref hlb, .int (nI ((hl_c X).length))])), (hlb, .inl (cA 0, 120, .inl f2)), (hs_, .inr (0, [.ref hsb, .int (nI ((hs_c X).length))])), (hsb, .inl (cA 0, 120, .inl f3)), (hm_, .inr (0, [.ref hmb, .int (nI ((hm_c X).length))])), (hmb, .inl (cA 0, 120, .inl f4))]) (c_Co_at l D cA K hs_ hsb 120 f3 (hs_c X) i (by first | assumption | omega)) hx hb hml hown hts hK hE hA hP hD hS k_Co_at m_312 (by decide) 5 rfl rfl rfl hl.1 rfl (Nat.le_of_ble_eq_true rfl) d_Hi_about_55  [5, 6] [0, 1, 2, 3, 4, 7, 8] [0, 1, 2, 3, 4, 7, 8, 5, 6] rfl rfl (by decide) (fun _ => rfl) (fun r55 u55 H locs hq55 hP hD hS => ?_)
    try dsimp only at hq55
    have hP : va_P D vwCl [(ha, .inr (1, [.ref hp, .ref hl_, .ref hs_, .ref hm_, .int (nI bst), .int qy])), (hp, .inr (0, [.ref hpb, .int (nI ((hp_c X).length))])), (hpb, .inl (cA 0, 120, .inl f1)), (hl_, .inr (0, [.ref hlb, .int (nI ((hl_c X).length))])), (hlb, .inl (cA 0, 120, .inl f2)), (hs_, .inr (0, [.ref hsb, .int (nI ((hs_c X).length))])), (hsb, .inl (cA 0, 120, .inl f3)), (hm_, .inr (0, [.ref hmb, .int (nI ((hm_c X).length))])), (hmb, .inl (cA 0, 120, .inl f4))] H := hP
    have hD : va_D A [(ha, .inr (1, [.ref hp, .ref hl_, .ref hs_, .ref hm_, .int (nI bst), .int qy])), (hp, .inr (0, [.ref hpb, .int (nI ((hp_c X).length))])), (hpb, .inl (cA 0, 120, .inl f1)), (hl_, .inr (0, [.ref hlb, .int (nI ((hl_c X).length))])), (hlb, .inl (cA 0, 120, .inl f2)), (hs_, .inr (0, [.ref hsb, .int (nI ((hs_c X).length))])), (hsb, .inl (cA 0, 120, .inl f3)), (hm_, .inr (0, [.ref hmb, .int (nI ((hm_c X).length))])), (hmb, .inl (cA 0, 120, .inl f4))] := hD
    obtain rfl := hq55
    exact hret (at_c (hs_c X) i) () _ _ _ 58 d_Hi_about_58 rfl hP hD hS
  ·
    refine lv_tableIn (tgt := 59) (off := 58) hx hb d_Hi_about_1 (by decide) (by decide) (by decide) (by decide) ?_
    refine lv_aload_n hx hb d_Hi_about_59 rfl (lv_at hl 0 rfl) ?_
    refine va_get (C := RX1) (T := TX1) (N := 6) hx hb hts inX1 hown hK hP 0 rfl rfl 3 (by decide) (hts _ m_139) (fun _ h9 => h9) rfl d_Hi_about_60 ?_
    refine lv_iload_n hx hb d_Hi_about_63 rfl (lv_at hl 1 rfl) ?_
    refine ck_cV (C := "ReadMapper$Codes") (ci := 0) (rest := []) (wr := [(ha, .inr (1, [.ref hp, .ref hl_, .ref hs_, .ref hm_, .int (nI bst), .int qy])), (hp, .inr (0, [.ref hpb, .int (nI ((hp_c X).length))])), (hpb, .inl (cA 0, 120, .inl f1)), (hl_, .inr (0, [.ref hlb, .int (nI ((hl_c X).length))])), (hlb, .inl (cA 0, 120, .inl f2)), (hs_, .inr (0, [.ref hsb, .int (nI ((hs_c X).length))])), (hsb, .inl (cA 0, 120, .inl f3))]) (ws2 := fun u => [(ha, .inr (1, [.ref hp, .ref hl_, .ref hs_, .ref hm_, .int (nI bst), .int qy])), (hp, .inr (0, [.ref hpb, .int (nI ((hp_c X).length))])), (hpb, .inl (cA 0, 120, .inl f1)), (hl_, .inr (0, [.ref hlb, .int (nI ((hl_c X).length))])), (hlb, .inl (cA 0, 120, .inl f2)), (hs_, .inr (0, [.ref hsb, .int (nI ((hs_c X).length))])), (hsb, .inl (cA 0, 120, .inl f3)), (hm_, .inr (0, [.ref hmb, .int (nI ((hm_c X).length))])), (hmb, .inl (cA 0, 120, .inl f4))]) (c_Co_at l D cA K hm_ hmb 120 f4 (hm_c X) i (by first | assumption | omega)) hx hb hml hown hts hK hE hA hP hD hS k_Co_at m_312 (by decide) 7 rfl rfl rfl hl.1 rfl (Nat.le_of_ble_eq_true rfl) d_Hi_about_64  [7, 8] [0, 1, 2, 3, 4, 5, 6] [0, 1, 2, 3, 4, 5, 6, 7, 8] rfl rfl (by decide) (fun _ => rfl) (fun r64 u64 H locs hq64 hP hD hS => ?_)
    try dsimp only at hq64
    have hP : va_P D vwCl [(ha, .inr (1, [.ref hp, .ref hl_, .ref hs_, .ref hm_, .int (nI bst), .int qy])), (hp, .inr (0, [.ref hpb, .int (nI ((hp_c X).length))])), (hpb, .inl (cA 0, 120, .inl f1)), (hl_, .inr (0, [.ref hlb, .int (nI ((hl_c X).length))])), (hlb, .inl (cA 0, 120, .inl f2)), (hs_, .inr (0, [.ref hsb, .int (nI ((hs_c X).length))])), (hsb, .inl (cA 0, 120, .inl f3)), (hm_, .inr (0, [.ref hmb, .int (nI ((hm_c X).length))])), (hmb, .inl (cA 0, 120, .inl f4))] H := hP
    have hD : va_D A [(ha, .inr (1, [.ref hp, .ref hl_, .ref hs_, .ref hm_, .int (nI bst), .int qy])), (hp, .inr (0, [.ref hpb, .int (nI ((hp_c X).length))])), (hpb, .inl (cA 0, 120, .inl f1)), (hl_, .inr (0, [.ref hlb, .int (nI ((hl_c X).length))])), (hlb, .inl (cA 0, 120, .inl f2)), (hs_, .inr (0, [.ref hsb, .int (nI ((hs_c X).length))])), (hsb, .inl (cA 0, 120, .inl f3)), (hm_, .inr (0, [.ref hmb, .int (nI ((hm_c X).length))])), (hmb, .inl (cA 0, 120, .inl f4))] := hD
    obtain rfl := hq64
    exact hret (at_c (hm_c X) i) () _ _ _ 67 d_Hi_about_67 rfl hP hD hS
  ·
    refine lv_tableOut (tgt := 68) hx hb d_Hi_about_1 hxo (by decide) ?_
    refine lv_iconst (v := (-1)) hx hb d_Hi_about_68 (by decide) ?_
    exact hret (-1) () _ _ _ 69 d_Hi_about_69 (ab_out hxo).symm hP hD hS
theorem k_Hi_about : cf_V y_Hi_about b_Hi_about 3 (some .int) "ReadMapper$Hits" 2 := ⟨⟨m_309, m_310, m_6, m_311⟩, by decide +kernel⟩
set_option maxHeartbeats 4000000 in
set_option maxRecDepth 100000 in
theorem c_Hi_add (l : Launch) (D : va_G) (cA : Nat → ClassId) (K : Nat → Nat) (ha hp hpb hl_ hlb hs_ hsb hm_ hmb bst : Nat) (qy : Int32) (f1 f2 f3 f4 : Nat → Int32) (X : List (Nat × Nat × Nat × Nat)) (pp po sd df : Nat) (h1 : cd_r 120 f1 (hp_c X)) (h2 : cd_r 120 f2 (hl_c X)) (h3 : cd_r 120 f3 (hs_c X)) (h4 : cd_r 120 f4 (hm_c X)) (hlen : X.length < 120) : ck_V l y_Hi_add (Cond.code y_Hi_add b_Hi_add 5 none :: w_all) 2 D cA K [.ref ha, .int (nI pp), .int (nI po), .int (nI sd), .int (nI df)] [(ha, .inr (1, [.ref hp, .ref hl_, .ref hs_, .ref hm_, .int (nI bst), .int qy])), (hp, .inr (0, [.ref hpb, .int (nI ((hp_c X).length))])), (hpb, .inl (cA 0, 120, .inl f1)), (hl_, .inr (0, [.ref hlb, .int (nI ((hl_c X).length))])), (hlb, .inl (cA 0, 120, .inl f2)), (hs_, .inr (0, [.ref hsb, .int (nI ((hs_c X).length))])), (hsb, .inl (cA 0, 120, .inl f3)), (hm_, .inr (0, [.ref hmb, .int (nI ((hm_c X).length))])), (hmb, .inl (cA 0, 120, .inl f4))] (fun (u : (Nat → Int32) × (Nat → Int32) × (Nat → Int32) × (Nat → Int32)) => cd_r 120 u.1 (hp_c (X ++ [(pp, po, sd, df)])) ∧ cd_r 120 u.2.1 (hl_c (X ++ [(pp, po, sd, df)])) ∧ cd_r 120 u.2.2.1 (hs_c (X ++ [(pp, po, sd, df)])) ∧ cd_r 120 u.2.2.2 (hm_c (X ++ [(pp, po, sd, df)]))) (fun u => [(ha, .inr (1, [.ref hp, .ref hl_, .ref hs_, .ref hm_, .int (nI bst), .int qy])), (hp, .inr (0, [.ref hpb, .int (nI ((hp_c (X ++ [(pp, po, sd, df)])).length))])), (hpb, .inl (cA 0, 120, .inl u.1)), (hl_, .inr (0, [.ref hlb, .int (nI ((hl_c (X ++ [(pp, po, sd, df)])).length))])), (hlb, .inl (cA 0, 120, .inl u.2.1)), (hs_, .inr (0, [.ref hsb, .int (nI ((hs_c (X ++ [(pp, po, sd, df)])).length))])), (hsb, .inl (cA 0, 120, .inl u.2.2.1)), (hm_, .inr (0, [.ref hmb, .int (nI ((hm_c (X ++ [(pp, po, sd, df)])).length))])), (hmb, .inl (cA 0, 120, .inl u.2.2.2))]) := by
  refine ck_mkV (by decide) (Nat.le_of_ble_eq_true rfl) ?_
  intro pG eG sG mG argsG belowG methG cG Q A H locs ls hx hb hml hown hts hK hE hA hP hD hS hl hret
  have hl : lv_has ls 5 [(0, .ref ha), (1, .int (nI pp)), (2, .int (nI po)), (3, .int (nI sd)), (4, .int (nI df))] := hl
  refine lv_aload_n hx hb d_Hi_add_0 rfl (lv_at hl 0 rfl) ?_
  refine va_get (C := RX1) (T := TX1) (N := 6) hx hb hts inX1 hown hK hP 0 rfl rfl 0 (by decide) (hts _ m_133) (fun _ h9 => h9) rfl d_Hi_add_1 ?_
  refine lv_iload_n hx hb d_Hi_add_4 rfl (lv_at hl 1 rfl) ?_
  refine ck_cVv (C := "ReadMapper$Codes") (ci := 0) (rest := []) (wr := [(ha, .inr (1, [.ref hp, .ref hl_, .ref hs_, .ref hm_, .int (nI bst), .int qy])), (hl_, .inr (0, [.ref hlb, .int (nI ((hl_c X).length))])), (hlb, .inl (cA 0, 120, .inl f2)), (hs_, .inr (0, [.ref hsb, .int (nI ((hs_c X).length))])), (hsb, .inl (cA 0, 120, .inl f3)), (hm_, .inr (0, [.ref hmb, .int (nI ((hm_c X).length))])), (hmb, .inl (cA 0, 120, .inl f4))]) (ws2 := fun u => [(ha, .inr (1, [.ref hp, .ref hl_, .ref hs_, .ref hm_, .int (nI bst), .int qy])), (hp, .inr (0, [.ref hpb, .int (nI (((hp_c X) ++ [(nI pp)]).length))])), (hpb, .inl (cA 0, 120, .inl u)), (hl_, .inr (0, [.ref hlb, .int (nI ((hl_c X).length))])), (hlb, .inl (cA 0, 120, .inl f2)), (hs_, .inr (0, [.ref hsb, .int (nI ((hs_c X).length))])), (hsb, .inl (cA 0, 120, .inl f3)), (hm_, .inr (0, [.ref hmb, .int (nI ((hm_c X).length))])), (hmb, .inl (cA 0, 120, .inl f4))]) (c_Co_append l D cA K hp hpb 120 f1 (hp_c X) (nI pp) (by first | assumption | omega) (by rw [hx_len]; exact hlen)) hx hb hml hown hts hK hE hA hP hD hS k_Co_append m_727 (by decide) 1 rfl rfl rfl hl.1 rfl (Nat.le_of_ble_eq_true rfl) d_Hi_add_5  [1, 2] [0, 3, 4, 5, 6, 7, 8] [0, 7, 8, 1, 2, 3, 4, 5, 6] rfl rfl (by decide) (fun _ => rfl) (fun u5 H locs hq5 hP hD hS => ?_)
  obtain ⟨f2_5, rfl⟩ : ∃ z, z = u5 := ⟨_, rfl⟩
  try dsimp only at hq5
  have hP : va_P D vwCl [(ha, .inr (1, [.ref hp, .ref hl_, .ref hs_, .ref hm_, .int (nI bst), .int qy])), (hp, .inr (0, [.ref hpb, .int (nI (((hp_c X) ++ [(nI pp)]).length))])), (hpb, .inl (cA 0, 120, .inl f2_5)), (hl_, .inr (0, [.ref hlb, .int (nI ((hl_c X).length))])), (hlb, .inl (cA 0, 120, .inl f2)), (hs_, .inr (0, [.ref hsb, .int (nI ((hs_c X).length))])), (hsb, .inl (cA 0, 120, .inl f3)), (hm_, .inr (0, [.ref hmb, .int (nI ((hm_c X).length))])), (hmb, .inl (cA 0, 120, .inl f4))] H := hP
  have hD : va_D A [(ha, .inr (1, [.ref hp, .ref hl_, .ref hs_, .ref hm_, .int (nI bst), .int qy])), (hp, .inr (0, [.ref hpb, .int (nI (((hp_c X) ++ [(nI pp)]).length))])), (hpb, .inl (cA 0, 120, .inl f2_5)), (hl_, .inr (0, [.ref hlb, .int (nI ((hl_c X).length))])), (hlb, .inl (cA 0, 120, .inl f2)), (hs_, .inr (0, [.ref hsb, .int (nI ((hs_c X).length))])), (hsb, .inl (cA 0, 120, .inl f3)), (hm_, .inr (0, [.ref hmb, .int (nI ((hm_c X).length))])), (hmb, .inl (cA 0, 120, .inl f4))] := hD
  refine lv_aload_n hx hb d_Hi_add_8 rfl (lv_at hl 0 rfl) ?_
  refine va_get (C := RX1) (T := TX1) (N := 6) hx hb hts inX1 hown hK hP 0 rfl rfl 1 (by decide) (hts _ m_135) (fun _ h9 => h9) rfl d_Hi_add_9 ?_
  refine lv_iload_n hx hb d_Hi_add_12 rfl (lv_at hl 2 rfl) ?_
  refine ck_cVv (C := "ReadMapper$Codes") (ci := 0) (rest := []) (wr := [(ha, .inr (1, [.ref hp, .ref hl_, .ref hs_, .ref hm_, .int (nI bst), .int qy])), (hp, .inr (0, [.ref hpb, .int (nI (((hp_c X) ++ [(nI pp)]).length))])), (hpb, .inl (cA 0, 120, .inl f2_5)), (hs_, .inr (0, [.ref hsb, .int (nI ((hs_c X).length))])), (hsb, .inl (cA 0, 120, .inl f3)), (hm_, .inr (0, [.ref hmb, .int (nI ((hm_c X).length))])), (hmb, .inl (cA 0, 120, .inl f4))]) (ws2 := fun u => [(ha, .inr (1, [.ref hp, .ref hl_, .ref hs_, .ref hm_, .int (nI bst), .int qy])), (hp, .inr (0, [.ref hpb, .int (nI (((hp_c X) ++ [(nI pp)]).length))])), (hpb, .inl (cA 0, 120, .inl f2_5)), (hl_, .inr (0, [.ref hlb, .int (nI (((hl_c X) ++ [(nI po)]).length))])), (hlb, .inl (cA 0, 120, .inl u)), (hs_, .inr (0, [.ref hsb, .int (nI ((hs_c X).length))])), (hsb, .inl (cA 0, 120, .inl f3)), (hm_, .inr (0, [.ref hmb, .int (nI ((hm_c X).length))])), (hmb, .inl (cA 0, 120, .inl f4))]) (c_Co_append l D cA K hl_ hlb 120 f2 (hl_c X) (nI po) (by first | assumption | omega) (by rw [hx_len2]; exact hlen)) hx hb hml hown hts hK hE hA hP hD hS k_Co_append m_727 (by decide) 3 rfl rfl rfl hl.1 rfl (Nat.le_of_ble_eq_true rfl) d_Hi_add_13  [3, 4] [0, 1, 2, 5, 6, 7, 8] [0, 1, 2, 7, 8, 3, 4, 5, 6] rfl rfl (by decide) (fun _ => rfl) (fun u13 H locs hq13 hP hD hS => ?_)
  obtain ⟨f2_13, rfl⟩ : ∃ z, z = u13 := ⟨_, rfl⟩
  try dsimp only at hq13
  have hP : va_P D vwCl [(ha, .inr (1, [.ref hp, .ref hl_, .ref hs_, .ref hm_, .int (nI bst), .int qy])), (hp, .inr (0, [.ref hpb, .int (nI (((hp_c X) ++ [(nI pp)]).length))])), (hpb, .inl (cA 0, 120, .inl f2_5)), (hl_, .inr (0, [.ref hlb, .int (nI (((hl_c X) ++ [(nI po)]).length))])), (hlb, .inl (cA 0, 120, .inl f2_13)), (hs_, .inr (0, [.ref hsb, .int (nI ((hs_c X).length))])), (hsb, .inl (cA 0, 120, .inl f3)), (hm_, .inr (0, [.ref hmb, .int (nI ((hm_c X).length))])), (hmb, .inl (cA 0, 120, .inl f4))] H := hP
  have hD : va_D A [(ha, .inr (1, [.ref hp, .ref hl_, .ref hs_, .ref hm_, .int (nI bst), .int qy])), (hp, .inr (0, [.ref hpb, .int (nI (((hp_c X) ++ [(nI pp)]).length))])), (hpb, .inl (cA 0, 120, .inl f2_5)), (hl_, .inr (0, [.ref hlb, .int (nI (((hl_c X) ++ [(nI po)]).length))])), (hlb, .inl (cA 0, 120, .inl f2_13)), (hs_, .inr (0, [.ref hsb, .int (nI ((hs_c X).length))])), (hsb, .inl (cA 0, 120, .inl f3)), (hm_, .inr (0, [.ref hmb, .int (nI ((hm_c X).length))])), (hmb, .inl (cA 0, 120, .inl f4))] := hD
  refine lv_aload_n hx hb d_Hi_add_16 rfl (lv_at hl 0 rfl) ?_
  refine va_get (C := RX1) (T := TX1) (N := 6) hx hb hts inX1 hown hK hP 0 rfl rfl 2 (by decide) (hts _ m_137) (fun _ h9 => h9) rfl d_Hi_add_17 ?_
  refine lv_iload_n hx hb d_Hi_add_20 rfl (lv_at hl 3 rfl) ?_
  refine ck_cVv (C := "ReadMapper$Codes") (ci := 0) (rest := []) (wr := [(ha, .inr (1, [.ref hp, .ref hl_, .ref hs_, .ref hm_, .int (nI bst), .int qy])), (hp, .inr (0, [.ref hpb, .int (nI (((hp_c X) ++ [(nI pp)]).length))])), (hpb, .inl (cA 0, 120, .inl f2_5)), (hl_, .inr (0, [.ref hlb, .int (nI (((hl_c X) ++ [(nI po)]).length))])), (hlb, .inl (cA 0, 120, .inl f2_13)), (hm_, .inr (0, [.ref hmb, .int (nI ((hm_c X).length))])), (hmb, .inl (cA 0, 120, .inl f4))]) (ws2 := fun u => [(ha, .inr (1, [.ref hp, .ref hl_, .ref hs_, .ref hm_, .int (nI bst), .int qy])), (hp, .inr (0, [.ref hpb, .int (nI (((hp_c X) ++ [(nI pp)]).length))])), (hpb, .inl (cA 0, 120, .inl f2_5)), (hl_, .inr (0, [.ref hlb, .int (nI (((hl_c X) ++ [(nI po)]).length))])), (hlb, .inl (cA 0, 120, .inl f2_13)), (hs_, .inr (0, [.ref hsb, .int (nI (((hs_c X) ++ [(nI sd)]).length))])), (hsb, .inl (cA 0, 120, .inl u)), (hm_, .inr (0, [.ref hmb, .int (nI ((hm_c X).length))])), (hmb, .inl (cA 0, 120, .inl f4))]) (c_Co_append l D cA K hs_ hsb 120 f3 (hs_c X) (nI sd) (by first | assumption | omega) (by rw [hx_len3]; exact hlen)) hx hb hml hown hts hK hE hA hP hD hS k_Co_append m_727 (by decide) 5 rfl rfl rfl hl.1 rfl (Nat.le_of_ble_eq_true rfl) d_Hi_add_21  [5, 6] [0, 1, 2, 3, 4, 7, 8] [0, 1, 2, 3, 4, 7, 8, 5, 6] rfl rfl (by decide) (fun _ => rfl) (fun u21 H locs hq21 hP hD hS => ?_)
  obtain ⟨f2_21, rfl⟩ : ∃ z, z = u21 := ⟨_, rfl⟩
  try dsimp only at hq21
  have hP : va_P D vwCl [(ha, .inr (1, [.ref hp, .ref hl_, .ref hs_, .ref hm_, .int (nI bst), .int qy])), (hp, .inr (0, [.ref hpb, .int (nI (((hp_c X) ++ [(nI pp)]).length))])), (hpb, .inl (cA 0, 120, .inl f2_5)), (hl_, .inr (0, [.ref hlb, .int (nI (((hl_c X) ++ [(nI po)]).length))])), (hlb, .inl (cA 0, 120, .inl f2_13)), (hs_, .inr (0, [.ref hsb, .int (nI (((hs_c X) ++ [(nI sd)]).length))])), (hsb, .inl (cA 0, 120, .inl f2_21)), (hm_, .inr (0, [.ref hmb, .int (nI ((hm_c X).length))])), (hmb, .inl (cA 0, 120, .inl f4))] H := hP
  have hD : va_D A [(ha, .inr (1, [.ref hp, .ref hl_, .ref hs_, .ref hm_, .int (nI bst), .int qy])), (hp, .inr (0, [.ref hpb, .int (nI (((hp_c X) ++ [(nI pp)]).length))])), (hpb, .inl (cA 0, 120, .inl f2_5)), (hl_, .inr (0, [.ref hlb, .int (nI (((hl_c X) ++ [(nI po)]).length))])), (hlb, .inl (cA 0, 120, .inl f2_13)), (hs_, .inr (0, [.ref hsb, .int (nI (((hs_c X) ++ [(nI sd)]).length))])), (hsb, .inl (cA 0, 120, .inl f2_21)), (hm_, .inr (0, [.ref hmb, .int (nI ((hm_c X).length))])), (hmb, .inl (cA 0, 120, .inl f4))] := hD
  refine lv_aload_n hx hb d_Hi_add_24 rfl (lv_at hl 0 rfl) ?_
  refine va_get (C := RX1) (T := TX1) (N := 6) hx hb hts inX1 hown hK hP 0 rfl rfl 3 (by decide) (hts _ m_139) (fun _ h9 => h9) rfl d_Hi_add_25 ?_
  refine lv_iload hx hb d_Hi_add_28 (lv_at hl 4 rfl) ?_
  refine ck_cVv (C := "ReadMapper$Codes") (ci := 0) (rest := []) (wr := [(ha, .inr (1, [.ref hp, .ref hl_, .ref hs_, .ref hm_, .int (nI bst), .int qy])), (hp, .inr (0, [.ref hpb, .int (nI (((hp_c X) ++ [(nI pp)]).length))])), (hpb, .inl (cA 0, 120, .inl f2_5)), (hl_, .inr (0, [.ref hlb, .int (nI (((hl_c X) ++ [(nI po)]).length))])), (hlb, .inl (cA 0, 120, .inl f2_13)), (hs_, .inr (0, [.ref hsb, .int (nI (((hs_c X) ++ [(nI sd)]).length))])), (hsb, .inl (cA 0, 120, .inl f2_21))]) (ws2 := fun u => [(ha, .inr (1, [.ref hp, .ref hl_, .ref hs_, .ref hm_, .int (nI bst), .int qy])), (hp, .inr (0, [.ref hpb, .int (nI (((hp_c X) ++ [(nI pp)]).length))])), (hpb, .inl (cA 0, 120, .inl f2_5)), (hl_, .inr (0, [.ref hlb, .int (nI (((hl_c X) ++ [(nI po)]).length))])), (hlb, .inl (cA 0, 120, .inl f2_13)), (hs_, .inr (0, [.ref hsb, .int (nI (((hs_c X) ++ [(nI sd)]).length))])), (hsb, .inl (cA 0, 120, .inl f2_21)), (hm_, .inr (0, [.ref hmb, .int (nI (((hm_c X) ++ [(nI df)]).length))])), (hmb, .inl (cA 0, 120, .inl u))]) (c_Co_append l D cA K hm_ hmb 120 f4 (hm_c X) (nI df) (by first | assumption | omega) (by rw [hx_len4]; exact hlen)) hx hb hml hown hts hK hE hA hP hD hS k_Co_append m_727 (by decide) 7 rfl rfl rfl hl.1 rfl (Nat.le_of_ble_eq_true rfl) d_Hi_add_30  [7, 8] [0, 1, 2, 3, 4, 5, 6] [0, 1, 2, 3, 4, 5, 6, 7, 8] rfl rfl (by decide) (fun _ => rfl) (fun u30 H locs hq30 hP hD hS => ?_)
  obtain ⟨f2_30, rfl⟩ : ∃ z, z = u30 := ⟨_, rfl⟩
  try dsimp only at hq30
  have hP : va_P D vwCl [(ha, .inr (1, [.ref hp, .ref hl_, .ref hs_, .ref hm_, .int (nI bst), .int qy])), (hp, .inr (0, [.ref hpb, .int (nI (((hp_c X) ++ [(nI pp)]).length))])), (hpb, .inl (cA 0, 120, .inl f2_5)), (hl_, .inr (0, [.ref hlb, .int (nI (((hl_c X) ++ [(nI po)]).length))])), (hlb, .inl (cA 0, 120, .inl f2_13)), (hs_, .inr (0, [.ref hsb, .int (nI (((hs_c X) ++ [(nI sd)]).length))])), (hsb, .inl (cA 0, 120, .inl f2_21)), (hm_, .inr (0, [.ref hmb, .int (nI (((hm_c X) ++ [(nI df)]).length))])), (hmb, .inl (cA 0, 120, .inl f2_30))] H := hP
  have hD : va_D A [(ha, .inr (1, [.ref hp, .ref hl_, .ref hs_, .ref hm_, .int (nI bst), .int qy])), (hp, .inr (0, [.ref hpb, .int (nI (((hp_c X) ++ [(nI pp)]).length))])), (hpb, .inl (cA 0, 120, .inl f2_5)), (hl_, .inr (0, [.ref hlb, .int (nI (((hl_c X) ++ [(nI po)]).length))])), (hlb, .inl (cA 0, 120, .inl f2_13)), (hs_, .inr (0, [.ref hsb, .int (nI (((hs_c X) ++ [(nI sd)]).length))])), (hsb, .inl (cA 0, 120, .inl f2_21)), (hm_, .inr (0, [.ref hmb, .int (nI (((hm_c X) ++ [(nI df)]).length))])), (hmb, .inl (cA 0, 120, .inl f2_30))] := hD
  have hP : va_P D vwCl [(ha, .inr (1, [.ref hp, .ref hl_, .ref hs_, .ref hm_, .int (nI bst), .int qy])), (hp, .inr (0, [.ref hpb, .int (nI ((hp_c (X ++ [(pp, po, sd, df)])).length))])), (hpb, .inl (cA 0, 120, .inl f2_5)), (hl_, .inr (0, [.ref hlb, .int (nI ((hl_c (X ++ [(pp, po, sd, df)])).length))])), (hlb, .inl (cA 0, 120, .inl f2_13)), (hs_, .inr (0, [.ref hsb, .int (nI ((hs_c (X ++ [(pp, po, sd, df)])).length))])), (hsb, .inl (cA 0, 120, .inl f2_21)), (hm_, .inr (0, [.ref hmb, .int (nI ((hm_c (X ++ [(pp, po, sd, df)])).length))])), (hmb, .inl (cA 0, 120, .inl f2_30))] H := by rw [hp_s, hl_s, hs_s, hm_s]; exact hP
  have hD : va_D A [(ha, .inr (1, [.ref hp, .ref hl_, .ref hs_, .ref hm_, .int (nI bst), .int qy])), (hp, .inr (0, [.ref hpb, .int (nI ((hp_c (X ++ [(pp, po, sd, df)])).length))])), (hpb, .inl (cA 0, 120, .inl f2_5)), (hl_, .inr (0, [.ref hlb, .int (nI ((hl_c (X ++ [(pp, po, sd, df)])).length))])), (hlb, .inl (cA 0, 120, .inl f2_13)), (hs_, .inr (0, [.ref hsb, .int (nI ((hs_c (X ++ [(pp, po, sd, df)])).length))])), (hsb, .inl (cA 0, 120, .inl f2_21)), (hm_, .inr (0, [.ref hmb, .int (nI ((hm_c (X ++ [(pp, po, sd, df)])).length))])), (hmb, .inl (cA 0, 120, .inl f2_30))] := by rw [hp_s, hl_s, hs_s, hm_s]; exact hD
  exact hret (f2_5, f2_13, f2_21, f2_30) _ _ _ 33 d_Hi_add_33 ⟨by rw [hp_s]; exact hq5, by rw [hl_s]; exact hq13, by rw [hs_s]; exact hq21, by rw [hm_s]; exact hq30⟩ hP hD hS
theorem k_Hi_add : cf_V y_Hi_add b_Hi_add 5 none "ReadMapper$Hits" 4 := ⟨⟨m_725, (wm_s (q := (y_Hi_add, 6)) (by decide +kernel)), m_6, m_726⟩, by decide +kernel⟩
set_option maxHeartbeats 4000000 in
set_option maxRecDepth 100000 in
theorem c_Hi_countWith (l : Launch) (D : va_G) (cA : Nat → ClassId) (K : Nat → Nat) (ha hp hpb hl_ hlb hs_ hsb hm_ hmb bst : Nat) (qy : Int32) (f1 f4 : Nat → Int32) (X : List (Nat × Nat × Nat × Nat)) (x : Int32) (h1 : cd_r 120 f1 (hp_c X)) (h4 : cd_r 120 f4 (hm_c X)) : ck_I l y_Hi_countWith (Cond.code y_Hi_countWith b_Hi_countWith 4 (some .int) :: w_all) 3 D cA K [.ref ha, .int x] [(ha, .inr (1, [.ref hp, .ref hl_, .ref hs_, .ref hm_, .int (nI bst), .int qy])), (hp, .inr (0, [.ref hpb, .int (nI ((hp_c X).length))])), (hpb, .inl (cA 0, 120, .inl f1)), (hm_, .inr (0, [.ref hmb, .int (nI ((hm_c X).length))])), (hmb, .inl (cA 0, 120, .inl f4))] (fun (r : Int32) (u : Unit) => ∃ n, r = nI n ∧ n = ct_c (fun j => (hm_c X).getD j 0) x X.length) (fun u => [(ha, .inr (1, [.ref hp, .ref hl_, .ref hs_, .ref hm_, .int (nI bst), .int qy])), (hp, .inr (0, [.ref hpb, .int (nI ((hp_c X).length))])), (hpb, .inl (cA 0, 120, .inl f1)), (hm_, .inr (0, [.ref hmb, .int (nI ((hm_c X).length))])), (hmb, .inl (cA 0, 120, .inl f4))]) := by
  refine ck_mkI (by decide) (fun _ _ _ => rfl) (Nat.le_of_ble_eq_true rfl) ?_
  intro pG eG sG mG argsG belowG methG cG Q A H locs ls hx hb hml hown hts hK hE hA hP hD hS hl hret
  have hl : lv_has ls 4 [(0, .ref ha), (1, .int x)] := hl
  have hl1 := cd_len h1
  rw [hx_len] at hl1
  refine lv_iconst (v := nI 0) hx hb d_Hi_countWith_0 (by decide) ?_
  refine lv_istore_n (lv' := [(2, .int (nI 0)), (0, .ref ha), (1, .int x)]) hx hb d_Hi_countWith_1 rfl hl (by decide) rfl (fun ls hl => ?_)
  refine lv_iconst (v := nI 0) hx hb d_Hi_countWith_2 (by decide) ?_
  refine lv_istore_n (lv' := [(3, .int (nI 0)), (2, .int (nI 0)), (0, .ref ha), (1, .int x)]) hx hb d_Hi_countWith_3 rfl hl (by decide) rfl (fun ls hl => ?_)
  have L4 : ∀ (nG : Nat) (n i : Nat) (H : Heap) (locs : List Loc) (ls : Array Slot), X.length - i = nG → (i ≤ X.length) → (n = ct_c (fun j => (hm_c X).getD j 0) x i) →  va_P D vwCl [(ha, .inr (1, [.ref hp, .ref hl_, .ref hs_, .ref hm_, .int (nI bst), .int qy])), (hp, .inr (0, [.ref hpb, .int (nI ((hp_c X).length))])), (hpb, .inl (cA 0, 120, .inl f1)), (hm_, .inr (0, [.ref hmb, .int (nI ((hm_c X).length))])), (hmb, .inl (cA 0, 120, .inl f4))] H → va_D A [(ha, .inr (1, [.ref hp, .ref hl_, .ref hs_, .ref hm_, .int (nI bst), .int qy])), (hp, .inr (0, [.ref hpb, .int (nI ((hp_c X).length))])), (hpb, .inl (cA 0, 120, .inl f1)), (hm_, .inr (0, [.ref hmb, .int (nI ((hm_c X).length))])), (hmb, .inl (cA 0, 120, .inl f4))] → va_S A sG.heap H locs → lv_has ls 4 [(0, .ref ha), (1, .int x), (2, .int (nI n)), (3, .int (nI i))] → W pG l eG (rm_d 3) sG mG argsG belowG methG cG H locs 0 0 Q (F0 mG 4 ls []) := by
    intro nG
    induction nG using Nat.strongRecOn with
    | ind nG ih4 =>
      intro n i H locs ls hn4 hi hn hP hD hS hl
      have hcl := ct_le (fun j => (hm_c X).getD j 0) x i
      rw [← hn] at hcl
      refine lv_iload_n hx hb d_Hi_countWith_4 rfl (lv_at hl 3 rfl) ?_
      refine lv_aload_n hx hb d_Hi_countWith_5 rfl (lv_at hl 0 rfl) ?_
      refine ck_cV (C := "ReadMapper$Hits") (ci := 1) (rest := [.int (nI i)]) (wr := [(hm_, .inr (0, [.ref hmb, .int (nI ((hm_c X).length))])), (hmb, .inl (cA 0, 120, .inl f4))]) (ws2 := fun u => [(ha, .inr (1, [.ref hp, .ref hl_, .ref hs_, .ref hm_, .int (nI bst), .int qy])), (hp, .inr (0, [.ref hpb, .int (nI ((hp_c X).length))])), (hpb, .inl (cA 0, 120, .inl f1)), (hm_, .inr (0, [.ref hmb, .int (nI ((hm_c X).length))])), (hmb, .inl (cA 0, 120, .inl f4))]) (c_Hi_number l D cA K ha hp hpb hl_ 0 hs_ 0 hm_ 0 bst qy f1 X (by first | assumption | omega)) hx hb hml hown hts hK hE hA hP hD hS k_Hi_number m_732 (by decide) 0 rfl rfl rfl hl.1 rfl (Nat.le_of_ble_eq_true rfl) d_Hi_countWith_6  [0, 1, 2] [3, 4] [2, 3, 4, 0, 1] rfl rfl (by decide) (fun _ => rfl) (fun r6 u6 H locs hq6 hP hD hS => ?_)
      try dsimp only at hq6
      have hP : va_P D vwCl [(ha, .inr (1, [.ref hp, .ref hl_, .ref hs_, .ref hm_, .int (nI bst), .int qy])), (hp, .inr (0, [.ref hpb, .int (nI ((hp_c X).length))])), (hpb, .inl (cA 0, 120, .inl f1)), (hm_, .inr (0, [.ref hmb, .int (nI ((hm_c X).length))])), (hmb, .inl (cA 0, 120, .inl f4))] H := hP
      have hD : va_D A [(ha, .inr (1, [.ref hp, .ref hl_, .ref hs_, .ref hm_, .int (nI bst), .int qy])), (hp, .inr (0, [.ref hpb, .int (nI ((hp_c X).length))])), (hpb, .inl (cA 0, 120, .inl f1)), (hm_, .inr (0, [.ref hmb, .int (nI ((hm_c X).length))])), (hmb, .inl (cA 0, 120, .inl f4))] := hD
      obtain rfl := hq6
      refine wn_icmp_ge (by omega) (by omega) (tgt := 33) hx hb d_Hi_countWith_9 (by decide) ?_ ?_
      · intro h9
        refine lv_iload_n hx hb d_Hi_countWith_33 rfl (lv_at hl 2 rfl) ?_
        exact hret (nI n) () _ _ _ 34 d_Hi_countWith_34 ⟨n, rfl, by rw [hn, show i = X.length by omega]⟩ hP hD hS
      · intro h9
        refine lv_aload_n hx hb d_Hi_countWith_12 rfl (lv_at hl 0 rfl) ?_
        refine va_get (C := RX1) (T := TX1) (N := 6) hx hb hts inX1 hown hK hP 0 rfl rfl 3 (by decide) (hts _ m_139) (fun _ h9 => h9) rfl d_Hi_countWith_13 ?_
        refine lv_iload_n hx hb d_Hi_countWith_16 rfl (lv_at hl 3 rfl) ?_
        refine ck_cV (C := "ReadMapper$Codes") (ci := 0) (rest := []) (wr := [(ha, .inr (1, [.ref hp, .ref hl_, .ref hs_, .ref hm_, .int (nI bst), .int qy])), (hp, .inr (0, [.ref hpb, .int (nI ((hp_c X).length))])), (hpb, .inl (cA 0, 120, .inl f1))]) (ws2 := fun u => [(ha, .inr (1, [.ref hp, .ref hl_, .ref hs_, .ref hm_, .int (nI bst), .int qy])), (hp, .inr (0, [.ref hpb, .int (nI ((hp_c X).length))])), (hpb, .inl (cA 0, 120, .inl f1)), (hm_, .inr (0, [.ref hmb, .int (nI ((hm_c X).length))])), (hmb, .inl (cA 0, 120, .inl f4))]) (c_Co_at l D cA K hm_ hmb 120 f4 (hm_c X) (nI i) (by first | assumption | omega)) hx hb hml hown hts hK hE hA hP hD hS k_Co_at m_312 (by decide) 3 rfl rfl rfl hl.1 rfl (Nat.le_of_ble_eq_true rfl) d_Hi_countWith_17  [3, 4] [0, 1, 2] [0, 1, 2, 3, 4] rfl rfl (by decide) (fun _ => rfl) (fun r17 u17 H locs hq17 hP hD hS => ?_)
        try dsimp only at hq17
        have hP : va_P D vwCl [(ha, .inr (1, [.ref hp, .ref hl_, .ref hs_, .ref hm_, .int (nI bst), .int qy])), (hp, .inr (0, [.ref hpb, .int (nI ((hp_c X).length))])), (hpb, .inl (cA 0, 120, .inl f1)), (hm_, .inr (0, [.ref hmb, .int (nI ((hm_c X).length))])), (hmb, .inl (cA 0, 120, .inl f4))] H := hP
        have hD : va_D A [(ha, .inr (1, [.ref hp, .ref hl_, .ref hs_, .ref hm_, .int (nI bst), .int qy])), (hp, .inr (0, [.ref hpb, .int (nI ((hp_c X).length))])), (hpb, .inl (cA 0, 120, .inl f1)), (hm_, .inr (0, [.ref hmb, .int (nI ((hm_c X).length))])), (hmb, .inl (cA 0, 120, .inl f4))] := hD
        obtain rfl := hq17
        refine wn_eq (y := (hm_c X).getD i 0) (at_n (by rw [hx_len4]; omega) (by rw [hx_len4]; omega)) ?_
        refine lv_iload_n hx hb d_Hi_countWith_20 rfl (lv_at hl 1 rfl) ?_
        refine lv_icmp_ne (tgt := 27) hx hb d_Hi_countWith_21 (by decide) ?_ ?_
        · intro h21
          refine lv_iinc (k := 3) (v := nI (i + 1)) (lv' := [(3, .int (nI (i + 1))), (0, .ref ha), (1, .int x), (2, .int (nI n))]) hx hb d_Hi_countWith_27 hl rfl (wi_inc1 _) (by decide) rfl (fun ls hl => ?_)
          refine lv_goto (tgt := 4) hx hb d_Hi_countWith_30 (by decide) ?_
          exact ih4 _ (by omega) n (i + 1) _ _ _ rfl (by first | assumption | omega) (by first | exact ct_1 (f := (fun j => (hm_c X).getD j 0)) hn h21 | exact ct_0 (f := (fun j => (hm_c X).getD j 0)) hn h21) hP hD hS (lv_sub hl [1, 2, 3, 0] rfl)
        · intro h21
          refine lv_iinc (k := 2) (v := nI (n + 1)) (lv' := [(2, .int (nI (n + 1))), (0, .ref ha), (1, .int x), (3, .int (nI i))]) hx hb d_Hi_countWith_24 hl rfl (wi_inc1 _) (by decide) rfl (fun ls hl => ?_)
          refine lv_iinc (k := 3) (v := nI (i + 1)) (lv' := [(3, .int (nI (i + 1))), (2, .int (nI (n + 1))), (0, .ref ha), (1, .int x)]) hx hb d_Hi_countWith_27 hl rfl (wi_inc1 _) (by decide) rfl (fun ls hl => ?_)
          refine lv_goto (tgt := 4) hx hb d_Hi_countWith_30 (by decide) ?_
          exact ih4 _ (by omega) (n + 1) (i + 1) _ _ _ rfl (by first | assumption | omega) (by first | exact ct_1 (f := (fun j => (hm_c X).getD j 0)) hn h21 | exact ct_0 (f := (fun j => (hm_c X).getD j 0)) hn h21) hP hD hS (lv_sub hl [2, 3, 1, 0] rfl)
  exact L4 _ 0 0 _ _ _ rfl (by first | assumption | omega) rfl hP hD hS (lv_sub hl [2, 3, 1, 0] rfl)
theorem k_Hi_countWith : cf_V y_Hi_countWith b_Hi_countWith 4 (some .int) "ReadMapper$Hits" 1 := ⟨⟨m_739, (wm_s (q := (y_Hi_countWith, 6)) (by decide +kernel)), m_6, m_740⟩, by decide +kernel⟩
set_option maxHeartbeats 4000000 in
set_option maxRecDepth 100000 in
theorem c_Hi_chooseBest (l : Launch) (D : va_G) (cA : Nat → ClassId) (K : Nat → Nat) (ha hp hpb hl_ hlb hs_ hsb hm_ hmb bst : Nat) (qy : Int32) (f1 f4 : Nat → Int32) (X : List (Nat × Nat × Nat × Nat)) (h1 : cd_r 120 f1 (hp_c X)) (h4 : cd_r 120 f4 (hm_c X)) : ck_V l y_Hi_chooseBest (Cond.code y_Hi_chooseBest b_Hi_chooseBest 2 none :: w_all) 3 D cA K [.ref ha] [(ha, .inr (1, [.ref hp, .ref hl_, .ref hs_, .ref hm_, .int (nI bst), .int qy])), (hp, .inr (0, [.ref hpb, .int (nI ((hp_c X).length))])), (hpb, .inl (cA 0, 120, .inl f1)), (hm_, .inr (0, [.ref hmb, .int (nI ((hm_c X).length))])), (hmb, .inl (cA 0, 120, .inl f4))] (fun (u : Nat) => u = be_c (fun j => (hm_c X).getD j 0) X.length) (fun u => [(ha, .inr (1, [.ref hp, .ref hl_, .ref hs_, .ref hm_, .int (nI u), .int qy])), (hp, .inr (0, [.ref hpb, .int (nI ((hp_c X).length))])), (hpb, .inl (cA 0, 120, .inl f1)), (hm_, .inr (0, [.ref hmb, .int (nI ((hm_c X).length))])), (hmb, .inl (cA 0, 120, .inl f4))]) := by
  refine ck_mkV (by decide) (Nat.le_of_ble_eq_true rfl) ?_
  intro pG eG sG mG argsG belowG methG cG Q A H locs ls hx hb hml hown hts hK hE hA hP hD hS hl hret
  have hl : lv_has ls 2 [(0, .ref ha)] := hl
  have hl1 := cd_len h1
  rw [hx_len] at hl1
  refine lv_aload_n hx hb d_Hi_chooseBest_0 rfl (lv_at hl 0 rfl) ?_
  refine lv_iconst (v := nI 0) hx hb d_Hi_chooseBest_1 (by decide) ?_
  refine va_put (D := D) (ci := 1) (v := .int (nI 0)) (ty := .int) (C := RX1) (T := TX1) (N := 6) hx hb hts inX1 tyX1 tyX1_ok nmX1 hown hK hP hD hS 0 rfl rfl 4 (by decide) (hts _ m_142) (fun _ h9 => h9) rfl (by decide +kernel) rfl rfl (Nat.le_of_ble_eq_true rfl) d_Hi_chooseBest_2 (fun H locs hP hD hS => ?_)
  have hP : va_P D vwCl [(ha, .inr (1, [.ref hp, .ref hl_, .ref hs_, .ref hm_, .int (nI 0), .int qy])), (hp, .inr (0, [.ref hpb, .int (nI ((hp_c X).length))])), (hpb, .inl (cA 0, 120, .inl f1)), (hm_, .inr (0, [.ref hmb, .int (nI ((hm_c X).length))])), (hmb, .inl (cA 0, 120, .inl f4))] H := hP
  have hD : va_D A [(ha, .inr (1, [.ref hp, .ref hl_, .ref hs_, .ref hm_, .int (nI 0), .int qy])), (hp, .inr (0, [.ref hpb, .int (nI ((hp_c X).length))])), (hpb, .inl (cA 0, 120, .inl f1)), (hm_, .inr (0, [.ref hmb, .int (nI ((hm_c X).length))])), (hmb, .inl (cA 0, 120, .inl f4))] := hD
  refine lv_iconst (v := nI 1) hx hb d_Hi_chooseBest_5 (by decide) ?_
  refine lv_istore_n (lv' := [(1, .int (nI 1)), (0, .ref ha)]) hx hb d_Hi_chooseBest_6 rfl hl (by decide) rfl (fun ls hl => ?_)
  have L7 : ∀ (nG : Nat) (i bb : Nat) (H : Heap) (locs : List Loc) (ls : Array Slot), X.length - i = nG → (1 ≤ i) → (i ≤ X.length ∨ i = 1) → (bb = be_c (fun j => (hm_c X).getD j 0) i) →  va_P D vwCl [(ha, .inr (1, [.ref hp, .ref hl_, .ref hs_, .ref hm_, .int (nI bb), .int qy])), (hp, .inr (0, [.ref hpb, .int (nI ((hp_c X).length))])), (hpb, .inl (cA 0, 120, .inl f1)), (hm_, .inr (0, [.ref hmb, .int (nI ((hm_c X).length))])), (hmb, .inl (cA 0, 120, .inl f4))] H → va_D A [(ha, .inr (1, [.ref hp, .ref hl_, .ref hs_, .ref hm_, .int (nI bb), .int qy])), (hp, .inr (0, [.ref hpb, .int (nI ((hp_c X).length))])), (hpb, .inl (cA 0, 120, .inl f1)), (hm_, .inr (0, [.ref hmb, .int (nI ((hm_c X).length))])), (hmb, .inl (cA 0, 120, .inl f4))] → va_S A sG.heap H locs → lv_has ls 2 [(0, .ref ha), (1, .int (nI i))] → W pG l eG (rm_d 3) sG mG argsG belowG methG cG H locs 0 0 Q (F0 mG 7 ls []) := by
    intro nG
    induction nG using Nat.strongRecOn with
    | ind nG ih7 =>
      intro i bb H locs ls hn7 hi hi2 hbb hP hD hS hl
      have hbl := be_le (fun j => (hm_c X).getD j 0) i
      rw [← hbb] at hbl
      refine lv_iload_n hx hb d_Hi_chooseBest_7 rfl (lv_at hl 1 rfl) ?_
      refine lv_aload_n hx hb d_Hi_chooseBest_8 rfl (lv_at hl 0 rfl) ?_
      refine ck_cV (C := "ReadMapper$Hits") (ci := 1) (rest := [.int (nI i)]) (wr := [(hm_, .inr (0, [.ref hmb, .int (nI ((hm_c X).length))])), (hmb, .inl (cA 0, 120, .inl f4))]) (ws2 := fun u => [(ha, .inr (1, [.ref hp, .ref hl_, .ref hs_, .ref hm_, .int (nI bb), .int qy])), (hp, .inr (0, [.ref hpb, .int (nI ((hp_c X).length))])), (hpb, .inl (cA 0, 120, .inl f1)), (hm_, .inr (0, [.ref hmb, .int (nI ((hm_c X).length))])), (hmb, .inl (cA 0, 120, .inl f4))]) (c_Hi_number l D cA K ha hp hpb hl_ 0 hs_ 0 hm_ 0 bb qy f1 X (by first | assumption | omega)) hx hb hml hown hts hK hE hA hP hD hS k_Hi_number m_732 (by decide) 0 rfl rfl rfl hl.1 rfl (Nat.le_of_ble_eq_true rfl) d_Hi_chooseBest_9  [0, 1, 2] [3, 4] [2, 3, 4, 0, 1] rfl rfl (by decide) (fun _ => rfl) (fun r9 u9 H locs hq9 hP hD hS => ?_)
      try dsimp only at hq9
      have hP : va_P D vwCl [(ha, .inr (1, [.ref hp, .ref hl_, .ref hs_, .ref hm_, .int (nI bb), .int qy])), (hp, .inr (0, [.ref hpb, .int (nI ((hp_c X).length))])), (hpb, .inl (cA 0, 120, .inl f1)), (hm_, .inr (0, [.ref hmb, .int (nI ((hm_c X).length))])), (hmb, .inl (cA 0, 120, .inl f4))] H := hP
      have hD : va_D A [(ha, .inr (1, [.ref hp, .ref hl_, .ref hs_, .ref hm_, .int (nI bb), .int qy])), (hp, .inr (0, [.ref hpb, .int (nI ((hp_c X).length))])), (hpb, .inl (cA 0, 120, .inl f1)), (hm_, .inr (0, [.ref hmb, .int (nI ((hm_c X).length))])), (hmb, .inl (cA 0, 120, .inl f4))] := hD
      obtain rfl := hq9
      refine wn_icmp_ge (by omega) (by omega) (tgt := 48) hx hb d_Hi_chooseBest_12 (by decide) ?_ ?_
      · intro h12
        exact hret bb _ _ _ 48 d_Hi_chooseBest_48 (hbb.trans (be_end (by omega) hi).symm) hP hD hS
      · intro h12
        refine lv_aload_n hx hb d_Hi_chooseBest_15 rfl (lv_at hl 0 rfl) ?_
        refine va_get (C := RX1) (T := TX1) (N := 6) hx hb hts inX1 hown hK hP 0 rfl rfl 3 (by decide) (hts _ m_139) (fun _ h9 => h9) rfl d_Hi_chooseBest_16 ?_
        refine lv_iload_n hx hb d_Hi_chooseBest_19 rfl (lv_at hl 1 rfl) ?_
        refine ck_cV (C := "ReadMapper$Codes") (ci := 0) (rest := []) (wr := [(ha, .inr (1, [.ref hp, .ref hl_, .ref hs_, .ref hm_, .int (nI bb), .int qy])), (hp, .inr (0, [.ref hpb, .int (nI ((hp_c X).length))])), (hpb, .inl (cA 0, 120, .inl f1))]) (ws2 := fun u => [(ha, .inr (1, [.ref hp, .ref hl_, .ref hs_, .ref hm_, .int (nI bb), .int qy])), (hp, .inr (0, [.ref hpb, .int (nI ((hp_c X).length))])), (hpb, .inl (cA 0, 120, .inl f1)), (hm_, .inr (0, [.ref hmb, .int (nI ((hm_c X).length))])), (hmb, .inl (cA 0, 120, .inl f4))]) (c_Co_at l D cA K hm_ hmb 120 f4 (hm_c X) (nI i) (by first | assumption | omega)) hx hb hml hown hts hK hE hA hP hD hS k_Co_at m_312 (by decide) 3 rfl rfl rfl hl.1 rfl (Nat.le_of_ble_eq_true rfl) d_Hi_chooseBest_20  [3, 4] [0, 1, 2] [0, 1, 2, 3, 4] rfl rfl (by decide) (fun _ => rfl) (fun r20 u20 H locs hq20 hP hD hS => ?_)
        try dsimp only at hq20
        have hP : va_P D vwCl [(ha, .inr (1, [.ref hp, .ref hl_, .ref hs_, .ref hm_, .int (nI bb), .int qy])), (hp, .inr (0, [.ref hpb, .int (nI ((hp_c X).length))])), (hpb, .inl (cA 0, 120, .inl f1)), (hm_, .inr (0, [.ref hmb, .int (nI ((hm_c X).length))])), (hmb, .inl (cA 0, 120, .inl f4))] H := hP
        have hD : va_D A [(ha, .inr (1, [.ref hp, .ref hl_, .ref hs_, .ref hm_, .int (nI bb), .int qy])), (hp, .inr (0, [.ref hpb, .int (nI ((hp_c X).length))])), (hpb, .inl (cA 0, 120, .inl f1)), (hm_, .inr (0, [.ref hmb, .int (nI ((hm_c X).length))])), (hmb, .inl (cA 0, 120, .inl f4))] := hD
        obtain rfl := hq20
        refine wn_eq (y := (hm_c X).getD i 0) (at_n (by rw [hx_len4]; omega) (by rw [hx_len4]; omega)) ?_
        refine lv_aload_n hx hb d_Hi_chooseBest_23 rfl (lv_at hl 0 rfl) ?_
        refine va_get (C := RX1) (T := TX1) (N := 6) hx hb hts inX1 hown hK hP 0 rfl rfl 3 (by decide) (hts _ m_139) (fun _ h9 => h9) rfl d_Hi_chooseBest_24 ?_
        refine lv_aload_n hx hb d_Hi_chooseBest_27 rfl (lv_at hl 0 rfl) ?_
        refine va_get (C := RX1) (T := TX1) (N := 6) hx hb hts inX1 hown hK hP 0 rfl rfl 4 (by decide) (hts _ m_142) (fun _ h9 => h9) rfl d_Hi_chooseBest_28 ?_
        refine ck_cV (C := "ReadMapper$Codes") (ci := 0) (rest := [.int ((hm_c X).getD i 0)]) (wr := [(ha, .inr (1, [.ref hp, .ref hl_, .ref hs_, .ref hm_, .int (nI bb), .int qy])), (hp, .inr (0, [.ref hpb, .int (nI ((hp_c X).length))])), (hpb, .inl (cA 0, 120, .inl f1))]) (ws2 := fun u => [(ha, .inr (1, [.ref hp, .ref hl_, .ref hs_, .ref hm_, .int (nI bb), .int qy])), (hp, .inr (0, [.ref hpb, .int (nI ((hp_c X).length))])), (hpb, .inl (cA 0, 120, .inl f1)), (hm_, .inr (0, [.ref hmb, .int (nI ((hm_c X).length))])), (hmb, .inl (cA 0, 120, .inl f4))]) (c_Co_at l D cA K hm_ hmb 120 f4 (hm_c X) (nI bb) (by first | assumption | omega)) hx hb hml hown hts hK hE hA hP hD hS k_Co_at m_312 (by decide) 3 rfl rfl rfl hl.1 rfl (Nat.le_of_ble_eq_true rfl) d_Hi_chooseBest_31  [3, 4] [0, 1, 2] [0, 1, 2, 3, 4] rfl rfl (by decide) (fun _ => rfl) (fun r31 u31 H locs hq31 hP hD hS => ?_)
        try dsimp only at hq31
        have hP : va_P D vwCl [(ha, .inr (1, [.ref hp, .ref hl_, .ref hs_, .ref hm_, .int (nI bb), .int qy])), (hp, .inr (0, [.ref hpb, .int (nI ((hp_c X).length))])), (hpb, .inl (cA 0, 120, .inl f1)), (hm_, .inr (0, [.ref hmb, .int (nI ((hm_c X).length))])), (hmb, .inl (cA 0, 120, .inl f4))] H := hP
        have hD : va_D A [(ha, .inr (1, [.ref hp, .ref hl_, .ref hs_, .ref hm_, .int (nI bb), .int qy])), (hp, .inr (0, [.ref hpb, .int (nI ((hp_c X).length))])), (hpb, .inl (cA 0, 120, .inl f1)), (hm_, .inr (0, [.ref hmb, .int (nI ((hm_c X).length))])), (hmb, .inl (cA 0, 120, .inl f4))] := hD
        obtain rfl := hq31
        refine wn_eq (y := (hm_c X).getD bb 0) (at_n (by rw [hx_len4]; omega) (by rw [hx_len4]; omega)) ?_
        refine lv_icmp_ge (tgt := 42) hx hb d_Hi_chooseBest_34 (by decide) ?_ ?_
        · intro h34
          refine lv_iinc (k := 1) (v := nI (i + 1)) (lv' := [(1, .int (nI (i + 1))), (0, .ref ha)]) hx hb d_Hi_chooseBest_42 hl rfl (wi_inc1 _) (by decide) rfl (fun ls hl => ?_)
          refine lv_goto (tgt := 7) hx hb d_Hi_chooseBest_45 (by decide) ?_
          exact ih7 _ (by omega) (i + 1) bb _ _ _ rfl (by first | assumption | omega) (by first | assumption | omega) (by first | exact (be_y (f := (fun j => (hm_c X).getD j 0)) (by rw [← hbb]; exact in_lt h34)).symm | exact hbb.trans (be_n (f := (fun j => (hm_c X).getD j 0)) (by rw [← hbb]; exact in_nlt h34)).symm) hP hD hS (lv_sub hl [1, 0] rfl)
        · intro h34
          refine lv_aload_n hx hb d_Hi_chooseBest_37 rfl (lv_at hl 0 rfl) ?_
          refine lv_iload_n hx hb d_Hi_chooseBest_38 rfl (lv_at hl 1 rfl) ?_
          refine va_put (D := D) (ci := 1) (v := .int (nI i)) (ty := .int) (C := RX1) (T := TX1) (N := 6) hx hb hts inX1 tyX1 tyX1_ok nmX1 hown hK hP hD hS 0 rfl rfl 4 (by decide) (hts _ m_142) (fun _ h9 => h9) rfl (by decide +kernel) rfl rfl (Nat.le_of_ble_eq_true rfl) d_Hi_chooseBest_39 (fun H locs hP hD hS => ?_)
          have hP : va_P D vwCl [(ha, .inr (1, [.ref hp, .ref hl_, .ref hs_, .ref hm_, .int (nI i), .int qy])), (hp, .inr (0, [.ref hpb, .int (nI ((hp_c X).length))])), (hpb, .inl (cA 0, 120, .inl f1)), (hm_, .inr (0, [.ref hmb, .int (nI ((hm_c X).length))])), (hmb, .inl (cA 0, 120, .inl f4))] H := hP
          have hD : va_D A [(ha, .inr (1, [.ref hp, .ref hl_, .ref hs_, .ref hm_, .int (nI i), .int qy])), (hp, .inr (0, [.ref hpb, .int (nI ((hp_c X).length))])), (hpb, .inl (cA 0, 120, .inl f1)), (hm_, .inr (0, [.ref hmb, .int (nI ((hm_c X).length))])), (hmb, .inl (cA 0, 120, .inl f4))] := hD
          refine lv_iinc (k := 1) (v := nI (i + 1)) (lv' := [(1, .int (nI (i + 1))), (0, .ref ha)]) hx hb d_Hi_chooseBest_42 hl rfl (wi_inc1 _) (by decide) rfl (fun ls hl => ?_)
          refine lv_goto (tgt := 7) hx hb d_Hi_chooseBest_45 (by decide) ?_
          exact ih7 _ (by omega) (i + 1) i _ _ _ rfl (by first | assumption | omega) (by first | assumption | omega) (by first | exact (be_y (f := (fun j => (hm_c X).getD j 0)) (by rw [← hbb]; exact in_lt h34)).symm | exact hbb.trans (be_n (f := (fun j => (hm_c X).getD j 0)) (by rw [← hbb]; exact in_nlt h34)).symm) hP hD hS (lv_sub hl [1, 0] rfl)
  exact L7 _ 1 0 _ _ _ rfl (by first | assumption | omega) (by first | assumption | omega) be_1.symm hP hD hS (lv_sub hl [1, 0] rfl)
theorem k_Hi_chooseBest : cf_V y_Hi_chooseBest b_Hi_chooseBest 2 none "ReadMapper$Hits" 0 := ⟨⟨m_730, (wm_s (q := (y_Hi_chooseBest, 6)) (by decide +kernel)), m_6, m_731⟩, by decide +kernel⟩
