theorem d_Rm_byteAt_0 : decode b_Rm_byteAt 0 = .ok (.lload_n 0, 1) := by decide +kernel
theorem d_Rm_byteAt_1 : decode b_Rm_byteAt 1 = .ok (.iload_n 2, 1) := by decide +kernel
theorem d_Rm_byteAt_2 : decode b_Rm_byteAt 2 = .ok (.lushr, 1) := by decide +kernel
theorem d_Rm_byteAt_3 : decode b_Rm_byteAt 3 = .ok (.l2i, 1) := by decide +kernel
theorem d_Rm_byteAt_4 : decode b_Rm_byteAt 4 = .ok (.sipush 255, 3) := by decide +kernel
theorem d_Rm_byteAt_7 : decode b_Rm_byteAt 7 = .ok (.iand, 1) := by decide +kernel
theorem d_Rm_byteAt_8 : decode b_Rm_byteAt 8 = .ok (.ireturn, 1) := by decide +kernel
theorem d_Rm_isNameCode_0 : decode b_Rm_isNameCode 0 = .ok (.iload_n 0, 1) := by decide +kernel
theorem d_Rm_isNameCode_1 : decode b_Rm_isNameCode 1 = .ok (.bipush 97, 2) := by decide +kernel
theorem d_Rm_isNameCode_3 : decode b_Rm_isNameCode 3 = .ok (.if_icmp .lt 9, 3) := by decide +kernel
theorem d_Rm_isNameCode_6 : decode b_Rm_isNameCode 6 = .ok (.iload_n 0, 1) := by decide +kernel
theorem d_Rm_isNameCode_7 : decode b_Rm_isNameCode 7 = .ok (.bipush 122, 2) := by decide +kernel
theorem d_Rm_isNameCode_9 : decode b_Rm_isNameCode 9 = .ok (.if_icmp .le 33, 3) := by decide +kernel
theorem d_Rm_isNameCode_12 : decode b_Rm_isNameCode 12 = .ok (.iload_n 0, 1) := by decide +kernel
theorem d_Rm_isNameCode_13 : decode b_Rm_isNameCode 13 = .ok (.bipush 65, 2) := by decide +kernel
theorem d_Rm_isNameCode_15 : decode b_Rm_isNameCode 15 = .ok (.if_icmp .lt 9, 3) := by decide +kernel
theorem d_Rm_isNameCode_18 : decode b_Rm_isNameCode 18 = .ok (.iload_n 0, 1) := by decide +kernel
theorem d_Rm_isNameCode_19 : decode b_Rm_isNameCode 19 = .ok (.bipush 90, 2) := by decide +kernel
theorem d_Rm_isNameCode_21 : decode b_Rm_isNameCode 21 = .ok (.if_icmp .le 21, 3) := by decide +kernel
theorem d_Rm_isNameCode_24 : decode b_Rm_isNameCode 24 = .ok (.iload_n 0, 1) := by decide +kernel
theorem d_Rm_isNameCode_25 : decode b_Rm_isNameCode 25 = .ok (.bipush 48, 2) := by decide +kernel
theorem d_Rm_isNameCode_27 : decode b_Rm_isNameCode 27 = .ok (.if_icmp .lt 9, 3) := by decide +kernel
theorem d_Rm_isNameCode_30 : decode b_Rm_isNameCode 30 = .ok (.iload_n 0, 1) := by decide +kernel
theorem d_Rm_isNameCode_31 : decode b_Rm_isNameCode 31 = .ok (.bipush 57, 2) := by decide +kernel
theorem d_Rm_isNameCode_33 : decode b_Rm_isNameCode 33 = .ok (.if_icmp .le 9, 3) := by decide +kernel
theorem d_Rm_isNameCode_36 : decode b_Rm_isNameCode 36 = .ok (.iload_n 0, 1) := by decide +kernel
theorem d_Rm_isNameCode_37 : decode b_Rm_isNameCode 37 = .ok (.bipush 95, 2) := by decide +kernel
theorem d_Rm_isNameCode_39 : decode b_Rm_isNameCode 39 = .ok (.if_icmp .ne 7, 3) := by decide +kernel
theorem d_Rm_isNameCode_42 : decode b_Rm_isNameCode 42 = .ok (.iconst 1, 1) := by decide +kernel
theorem d_Rm_isNameCode_43 : decode b_Rm_isNameCode 43 = .ok (.goto 4, 3) := by decide +kernel
theorem d_Rm_isNameCode_46 : decode b_Rm_isNameCode 46 = .ok (.iconst 0, 1) := by decide +kernel
theorem d_Rm_isNameCode_47 : decode b_Rm_isNameCode 47 = .ok (.ireturn, 1) := by decide +kernel
theorem d_Rm_symbolOf_0 : decode b_Rm_symbolOf 0 = .ok (.iconst 2, 1) := by decide +kernel
theorem d_Rm_symbolOf_1 : decode b_Rm_symbolOf 1 = .ok (.istore_n 1, 1) := by decide +kernel
theorem d_Rm_symbolOf_2 : decode b_Rm_symbolOf 2 = .ok (.iload_n 1, 1) := by decide +kernel
theorem d_Rm_symbolOf_3 : decode b_Rm_symbolOf 3 = .ok (.ldc 159, 2) := by decide +kernel
theorem d_Rm_symbolOf_5 : decode b_Rm_symbolOf 5 = .ok (.invokevirtual 161, 3) := by decide +kernel
theorem d_Rm_symbolOf_8 : decode b_Rm_symbolOf 8 = .ok (.if_icmp .ge 21, 3) := by decide +kernel
theorem d_Rm_symbolOf_11 : decode b_Rm_symbolOf 11 = .ok (.ldc 159, 2) := by decide +kernel
theorem d_Rm_symbolOf_13 : decode b_Rm_symbolOf 13 = .ok (.iload_n 1, 1) := by decide +kernel
theorem d_Rm_symbolOf_14 : decode b_Rm_symbolOf 14 = .ok (.invokevirtual 240, 3) := by decide +kernel
theorem d_Rm_symbolOf_17 : decode b_Rm_symbolOf 17 = .ok (.iload_n 0, 1) := by decide +kernel
theorem d_Rm_symbolOf_18 : decode b_Rm_symbolOf 18 = .ok (.if_icmp .ne 5, 3) := by decide +kernel
theorem d_Rm_symbolOf_21 : decode b_Rm_symbolOf 21 = .ok (.iload_n 1, 1) := by decide +kernel
theorem d_Rm_symbolOf_22 : decode b_Rm_symbolOf 22 = .ok (.ireturn, 1) := by decide +kernel
theorem d_Rm_symbolOf_23 : decode b_Rm_symbolOf 23 = .ok (.iinc 1 1, 3) := by decide +kernel
theorem d_Rm_symbolOf_26 : decode b_Rm_symbolOf 26 = .ok (.goto (-24), 3) := by decide +kernel
theorem d_Rm_symbolOf_29 : decode b_Rm_symbolOf 29 = .ok (.iconst (-1), 1) := by decide +kernel
theorem d_Rm_symbolOf_30 : decode b_Rm_symbolOf 30 = .ok (.ireturn, 1) := by decide +kernel
theorem d_Rm_isMark_0 : decode b_Rm_isMark 0 = .ok (.iload_n 0, 1) := by decide +kernel
theorem d_Rm_isMark_1 : decode b_Rm_isMark 1 = .ok (.iconst 1, 1) := by decide +kernel
theorem d_Rm_isMark_2 : decode b_Rm_isMark 2 = .ok (.if_icmp .gt 7, 3) := by decide +kernel
theorem d_Rm_isMark_5 : decode b_Rm_isMark 5 = .ok (.iconst 1, 1) := by decide +kernel
theorem d_Rm_isMark_6 : decode b_Rm_isMark 6 = .ok (.goto 4, 3) := by decide +kernel
theorem d_Rm_isMark_9 : decode b_Rm_isMark 9 = .ok (.iconst 0, 1) := by decide +kernel
theorem d_Rm_isMark_10 : decode b_Rm_isMark 10 = .ok (.ireturn, 1) := by decide +kernel
theorem d_Rm_differ_0 : decode b_Rm_differ 0 = .ok (.iload_n 0, 1) := by decide +kernel
theorem d_Rm_differ_1 : decode b_Rm_differ 1 = .ok (.iload_n 1, 1) := by decide +kernel
theorem d_Rm_differ_2 : decode b_Rm_differ 2 = .ok (.if_icmp .ne 8, 3) := by decide +kernel
theorem d_Rm_differ_5 : decode b_Rm_differ 5 = .ok (.iload_n 0, 1) := by decide +kernel
theorem d_Rm_differ_6 : decode b_Rm_differ 6 = .ok (.iconst 5, 1) := by decide +kernel
theorem d_Rm_differ_7 : decode b_Rm_differ 7 = .ok (.if_icmp .ne 7, 3) := by decide +kernel
theorem d_Rm_differ_10 : decode b_Rm_differ 10 = .ok (.iconst 1, 1) := by decide +kernel
theorem d_Rm_differ_11 : decode b_Rm_differ 11 = .ok (.goto 4, 3) := by decide +kernel
theorem d_Rm_differ_14 : decode b_Rm_differ 14 = .ok (.iconst 0, 1) := by decide +kernel
theorem d_Rm_differ_15 : decode b_Rm_differ 15 = .ok (.ireturn, 1) := by decide +kernel
theorem d_Rm_readName_0 : decode b_Rm_readName 0 = .ok (.aload_n 3, 1) := by decide +kernel
theorem d_Rm_readName_1 : decode b_Rm_readName 1 = .ok (.invokevirtual 100, 3) := by decide +kernel
theorem d_Rm_readName_4 : decode b_Rm_readName 4 = .ok (.iload_n 2, 1) := by decide +kernel
theorem d_Rm_readName_5 : decode b_Rm_readName 5 = .ok (.iload_n 1, 1) := by decide +kernel
theorem d_Rm_readName_6 : decode b_Rm_readName 6 = .ok (.if_icmp .le 11, 3) := by decide +kernel
theorem d_Rm_readName_9 : decode b_Rm_readName 9 = .ok (.iload_n 2, 1) := by decide +kernel
theorem d_Rm_readName_10 : decode b_Rm_readName 10 = .ok (.iload_n 1, 1) := by decide +kernel
theorem d_Rm_readName_11 : decode b_Rm_readName 11 = .ok (.isub, 1) := by decide +kernel
theorem d_Rm_readName_12 : decode b_Rm_readName 12 = .ok (.bipush 8, 2) := by decide +kernel
theorem d_Rm_readName_14 : decode b_Rm_readName 14 = .ok (.if_icmp .le 5, 3) := by decide +kernel
theorem d_Rm_readName_17 : decode b_Rm_readName 17 = .ok (.iconst 0, 1) := by decide +kernel
theorem d_Rm_readName_18 : decode b_Rm_readName 18 = .ok (.ireturn, 1) := by decide +kernel
theorem d_Rm_readName_19 : decode b_Rm_readName 19 = .ok (.iload_n 1, 1) := by decide +kernel
theorem d_Rm_readName_20 : decode b_Rm_readName 20 = .ok (.istore 4, 2) := by decide +kernel
theorem d_Rm_readName_22 : decode b_Rm_readName 22 = .ok (.iload 4, 2) := by decide +kernel
theorem d_Rm_readName_24 : decode b_Rm_readName 24 = .ok (.iload_n 2, 1) := by decide +kernel
theorem d_Rm_readName_25 : decode b_Rm_readName 25 = .ok (.if_icmp .ge 33, 3) := by decide +kernel
theorem d_Rm_readName_28 : decode b_Rm_readName 28 = .ok (.aload_n 0, 1) := by decide +kernel
theorem d_Rm_readName_29 : decode b_Rm_readName 29 = .ok (.iload 4, 2) := by decide +kernel
theorem d_Rm_readName_31 : decode b_Rm_readName 31 = .ok (.invokevirtual 196, 3) := by decide +kernel
theorem d_Rm_readName_34 : decode b_Rm_readName 34 = .ok (.invokestatic 244, 3) := by decide +kernel
theorem d_Rm_readName_37 : decode b_Rm_readName 37 = .ok (.ifCond .ne 5, 3) := by decide +kernel
theorem d_Rm_readName_40 : decode b_Rm_readName 40 = .ok (.iconst 0, 1) := by decide +kernel
theorem d_Rm_readName_41 : decode b_Rm_readName 41 = .ok (.ireturn, 1) := by decide +kernel
theorem d_Rm_readName_42 : decode b_Rm_readName 42 = .ok (.aload_n 3, 1) := by decide +kernel
theorem d_Rm_readName_43 : decode b_Rm_readName 43 = .ok (.aload_n 0, 1) := by decide +kernel
theorem d_Rm_readName_44 : decode b_Rm_readName 44 = .ok (.iload 4, 2) := by decide +kernel
theorem d_Rm_readName_46 : decode b_Rm_readName 46 = .ok (.invokevirtual 196, 3) := by decide +kernel
theorem d_Rm_readName_49 : decode b_Rm_readName 49 = .ok (.invokevirtual 83, 3) := by decide +kernel
theorem d_Rm_readName_52 : decode b_Rm_readName 52 = .ok (.iinc 4 1, 3) := by decide +kernel
theorem d_Rm_readName_55 : decode b_Rm_readName 55 = .ok (.goto (-33), 3) := by decide +kernel
theorem d_Rm_readName_58 : decode b_Rm_readName 58 = .ok (.iconst 1, 1) := by decide +kernel
theorem d_Rm_readName_59 : decode b_Rm_readName 59 = .ok (.ireturn, 1) := by decide +kernel
theorem d_Rm_readBases_0 : decode b_Rm_readBases 0 = .ok (.aload_n 3, 1) := by decide +kernel
theorem d_Rm_readBases_1 : decode b_Rm_readBases 1 = .ok (.invokevirtual 100, 3) := by decide +kernel
theorem d_Rm_readBases_4 : decode b_Rm_readBases 4 = .ok (.iload_n 1, 1) := by decide +kernel
theorem d_Rm_readBases_5 : decode b_Rm_readBases 5 = .ok (.istore 4, 2) := by decide +kernel
theorem d_Rm_readBases_7 : decode b_Rm_readBases 7 = .ok (.iload 4, 2) := by decide +kernel
theorem d_Rm_readBases_9 : decode b_Rm_readBases 9 = .ok (.iload_n 2, 1) := by decide +kernel
theorem d_Rm_readBases_10 : decode b_Rm_readBases 10 = .ok (.if_icmp .ge 41, 3) := by decide +kernel
theorem d_Rm_readBases_13 : decode b_Rm_readBases 13 = .ok (.aload_n 0, 1) := by decide +kernel
theorem d_Rm_readBases_14 : decode b_Rm_readBases 14 = .ok (.iload 4, 2) := by decide +kernel
theorem d_Rm_readBases_16 : decode b_Rm_readBases 16 = .ok (.invokevirtual 196, 3) := by decide +kernel
theorem d_Rm_readBases_19 : decode b_Rm_readBases 19 = .ok (.invokestatic 247, 3) := by decide +kernel
theorem d_Rm_readBases_22 : decode b_Rm_readBases 22 = .ok (.istore 5, 2) := by decide +kernel
theorem d_Rm_readBases_24 : decode b_Rm_readBases 24 = .ok (.iload 5, 2) := by decide +kernel
theorem d_Rm_readBases_26 : decode b_Rm_readBases 26 = .ok (.iconst (-1), 1) := by decide +kernel
theorem d_Rm_readBases_27 : decode b_Rm_readBases 27 = .ok (.if_icmp .eq 10, 3) := by decide +kernel
theorem d_Rm_readBases_30 : decode b_Rm_readBases 30 = .ok (.aload_n 3, 1) := by decide +kernel
theorem d_Rm_readBases_31 : decode b_Rm_readBases 31 = .ok (.invokevirtual 79, 3) := by decide +kernel
theorem d_Rm_readBases_34 : decode b_Rm_readBases 34 = .ok (.ifCond .ne 5, 3) := by decide +kernel
theorem d_Rm_readBases_37 : decode b_Rm_readBases 37 = .ok (.iconst 0, 1) := by decide +kernel
theorem d_Rm_readBases_38 : decode b_Rm_readBases 38 = .ok (.ireturn, 1) := by decide +kernel
theorem d_Rm_readBases_39 : decode b_Rm_readBases 39 = .ok (.aload_n 3, 1) := by decide +kernel
theorem d_Rm_readBases_40 : decode b_Rm_readBases 40 = .ok (.iload 5, 2) := by decide +kernel
theorem d_Rm_readBases_42 : decode b_Rm_readBases 42 = .ok (.invokevirtual 83, 3) := by decide +kernel
theorem d_Rm_readBases_45 : decode b_Rm_readBases 45 = .ok (.iinc 4 1, 3) := by decide +kernel
theorem d_Rm_readBases_48 : decode b_Rm_readBases 48 = .ok (.goto (-41), 3) := by decide +kernel
theorem d_Rm_readBases_51 : decode b_Rm_readBases 51 = .ok (.aload_n 3, 1) := by decide +kernel
theorem d_Rm_readBases_52 : decode b_Rm_readBases 52 = .ok (.invokevirtual 94, 3) := by decide +kernel
theorem d_Rm_readBases_55 : decode b_Rm_readBases 55 = .ok (.ifCond .le 7, 3) := by decide +kernel
theorem d_Rm_readBases_58 : decode b_Rm_readBases 58 = .ok (.iconst 1, 1) := by decide +kernel
theorem d_Rm_readBases_59 : decode b_Rm_readBases 59 = .ok (.goto 4, 3) := by decide +kernel
theorem d_Rm_readBases_62 : decode b_Rm_readBases 62 = .ok (.iconst 0, 1) := by decide +kernel
theorem d_Rm_readBases_63 : decode b_Rm_readBases 63 = .ok (.ireturn, 1) := by decide +kernel
set_option maxHeartbeats 4000000 in
set_option maxRecDepth 100000 in
theorem c_Rm_byteAt (l : Launch) (D : va_G) (cA : Nat → ClassId) (K : Nat → Nat) (w : Int64) (k : Nat) : ck_I l y_Rm_byteAt (Cond.code y_Rm_byteAt b_Rm_byteAt 3 (some .int) :: w_all) 1 D cA K [.long w, .int (nI k)] [] (fun (r : Int32) (u : Unit) => r = by_c w k) (fun u => []) := by
  refine ck_mkI (by decide) (fun _ _ _ => rfl) (Nat.le_of_ble_eq_true rfl) ?_
  intro p e s m args below meth c Q A H locs ls hx hb hml hown hts hK hE hA hP hD hS hl hret
  have hl : lv_has ls 3 [(0, .long w), (2, .int (nI k))] := hl
  refine lv_lload_n hx hb d_Rm_byteAt_0 rfl (lv_at hl 0 rfl) ?_
  refine lv_iload_n hx hb d_Rm_byteAt_1 rfl (lv_at hl 1 rfl) ?_
  refine lv_lushr hx hb d_Rm_byteAt_2 rfl ?_
  refine lv_l2i hx hb d_Rm_byteAt_3 rfl ?_
  refine lv_sipush (v := 255) hx hb d_Rm_byteAt_4 (by decide) ?_
  refine lv_iand hx hb d_Rm_byteAt_7 ?_
  exact hret ((((w.toUInt64 >>> ((nI k).toInt64.toUInt64 &&& Int64.toUInt64 63)).toInt64).toInt32) &&& 255) () _ _ _ 8 d_Rm_byteAt_8 rfl hP hD hS
theorem k_Rm_byteAt : cf_S y_Rm_byteAt b_Rm_byteAt 3 (some .int) 2 := ⟨⟨m_237, m_1, m_238⟩, by decide +kernel⟩
set_option maxHeartbeats 4000000 in
set_option maxRecDepth 100000 in
theorem c_Rm_isNameCode (l : Launch) (D : va_G) (cA : Nat → ClassId) (K : Nat → Nat) (x : Int32) : ck_I l y_Rm_isNameCode (Cond.code y_Rm_isNameCode b_Rm_isNameCode 1 (some .boolean) :: w_all) 1 D cA K [.int x] [] (fun (r : Int32) (u : Unit) => (r = 1 ∧ nm_c x) ∨ (r = 0 ∧ ¬ nm_c x)) (fun u => []) := by
  refine ck_mkI (by decide) (fun r u h => by rcases h with ⟨rfl, _⟩ | ⟨rfl, _⟩ <;> rfl) (Nat.le_of_ble_eq_true rfl) ?_
  intro p e s m args below meth c Q A H locs ls hx hb hml hown hts hK hE hA hP hD hS hl hret
  have hl : lv_has ls 1 [(0, .int x)] := hl
  refine lv_iload_n hx hb d_Rm_isNameCode_0 rfl (lv_at hl 0 rfl) ?_
  refine lv_bipush (v := 97) hx hb d_Rm_isNameCode_1 (by decide) ?_
  refine lv_icmp_lt (tgt := 12) hx hb d_Rm_isNameCode_3 (by decide) ?_ ?_
  · intro h3
    refine lv_iload_n hx hb d_Rm_isNameCode_12 rfl (lv_at hl 0 rfl) ?_
    refine lv_bipush (v := 65) hx hb d_Rm_isNameCode_13 (by decide) ?_
    refine lv_icmp_lt (tgt := 24) hx hb d_Rm_isNameCode_15 (by decide) ?_ ?_
    · intro h15
      refine lv_iload_n hx hb d_Rm_isNameCode_24 rfl (lv_at hl 0 rfl) ?_
      refine lv_bipush (v := 48) hx hb d_Rm_isNameCode_25 (by decide) ?_
      refine lv_icmp_lt (tgt := 36) hx hb d_Rm_isNameCode_27 (by decide) ?_ ?_
      · intro h27
        refine lv_iload_n hx hb d_Rm_isNameCode_36 rfl (lv_at hl 0 rfl) ?_
        refine lv_bipush (v := 95) hx hb d_Rm_isNameCode_37 (by decide) ?_
        refine lv_icmp_ne (tgt := 46) hx hb d_Rm_isNameCode_39 (by decide) ?_ ?_
        · intro h39
          refine lv_iconst (v := 0) hx hb d_Rm_isNameCode_46 (by decide) ?_
          exact hret 0 () _ _ _ 47 d_Rm_isNameCode_47 (by first | exact Or.inl ⟨rfl, Or.inl ⟨h3, h9⟩⟩ | exact Or.inl ⟨rfl, Or.inr (Or.inl ⟨h15, h21⟩)⟩ | exact Or.inl ⟨rfl, Or.inr (Or.inr (Or.inl ⟨h27, h33⟩))⟩ | exact Or.inl ⟨rfl, Or.inr (Or.inr (Or.inr h39))⟩ | exact Or.inr ⟨rfl, fun z => by rcases z with ⟨a, b⟩ | ⟨a, b⟩ | ⟨a, b⟩ | a <;> first | exact a h3 | exact h9 b | exact a h15 | exact h21 b | exact a h27 | exact h33 b | exact h39 a⟩) hP hD hS
        · intro h39
          refine lv_iconst (v := 1) hx hb d_Rm_isNameCode_42 (by decide) ?_
          refine lv_goto (tgt := 47) hx hb d_Rm_isNameCode_43 (by decide) ?_
          exact hret 1 () _ _ _ 47 d_Rm_isNameCode_47 (by first | exact Or.inl ⟨rfl, Or.inl ⟨h3, h9⟩⟩ | exact Or.inl ⟨rfl, Or.inr (Or.inl ⟨h15, h21⟩)⟩ | exact Or.inl ⟨rfl, Or.inr (Or.inr (Or.inl ⟨h27, h33⟩))⟩ | exact Or.inl ⟨rfl, Or.inr (Or.inr (Or.inr h39))⟩ | exact Or.inr ⟨rfl, fun z => by rcases z with ⟨a, b⟩ | ⟨a, b⟩ | ⟨a, b⟩ | a <;> first | exact a h3 | exact h9 b | exact a h15 | exact h21 b | exact a h27 | exact h33 b | exact h39 a⟩) hP hD hS
      · intro h27
        refine lv_iload_n hx hb d_Rm_isNameCode_30 rfl (lv_at hl 0 rfl) ?_
        refine lv_bipush (v := 57) hx hb d_Rm_isNameCode_31 (by decide) ?_
        refine lv_icmp_le (tgt := 42) hx hb d_Rm_isNameCode_33 (by decide) ?_ ?_
        · intro h33
          refine lv_iconst (v := 1) hx hb d_Rm_isNameCode_42 (by decide) ?_
          refine lv_goto (tgt := 47) hx hb d_Rm_isNameCode_43 (by decide) ?_
          exact hret 1 () _ _ _ 47 d_Rm_isNameCode_47 (by first | exact Or.inl ⟨rfl, Or.inl ⟨h3, h9⟩⟩ | exact Or.inl ⟨rfl, Or.inr (Or.inl ⟨h15, h21⟩)⟩ | exact Or.inl ⟨rfl, Or.inr (Or.inr (Or.inl ⟨h27, h33⟩))⟩ | exact Or.inl ⟨rfl, Or.inr (Or.inr (Or.inr h39))⟩ | exact Or.inr ⟨rfl, fun z => by rcases z with ⟨a, b⟩ | ⟨a, b⟩ | ⟨a, b⟩ | a <;> first | exact a h3 | exact h9 b | exact a h15 | exact h21 b | exact a h27 | exact h33 b | exact h39 a⟩) hP hD hS
        · intro h33
          refine lv_iload_n hx hb d_Rm_isNameCode_36 rfl (lv_at hl 0 rfl) ?_
          refine lv_bipush (v := 95) hx hb d_Rm_isNameCode_37 (by decide) ?_
          refine lv_icmp_ne (tgt := 46) hx hb d_Rm_isNameCode_39 (by decide) ?_ ?_
          · intro h39
            refine lv_iconst (v := 0) hx hb d_Rm_isNameCode_46 (by decide) ?_
            exact hret 0 () _ _ _ 47 d_Rm_isNameCode_47 (by first | exact Or.inl ⟨rfl, Or.inl ⟨h3, h9⟩⟩ | exact Or.inl ⟨rfl, Or.inr (Or.inl ⟨h15, h21⟩)⟩ | exact Or.inl ⟨rfl, Or.inr (Or.inr (Or.inl ⟨h27, h33⟩))⟩ | exact Or.inl ⟨rfl, Or.inr (Or.inr (Or.inr h39))⟩ | exact Or.inr ⟨rfl, fun z => by rcases z with ⟨a, b⟩ | ⟨a, b⟩ | ⟨a, b⟩ | a <;> first | exact a h3 | exact h9 b | exact a h15 | exact h21 b | exact a h27 | exact h33 b | exact h39 a⟩) hP hD hS
          · intro h39
            refine lv_iconst (v := 1) hx hb d_Rm_isNameCode_42 (by decide) ?_
            refine lv_goto (tgt := 47) hx hb d_Rm_isNameCode_43 (by decide) ?_
            exact hret 1 () _ _ _ 47 d_Rm_isNameCode_47 (by first | exact Or.inl ⟨rfl, Or.inl ⟨h3, h9⟩⟩ | exact Or.inl ⟨rfl, Or.inr (Or.inl ⟨h15, h21⟩)⟩ | exact Or.inl ⟨rfl, Or.inr (Or.inr (Or.inl ⟨h27, h33⟩))⟩ | exact Or.inl ⟨rfl, Or.inr (Or.inr (Or.inr h39))⟩ | exact Or.inr ⟨rfl, fun z => by rcases z with ⟨a, b⟩ | ⟨a, b⟩ | ⟨a, b⟩ | a <;> first | exact a h3 | exact h9 b | exact a h15 | exact h21 b | exact a h27 | exact h33 b | exact h39 a⟩) hP hD hS
    · intro h15
      refine lv_iload_n hx hb d_Rm_isNameCode_18 rfl (lv_at hl 0 rfl) ?_
      refine lv_bipush (v := 90) hx hb d_Rm_isNameCode_19 (by decide) ?_
      refine lv_icmp_le (tgt := 42) hx hb d_Rm_isNameCode_21 (by decide) ?_ ?_
      · intro h21
        refine lv_iconst (v := 1) hx hb d_Rm_isNameCode_42 (by decide) ?_
        refine lv_goto (tgt := 47) hx hb d_Rm_isNameCode_43 (by decide) ?_
        exact hret 1 () _ _ _ 47 d_Rm_isNameCode_47 (by first | exact Or.inl ⟨rfl, Or.inl ⟨h3, h9⟩⟩ | exact Or.inl ⟨rfl, Or.inr (Or.inl ⟨h15, h21⟩)⟩ | exact Or.inl ⟨rfl, Or.inr (Or.inr (Or.inl ⟨h27, h33⟩))⟩ | exact Or.inl ⟨rfl, Or.inr (Or.inr (Or.inr h39))⟩ | exact Or.inr ⟨rfl, fun z => by rcases z with ⟨a, b⟩ | ⟨a, b⟩ | ⟨a, b⟩ | a <;> first | exact a h3 | exact h9 b | exact a h15 | exact h21 b | exact a h27 | exact h33 b | exact h39 a⟩) hP hD hS
      · intro h21
        refine lv_iload_n hx hb d_Rm_isNameCode_24 rfl (lv_at hl 0 rfl) ?_
        refine lv_bipush (v := 48) hx hb d_Rm_isNameCode_25 (by decide) ?_
        refine lv_icmp_lt (tgt := 36) hx hb d_Rm_isNameCode_27 (by decide) ?_ ?_
        · intro h27
          refine lv_iload_n hx hb d_Rm_isNameCode_36 rfl (lv_at hl 0 rfl) ?_
          refine lv_bipush (v := 95) hx hb d_Rm_isNameCode_37 (by decide) ?_
          refine lv_icmp_ne (tgt := 46) hx hb d_Rm_isNameCode_39 (by decide) ?_ ?_
          · intro h39
            refine lv_iconst (v := 0) hx hb d_Rm_isNameCode_46 (by decide) ?_
            exact hret 0 () _ _ _ 47 d_Rm_isNameCode_47 (by first | exact Or.inl ⟨rfl, Or.inl ⟨h3, h9⟩⟩ | exact Or.inl ⟨rfl, Or.inr (Or.inl ⟨h15, h21⟩)⟩ | exact Or.inl ⟨rfl, Or.inr (Or.inr (Or.inl ⟨h27, h33⟩))⟩ | exact Or.inl ⟨rfl, Or.inr (Or.inr (Or.inr h39))⟩ | exact Or.inr ⟨rfl, fun z => by rcases z with ⟨a, b⟩ | ⟨a, b⟩ | ⟨a, b⟩ | a <;> first | exact a h3 | exact h9 b | exact a h15 | exact h21 b | exact a h27 | exact h33 b | exact h39 a⟩) hP hD hS
          · intro h39
            refine lv_iconst (v := 1) hx hb d_Rm_isNameCode_42 (by decide) ?_
            refine lv_goto (tgt := 47) hx hb d_Rm_isNameCode_43 (by decide) ?_
            exact hret 1 () _ _ _ 47 d_Rm_isNameCode_47 (by first | exact Or.inl ⟨rfl, Or.inl ⟨h3, h9⟩⟩ | exact Or.inl ⟨rfl, Or.inr (Or.inl ⟨h15, h21⟩)⟩ | exact Or.inl ⟨rfl, Or.inr (Or.inr (Or.inl ⟨h27, h33⟩))⟩ | exact Or.inl ⟨rfl, Or.inr (Or.inr (Or.inr h39))⟩ | exact Or.inr ⟨rfl, fun z => by rcases z with ⟨a, b⟩ | ⟨a, b⟩ | ⟨a, b⟩ | a <;> first | exact a h3 | exact h9 b | exact a h15 | exact h21 b | exact a h27 | exact h33 b | exact h39 a⟩) hP hD hS
        · intro h27
          refine lv_iload_n hx hb d_Rm_isNameCode_30 rfl (lv_at hl 0 rfl) ?_
          refine lv_bipush (v := 57) hx hb d_Rm_isNameCode_31 (by decide) ?_
          refine lv_icmp_le (tgt := 42) hx hb d_Rm_isNameCode_33 (by decide) ?_ ?_
          · intro h33
            refine lv_iconst (v := 1) hx hb d_Rm_isNameCode_42 (by decide) ?_
            refine lv_goto (tgt := 47) hx hb d_Rm_isNameCode_43 (by decide) ?_
            exact hret 1 () _ _ _ 47 d_Rm_isNameCode_47 (by first | exact Or.inl ⟨rfl, Or.inl ⟨h3, h9⟩⟩ | exact Or.inl ⟨rfl, Or.inr (Or.inl ⟨h15, h21⟩)⟩ | exact Or.inl ⟨rfl, Or.inr (Or.inr (Or.inl ⟨h27, h33⟩))⟩ | exact Or.inl ⟨rfl, Or.inr (Or.inr (Or.inr h39))⟩ | exact Or.inr ⟨rfl, fun z => by rcases z with ⟨a, b⟩ | ⟨a, b⟩ | ⟨a, b⟩ | a <;> first | exact a h3 | exact h9 b | exact a h15 | exact h21 b | exact a h27 | exact h33 b | exact h39 a⟩) hP hD hS
          · intro h33
            refine lv_iload_n hx hb d_Rm_isNameCode_36 rfl (lv_at hl 0 rfl) ?_
            refine lv_bipush (v := 95) hx hb d_Rm_isNameCode_37 (by decide) ?_
            refine lv_icmp_ne (tgt := 46) hx hb d_Rm_isNameCode_39 (by decide) ?_ ?_
            · intro h39
              refine lv_iconst (v := 0) hx hb d_Rm_isNameCode_46 (by decide) ?_
              exact hret 0 () _ _ _ 47 d_Rm_isNameCode_47 (by first | exact Or.inl ⟨rfl, Or.inl ⟨h3, h9⟩⟩ | exact Or.inl ⟨rfl, Or.inr (Or.inl ⟨h15, h21⟩)⟩ | exact Or.inl ⟨rfl, Or.inr (Or.inr (Or.inl ⟨h27, h33⟩))⟩ | exact Or.inl ⟨rfl, Or.inr (Or.inr (Or.inr h39))⟩ | exact Or.inr ⟨rfl, fun z => by rcases z with ⟨a, b⟩ | ⟨a, b⟩ | ⟨a, b⟩ | a <;> first | exact a h3 | exact h9 b | exact a h15 | exact h21 b | exact a h27 | exact h33 b | exact h39 a⟩) hP hD hS
            · intro h39
              refine lv_iconst (v := 1) hx hb d_Rm_isNameCode_42 (by decide) ?_
              refine lv_goto (tgt := 47) hx hb d_Rm_isNameCode_43 (by decide) ?_
              exact hret 1 () _ _ _ 47 d_Rm_isNameCode_47 (by first | exact Or.inl ⟨rfl, Or.inl ⟨h3, h9⟩⟩ | exact Or.inl ⟨rfl, Or.inr (Or.inl ⟨h15, h21⟩)⟩ | exact Or.inl ⟨rfl, Or.inr (Or.inr (Or.inl ⟨h27, h33⟩))⟩ | exact Or.inl ⟨rfl, Or.inr (Or.inr (Or.inr h39))⟩ | exact Or.inr ⟨rfl, fun z => by rcases z with ⟨a, b⟩ | ⟨a, b⟩ | ⟨a, b⟩ | a <;> first | exact a h3 | exact h9 b | exact a h15 | exact h21 b | exact a h27 | exact h33 b | exact h39 a⟩) hP hD hS
  · intro h3
    refine lv_iload_n hx hb d_Rm_isNameCode_6 rfl (lv_at hl 0 rfl) ?_
    refine lv_bipush (v := 122) hx hb d_Rm_isNameCode_7 (by decide) ?_
    refine lv_icmp_le (tgt := 42) hx hb d_Rm_isNameCode_9 (by decide) ?_ ?_
    · intro h9
      refine lv_iconst (v := 1) hx hb d_Rm_isNameCode_42 (by decide) ?_
      refine lv_goto (tgt := 47) hx hb d_Rm_isNameCode_43 (by decide) ?_
      exact hret 1 () _ _ _ 47 d_Rm_isNameCode_47 (by first | exact Or.inl ⟨rfl, Or.inl ⟨h3, h9⟩⟩ | exact Or.inl ⟨rfl, Or.inr (Or.inl ⟨h15, h21⟩)⟩ | exact Or.inl ⟨rfl, Or.inr (Or.inr (Or.inl ⟨h27, h33⟩))⟩ | exact Or.inl ⟨rfl, Or.inr (Or.inr (Or.inr h39))⟩ | exact Or.inr ⟨rfl, fun z => by rcases z with ⟨a, b⟩ | ⟨a, b⟩ | ⟨a, b⟩ | a <;> first | exact a h3 | exact h9 b | exact a h15 | exact h21 b | exact a h27 | exact h33 b | exact h39 a⟩) hP hD hS
    · intro h9
      refine lv_iload_n hx hb d_Rm_isNameCode_12 rfl (lv_at hl 0 rfl) ?_
      refine lv_bipush (v := 65) hx hb d_Rm_isNameCode_13 (by decide) ?_
      refine lv_icmp_lt (tgt := 24) hx hb d_Rm_isNameCode_15 (by decide) ?_ ?_
      · intro h15
        refine lv_iload_n hx hb d_Rm_isNameCode_24 rfl (lv_at hl 0 rfl) ?_
        refine lv_bipush (v := 48) hx hb d_Rm_isNameCode_25 (by decide) ?_
        refine lv_icmp_lt (tgt := 36) hx hb d_Rm_isNameCode_27 (by decide) ?_ ?_
        · intro h27
          refine lv_iload_n hx hb d_Rm_isNameCode_36 rfl (lv_at hl 0 rfl) ?_
          refine lv_bipush (v := 95) hx hb d_Rm_isNameCode_37 (by decide) ?_
          refine lv_icmp_ne (tgt := 46) hx hb d_Rm_isNameCode_39 (by decide) ?_ ?_
          · intro h39
            refine lv_iconst (v := 0) hx hb d_Rm_isNameCode_46 (by decide) ?_
            exact hret 0 () _ _ _ 47 d_Rm_isNameCode_47 (by first | exact Or.inl ⟨rfl, Or.inl ⟨h3, h9⟩⟩ | exact Or.inl ⟨rfl, Or.inr (Or.inl ⟨h15, h21⟩)⟩ | exact Or.inl ⟨rfl, Or.inr (Or.inr (Or.inl ⟨h27, h33⟩))⟩ | exact Or.inl ⟨rfl, Or.inr (Or.inr (Or.inr h39))⟩ | exact Or.inr ⟨rfl, fun z => by rcases z with ⟨a, b⟩ | ⟨a, b⟩ | ⟨a, b⟩ | a <;> first | exact a h3 | exact h9 b | exact a h15 | exact h21 b | exact a h27 | exact h33 b | exact h39 a⟩) hP hD hS
          · intro h39
            refine lv_iconst (v := 1) hx hb d_Rm_isNameCode_42 (by decide) ?_
            refine lv_goto (tgt := 47) hx hb d_Rm_isNameCode_43 (by decide) ?_
            exact hret 1 () _ _ _ 47 d_Rm_isNameCode_47 (by first | exact Or.inl ⟨rfl, Or.inl ⟨h3, h9⟩⟩ | exact Or.inl ⟨rfl, Or.inr (Or.inl ⟨h15, h21⟩)⟩ | exact Or.inl ⟨rfl, Or.inr (Or.inr (Or.inl ⟨h27, h33⟩))⟩ | exact Or.inl ⟨rfl, Or.inr (Or.inr (Or.inr h39))⟩ | exact Or.inr ⟨rfl, fun z => by rcases z with ⟨a, b⟩ | ⟨a, b⟩ | ⟨a, b⟩ | a <;> first | exact a h3 | exact h9 b | exact a h15 | exact h21 b | exact a h27 | exact h33 b | exact h39 a⟩) hP hD hS
        · intro h27
          refine lv_iload_n hx hb d_Rm_isNameCode_30 rfl (lv_at hl 0 rfl) ?_
          refine lv_bipush (v := 57) hx hb d_Rm_isNameCode_31 (by decide) ?_
          refine lv_icmp_le (tgt := 42) hx hb d_Rm_isNameCode_33 (by decide) ?_ ?_
          · intro h33
            refine lv_iconst (v := 1) hx hb d_Rm_isNameCode_42 (by decide) ?_
            refine lv_goto (tgt := 47) hx hb d_Rm_isNameCode_43 (by decide) ?_
            exact hret 1 () _ _ _ 47 d_Rm_isNameCode_47 (by first | exact Or.inl ⟨rfl, Or.inl ⟨h3, h9⟩⟩ | exact Or.inl ⟨rfl, Or.inr (Or.inl ⟨h15, h21⟩)⟩ | exact Or.inl ⟨rfl, Or.inr (Or.inr (Or.inl ⟨h27, h33⟩))⟩ | exact Or.inl ⟨rfl, Or.inr (Or.inr (Or.inr h39))⟩ | exact Or.inr ⟨rfl, fun z => by rcases z with ⟨a, b⟩ | ⟨a, b⟩ | ⟨a, b⟩ | a <;> first | exact a h3 | exact h9 b | exact a h15 | exact h21 b | exact a h27 | exact h33 b | exact h39 a⟩) hP hD hS
          · intro h33
            refine lv_iload_n hx hb d_Rm_isNameCode_36 rfl (lv_at hl 0 rfl) ?_
            refine lv_bipush (v := 95) hx hb d_Rm_isNameCode_37 (by decide) ?_
            refine lv_icmp_ne (tgt := 46) hx hb d_Rm_isNameCode_39 (by decide) ?_ ?_
            · intro h39
              refine lv_iconst (v := 0) hx hb d_Rm_isNameCode_46 (by decide) ?_
              exact hret 0 () _ _ _ 47 d_Rm_isNameCode_47 (by first | exact Or.inl ⟨rfl, Or.inl ⟨h3, h9⟩⟩ | exact Or.inl ⟨rfl, Or.inr (Or.inl ⟨h15, h21⟩)⟩ | exact Or.inl ⟨rfl, Or.inr (Or.inr (Or.inl ⟨h27, h33⟩))⟩ | exact Or.inl ⟨rfl, Or.inr (Or.inr (Or.inr h39))⟩ | exact Or.inr ⟨rfl, fun z => by rcases z with ⟨a, b⟩ | ⟨a, b⟩ | ⟨a, b⟩ | a <;> first | exact a h3 | exact h9 b | exact a h15 | exact h21 b | exact a h27 | exact h33 b | exact h39 a⟩) hP hD hS
            · intro h39
              refine lv_iconst (v := 1) hx hb d_Rm_isNameCode_42 (by decide) ?_
              refine lv_goto (tgt := 47) hx hb d_Rm_isNameCode_43 (by decide) ?_
              exact hret 1 () _ _ _ 47 d_Rm_isNameCode_47 (by first | exact Or.inl ⟨rfl, Or.inl ⟨h3, h9⟩⟩ | exact Or.inl ⟨rfl, Or.inr (Or.inl ⟨h15, h21⟩)⟩ | exact Or.inl ⟨rfl, Or.inr (Or.inr (Or.inl ⟨h27, h33⟩))⟩ | exact Or.inl ⟨rfl, Or.inr (Or.inr (Or.inr h39))⟩ | exact Or.inr ⟨rfl, fun z => by rcases z with ⟨a, b⟩ | ⟨a, b⟩ | ⟨a, b⟩ | a <;> first | exact a h3 | exact h9 b | exact a h15 | exact h21 b | exact a h27 | exact h33 b | exact h39 a⟩) hP hD hS
      · intro h15
        refine lv_iload_n hx hb d_Rm_isNameCode_18 rfl (lv_at hl 0 rfl) ?_
        refine lv_bipush (v := 90) hx hb d_Rm_isNameCode_19 (by decide) ?_
        refine lv_icmp_le (tgt := 42) hx hb d_Rm_isNameCode_21 (by decide) ?_ ?_
        · intro h21
          refine lv_iconst (v := 1) hx hb d_Rm_isNameCode_42 (by decide) ?_
          refine lv_goto (tgt := 47) hx hb d_Rm_isNameCode_43 (by decide) ?_
          exact hret 1 () _ _ _ 47 d_Rm_isNameCode_47 (by first | exact Or.inl ⟨rfl, Or.inl ⟨h3, h9⟩⟩ | exact Or.inl ⟨rfl, Or.inr (Or.inl ⟨h15, h21⟩)⟩ | exact Or.inl ⟨rfl, Or.inr (Or.inr (Or.inl ⟨h27, h33⟩))⟩ | exact Or.inl ⟨rfl, Or.inr (Or.inr (Or.inr h39))⟩ | exact Or.inr ⟨rfl, fun z => by rcases z with ⟨a, b⟩ | ⟨a, b⟩ | ⟨a, b⟩ | a <;> first | exact a h3 | exact h9 b | exact a h15 | exact h21 b | exact a h27 | exact h33 b | exact h39 a⟩) hP hD hS
        · intro h21
          refine lv_iload_n hx hb d_Rm_isNameCode_24 rfl (lv_at hl 0 rfl) ?_
          refine lv_bipush (v := 48) hx hb d_Rm_isNameCode_25 (by decide) ?_
          refine lv_icmp_lt (tgt := 36) hx hb d_Rm_isNameCode_27 (by decide) ?_ ?_
          · intro h27
            refine lv_iload_n hx hb d_Rm_isNameCode_36 rfl (lv_at hl 0 rfl) ?_
            refine lv_bipush (v := 95) hx hb d_Rm_isNameCode_37 (by decide) ?_
            refine lv_icmp_ne (tgt := 46) hx hb d_Rm_isNameCode_39 (by decide) ?_ ?_
            · intro h39
              refine lv_iconst (v := 0) hx hb d_Rm_isNameCode_46 (by decide) ?_
              exact hret 0 () _ _ _ 47 d_Rm_isNameCode_47 (by first | exact Or.inl ⟨rfl, Or.inl ⟨h3, h9⟩⟩ | exact Or.inl ⟨rfl, Or.inr (Or.inl ⟨h15, h21⟩)⟩ | exact Or.inl ⟨rfl, Or.inr (Or.inr (Or.inl ⟨h27, h33⟩))⟩ | exact Or.inl ⟨rfl, Or.inr (Or.inr (Or.inr h39))⟩ | exact Or.inr ⟨rfl, fun z => by rcases z with ⟨a, b⟩ | ⟨a, b⟩ | ⟨a, b⟩ | a <;> first | exact a h3 | exact h9 b | exact a h15 | exact h21 b | exact a h27 | exact h33 b | exact h39 a⟩) hP hD hS
            · intro h39
              refine lv_iconst (v := 1) hx hb d_Rm_isNameCode_42 (by decide) ?_
              refine lv_goto (tgt := 47) hx hb d_Rm_isNameCode_43 (by decide) ?_
              exact hret 1 () _ _ _ 47 d_Rm_isNameCode_47 (by first | exact Or.inl ⟨rfl, Or.inl ⟨h3, h9⟩⟩ | exact Or.inl ⟨rfl, Or.inr (Or.inl ⟨h15, h21⟩)⟩ | exact Or.inl ⟨rfl, Or.inr (Or.inr (Or.inl ⟨h27, h33⟩))⟩ | exact Or.inl ⟨rfl, Or.inr (Or.inr (Or.inr h39))⟩ | exact Or.inr ⟨rfl, fun z => by rcases z with ⟨a, b⟩ | ⟨a, b⟩ | ⟨a, b⟩ | a <;> first | exact a h3 | exact h9 b | exact a h15 | exact h21 b | exact a h27 | exact h33 b | exact h39 a⟩) hP hD hS
          · intro h27
            refine lv_iload_n hx hb d_Rm_isNameCode_30 rfl (lv_at hl 0 rfl) ?_
            refine lv_bipush (v := 57) hx hb d_Rm_isNameCode_31 (by decide) ?_
            refine lv_icmp_le (tgt := 42) hx hb d_Rm_isNameCode_33 (by decide) ?_ ?_
            · intro h33
              refine lv_iconst (v := 1) hx hb d_Rm_isNameCode_42 (by decide) ?_
              refine lv_goto (tgt := 47) hx hb d_Rm_isNameCode_43 (by decide) ?_
              exact hret 1 () _ _ _ 47 d_Rm_isNameCode_47 (by first | exact Or.inl ⟨rfl, Or.inl ⟨h3, h9⟩⟩ | exact Or.inl ⟨rfl, Or.inr (Or.inl ⟨h15, h21⟩)⟩ | exact Or.inl ⟨rfl, Or.inr (Or.inr (Or.inl ⟨h27, h33⟩))⟩ | exact Or.inl ⟨rfl, Or.inr (Or.inr (Or.inr h39))⟩ | exact Or.inr ⟨rfl, fun z => by rcases z with ⟨a, b⟩ | ⟨a, b⟩ | ⟨a, b⟩ | a <;> first | exact a h3 | exact h9 b | exact a h15 | exact h21 b | exact a h27 | exact h33 b | exact h39 a⟩) hP hD hS
            · intro h33
              refine lv_iload_n hx hb d_Rm_isNameCode_36 rfl (lv_at hl 0 rfl) ?_
              refine lv_bipush (v := 95) hx hb d_Rm_isNameCode_37 (by decide) ?_
              refine lv_icmp_ne (tgt := 46) hx hb d_Rm_isNameCode_39 (by decide) ?_ ?_
              · intro h39
                refine lv_iconst (v := 0) hx hb d_Rm_isNameCode_46 (by decide) ?_
                exact hret 0 () _ _ _ 47 d_Rm_isNameCode_47 (by first | exact Or.inl ⟨rfl, Or.inl ⟨h3, h9⟩⟩ | exact Or.inl ⟨rfl, Or.inr (Or.inl ⟨h15, h21⟩)⟩ | exact Or.inl ⟨rfl, Or.inr (Or.inr (Or.inl ⟨h27, h33⟩))⟩ | exact Or.inl ⟨rfl, Or.inr (Or.inr (Or.inr h39))⟩ | exact Or.inr ⟨rfl, fun z => by rcases z with ⟨a, b⟩ | ⟨a, b⟩ | ⟨a, b⟩ | a <;> first | exact a h3 | exact h9 b | exact a h15 | exact h21 b | exact a h27 | exact h33 b | exact h39 a⟩) hP hD hS
              · intro h39
                refine lv_iconst (v := 1) hx hb d_Rm_isNameCode_42 (by decide) ?_
                refine lv_goto (tgt := 47) hx hb d_Rm_isNameCode_43 (by decide) ?_
                exact hret 1 () _ _ _ 47 d_Rm_isNameCode_47 (by first | exact Or.inl ⟨rfl, Or.inl ⟨h3, h9⟩⟩ | exact Or.inl ⟨rfl, Or.inr (Or.inl ⟨h15, h21⟩)⟩ | exact Or.inl ⟨rfl, Or.inr (Or.inr (Or.inl ⟨h27, h33⟩))⟩ | exact Or.inl ⟨rfl, Or.inr (Or.inr (Or.inr h39))⟩ | exact Or.inr ⟨rfl, fun z => by rcases z with ⟨a, b⟩ | ⟨a, b⟩ | ⟨a, b⟩ | a <;> first | exact a h3 | exact h9 b | exact a h15 | exact h21 b | exact a h27 | exact h33 b | exact h39 a⟩) hP hD hS
theorem k_Rm_isNameCode : cf_S y_Rm_isNameCode b_Rm_isNameCode 1 (some .boolean) 1 := ⟨⟨m_483, m_1, m_484⟩, by decide +kernel⟩
set_option maxHeartbeats 4000000 in
set_option maxRecDepth 100000 in
theorem c_Rm_symbolOf (l : Launch) (D : va_G) (cA : Nat → ClassId) (K : Nat → Nat) (x : Int32) : ck_I l y_Rm_symbolOf (Cond.code y_Rm_symbolOf b_Rm_symbolOf 2 (some .int) :: w_all) 5 D cA K [.int x] [] (fun (r : Int32) (u : Unit) => r = sy_c x) (fun u => []) := by
  refine ck_mkI (by decide) (fun _ _ _ => rfl) (Nat.le_of_ble_eq_true rfl) ?_
  intro p e s m args below meth c Q A H locs ls hx hb hml hown hts hK hE hA hP hD hS hl hret
  have hl : lv_has ls 2 [(0, .int x)] := hl
  refine lv_iconst (v := nI 2) hx hb d_Rm_symbolOf_0 (by decide) ?_
  refine lv_istore_n (lv' := [(1, .int (nI 2)), (0, .int x)]) hx hb d_Rm_symbolOf_1 rfl hl (by decide) rfl (fun ls hl => ?_)
  refine lv_iload_n hx hb d_Rm_symbolOf_2 rfl (lv_at hl 0 rfl) ?_
  refine va_ldcS hx hb hown (hE.2.1 ("ReadMapper", 159, "#$ACGNT", 0) (by decide)) d_Rm_symbolOf_3 ?_
  refine ck_cVx (C := "java/lang/String") (rest := [.int (nI 2)]) (wr := []) (ws2 := fun u => []) (c_Str_length l D cA K 0 (by decide)) hx hb hml hown hts hK hE hA hP hD hS k_Str_length m_284 (by decide) (vk_recv (adK := fun i => K (10 + i)) (i := 0) hE.2.2.2.2.2.2.1 (by decide) hS) rfl hl.1 rfl (Nat.le_of_ble_eq_true rfl) d_Rm_symbolOf_5 [] [] [] rfl rfl (by decide) (fun _ => rfl) (fun r5 u5 H locs hq5 hP hD hS => ?_)
  try dsimp only at hq5
  subst hq5
  refine wn_nat (b := 7) rfl ?_
  have hP : va_P D vwCl [] H := hP
  have hD : va_D A [] := hD
  refine lv_icmp_ge (tgt := 29) hx hb d_Rm_symbolOf_8 (by decide) (fun h9 => absurd h9 (by decide)) (fun _ => ?_)
  refine va_ldcS hx hb hown (hE.2.1 ("ReadMapper", 159, "#$ACGNT", 0) (by decide)) d_Rm_symbolOf_11 ?_
  refine lv_iload_n hx hb d_Rm_symbolOf_13 rfl (lv_at hl 0 rfl) ?_
  refine ck_cVx (C := "java/lang/String") (rest := []) (wr := []) (ws2 := fun u => []) (c_Str_charAt l D cA K 0 2 (by decide) (by decide)) hx hb hml hown hts hK hE hA hP hD hS k_Str_charAt m_491 (by decide) (vk_recv (adK := fun i => K (10 + i)) (i := 0) hE.2.2.2.2.2.2.1 (by decide) hS) rfl hl.1 rfl (Nat.le_of_ble_eq_true rfl) d_Rm_symbolOf_14 [] [] [] rfl rfl (by decide) (fun _ => rfl) (fun r14 u14 H locs hq14 hP hD hS => ?_)
  try dsimp only at hq14
  subst hq14
  refine wn_eq (y := 65) rfl ?_
  have hP : va_P D vwCl [] H := hP
  have hD : va_D A [] := hD
  refine lv_iload_n hx hb d_Rm_symbolOf_17 rfl (lv_at hl 1 rfl) ?_
  refine lv_icmp_ne (tgt := 23) hx hb d_Rm_symbolOf_18 (by decide) ?_ ?_
  · intro h18
    refine lv_iinc (k := 0) (v := nI 3) (lv' := [(1, .int (nI 3)), (0, .int x)]) hx hb d_Rm_symbolOf_23 hl rfl (wi_inc1 _) (by decide) rfl (fun ls hl => ?_)
    refine lv_goto (tgt := 2) hx hb d_Rm_symbolOf_26 (by decide) ?_
    refine lv_iload_n hx hb d_Rm_symbolOf_2 rfl (lv_at hl 0 rfl) ?_
    refine va_ldcS hx hb hown (hE.2.1 ("ReadMapper", 159, "#$ACGNT", 0) (by decide)) d_Rm_symbolOf_3 ?_
    refine ck_cVx (C := "java/lang/String") (rest := [.int (nI 3)]) (wr := []) (ws2 := fun u => []) (c_Str_length l D cA K 0 (by decide)) hx hb hml hown hts hK hE hA hP hD hS k_Str_length m_284 (by decide) (vk_recv (adK := fun i => K (10 + i)) (i := 0) hE.2.2.2.2.2.2.1 (by decide) hS) rfl hl.1 rfl (Nat.le_of_ble_eq_true rfl) d_Rm_symbolOf_5 [] [] [] rfl rfl (by decide) (fun _ => rfl) (fun r5 u5 H locs hq5 hP hD hS => ?_)
    try dsimp only at hq5
    subst hq5
    refine wn_nat (b := 7) rfl ?_
    have hP : va_P D vwCl [] H := hP
    have hD : va_D A [] := hD
    refine lv_icmp_ge (tgt := 29) hx hb d_Rm_symbolOf_8 (by decide) (fun h9 => absurd h9 (by decide)) (fun _ => ?_)
    refine va_ldcS hx hb hown (hE.2.1 ("ReadMapper", 159, "#$ACGNT", 0) (by decide)) d_Rm_symbolOf_11 ?_
    refine lv_iload_n hx hb d_Rm_symbolOf_13 rfl (lv_at hl 0 rfl) ?_
    refine ck_cVx (C := "java/lang/String") (rest := []) (wr := []) (ws2 := fun u => []) (c_Str_charAt l D cA K 0 3 (by decide) (by decide)) hx hb hml hown hts hK hE hA hP hD hS k_Str_charAt m_491 (by decide) (vk_recv (adK := fun i => K (10 + i)) (i := 0) hE.2.2.2.2.2.2.1 (by decide) hS) rfl hl.1 rfl (Nat.le_of_ble_eq_true rfl) d_Rm_symbolOf_14 [] [] [] rfl rfl (by decide) (fun _ => rfl) (fun r14 u14 H locs hq14 hP hD hS => ?_)
    try dsimp only at hq14
    subst hq14
    refine wn_eq (y := 67) rfl ?_
    have hP : va_P D vwCl [] H := hP
    have hD : va_D A [] := hD
    refine lv_iload_n hx hb d_Rm_symbolOf_17 rfl (lv_at hl 1 rfl) ?_
    refine lv_icmp_ne (tgt := 23) hx hb d_Rm_symbolOf_18 (by decide) ?_ ?_
    · intro h18_2
      refine lv_iinc (k := 0) (v := nI 4) (lv' := [(1, .int (nI 4)), (0, .int x)]) hx hb d_Rm_symbolOf_23 hl rfl (wi_inc1 _) (by decide) rfl (fun ls hl => ?_)
      refine lv_goto (tgt := 2) hx hb d_Rm_symbolOf_26 (by decide) ?_
      refine lv_iload_n hx hb d_Rm_symbolOf_2 rfl (lv_at hl 0 rfl) ?_
      refine va_ldcS hx hb hown (hE.2.1 ("ReadMapper", 159, "#$ACGNT", 0) (by decide)) d_Rm_symbolOf_3 ?_
      refine ck_cVx (C := "java/lang/String") (rest := [.int (nI 4)]) (wr := []) (ws2 := fun u => []) (c_Str_length l D cA K 0 (by decide)) hx hb hml hown hts hK hE hA hP hD hS k_Str_length m_284 (by decide) (vk_recv (adK := fun i => K (10 + i)) (i := 0) hE.2.2.2.2.2.2.1 (by decide) hS) rfl hl.1 rfl (Nat.le_of_ble_eq_true rfl) d_Rm_symbolOf_5 [] [] [] rfl rfl (by decide) (fun _ => rfl) (fun r5 u5 H locs hq5 hP hD hS => ?_)
      try dsimp only at hq5
      subst hq5
      refine wn_nat (b := 7) rfl ?_
      have hP : va_P D vwCl [] H := hP
      have hD : va_D A [] := hD
      refine lv_icmp_ge (tgt := 29) hx hb d_Rm_symbolOf_8 (by decide) (fun h9 => absurd h9 (by decide)) (fun _ => ?_)
      refine va_ldcS hx hb hown (hE.2.1 ("ReadMapper", 159, "#$ACGNT", 0) (by decide)) d_Rm_symbolOf_11 ?_
      refine lv_iload_n hx hb d_Rm_symbolOf_13 rfl (lv_at hl 0 rfl) ?_
      refine ck_cVx (C := "java/lang/String") (rest := []) (wr := []) (ws2 := fun u => []) (c_Str_charAt l D cA K 0 4 (by decide) (by decide)) hx hb hml hown hts hK hE hA hP hD hS k_Str_charAt m_491 (by decide) (vk_recv (adK := fun i => K (10 + i)) (i := 0) hE.2.2.2.2.2.2.1 (by decide) hS) rfl hl.1 rfl (Nat.le_of_ble_eq_true rfl) d_Rm_symbolOf_14 [] [] [] rfl rfl (by decide) (fun _ => rfl) (fun r14 u14 H locs hq14 hP hD hS => ?_)
      try dsimp only at hq14
      subst hq14
      refine wn_eq (y := 71) rfl ?_
      have hP : va_P D vwCl [] H := hP
      have hD : va_D A [] := hD
      refine lv_iload_n hx hb d_Rm_symbolOf_17 rfl (lv_at hl 1 rfl) ?_
      refine lv_icmp_ne (tgt := 23) hx hb d_Rm_symbolOf_18 (by decide) ?_ ?_
      · intro h18_3
        refine lv_iinc (k := 0) (v := nI 5) (lv' := [(1, .int (nI 5)), (0, .int x)]) hx hb d_Rm_symbolOf_23 hl rfl (wi_inc1 _) (by decide) rfl (fun ls hl => ?_)
        refine lv_goto (tgt := 2) hx hb d_Rm_symbolOf_26 (by decide) ?_
        refine lv_iload_n hx hb d_Rm_symbolOf_2 rfl (lv_at hl 0 rfl) ?_
        refine va_ldcS hx hb hown (hE.2.1 ("ReadMapper", 159, "#$ACGNT", 0) (by decide)) d_Rm_symbolOf_3 ?_
        refine ck_cVx (C := "java/lang/String") (rest := [.int (nI 5)]) (wr := []) (ws2 := fun u => []) (c_Str_length l D cA K 0 (by decide)) hx hb hml hown hts hK hE hA hP hD hS k_Str_length m_284 (by decide) (vk_recv (adK := fun i => K (10 + i)) (i := 0) hE.2.2.2.2.2.2.1 (by decide) hS) rfl hl.1 rfl (Nat.le_of_ble_eq_true rfl) d_Rm_symbolOf_5 [] [] [] rfl rfl (by decide) (fun _ => rfl) (fun r5 u5 H locs hq5 hP hD hS => ?_)
        try dsimp only at hq5
        subst hq5
        refine wn_nat (b := 7) rfl ?_
        have hP : va_P D vwCl [] H := hP
        have hD : va_D A [] := hD
        refine lv_icmp_ge (tgt := 29) hx hb d_Rm_symbolOf_8 (by decide) (fun h9 => absurd h9 (by decide)) (fun _ => ?_)
        refine va_ldcS hx hb hown (hE.2.1 ("ReadMapper", 159, "#$ACGNT", 0) (by decide)) d_Rm_symbolOf_11 ?_
        refine lv_iload_n hx hb d_Rm_symbolOf_13 rfl (lv_at hl 0 rfl) ?_
        refine ck_cVx (C := "java/lang/String") (rest := []) (wr := []) (ws2 := fun u => []) (c_Str_charAt l D cA K 0 5 (by decide) (by decide)) hx hb hml hown hts hK hE hA hP hD hS k_Str_charAt m_491 (by decide) (vk_recv (adK := fun i => K (10 + i)) (i := 0) hE.2.2.2.2.2.2.1 (by decide) hS) rfl hl.1 rfl (Nat.le_of_ble_eq_true rfl) d_Rm_symbolOf_14 [] [] [] rfl rfl (by decide) (fun _ => rfl) (fun r14 u14 H locs hq14 hP hD hS => ?_)
        try dsimp only at hq14
        subst hq14
        refine wn_eq (y := 78) rfl ?_
        have hP : va_P D vwCl [] H := hP
        have hD : va_D A [] := hD
        refine lv_iload_n hx hb d_Rm_symbolOf_17 rfl (lv_at hl 1 rfl) ?_
        refine lv_icmp_ne (tgt := 23) hx hb d_Rm_symbolOf_18 (by decide) ?_ ?_
        · intro h18_4
          refine lv_iinc (k := 0) (v := nI 6) (lv' := [(1, .int (nI 6)), (0, .int x)]) hx hb d_Rm_symbolOf_23 hl rfl (wi_inc1 _) (by decide) rfl (fun ls hl => ?_)
          refine lv_goto (tgt := 2) hx hb d_Rm_symbolOf_26 (by decide) ?_
          refine lv_iload_n hx hb d_Rm_symbolOf_2 rfl (lv_at hl 0 rfl) ?_
          refine va_ldcS hx hb hown (hE.2.1 ("ReadMapper", 159, "#$ACGNT", 0) (by decide)) d_Rm_symbolOf_3 ?_
          refine ck_cVx (C := "java/lang/String") (rest := [.int (nI 6)]) (wr := []) (ws2 := fun u => []) (c_Str_length l D cA K 0 (by decide)) hx hb hml hown hts hK hE hA hP hD hS k_Str_length m_284 (by decide) (vk_recv (adK := fun i => K (10 + i)) (i := 0) hE.2.2.2.2.2.2.1 (by decide) hS) rfl hl.1 rfl (Nat.le_of_ble_eq_true rfl) d_Rm_symbolOf_5 [] [] [] rfl rfl (by decide) (fun _ => rfl) (fun r5 u5 H locs hq5 hP hD hS => ?_)
          try dsimp only at hq5
          subst hq5
          refine wn_nat (b := 7) rfl ?_
          have hP : va_P D vwCl [] H := hP
          have hD : va_D A [] := hD
          refine lv_icmp_ge (tgt := 29) hx hb d_Rm_symbolOf_8 (by decide) (fun h9 => absurd h9 (by decide)) (fun _ => ?_)
          refine va_ldcS hx hb hown (hE.2.1 ("ReadMapper", 159, "#$ACGNT", 0) (by decide)) d_Rm_symbolOf_11 ?_
          refine lv_iload_n hx hb d_Rm_symbolOf_13 rfl (lv_at hl 0 rfl) ?_
          refine ck_cVx (C := "java/lang/String") (rest := []) (wr := []) (ws2 := fun u => []) (c_Str_charAt l D cA K 0 6 (by decide) (by decide)) hx hb hml hown hts hK hE hA hP hD hS k_Str_charAt m_491 (by decide) (vk_recv (adK := fun i => K (10 + i)) (i := 0) hE.2.2.2.2.2.2.1 (by decide) hS) rfl hl.1 rfl (Nat.le_of_ble_eq_true rfl) d_Rm_symbolOf_14 [] [] [] rfl rfl (by decide) (fun _ => rfl) (fun r14 u14 H locs hq14 hP hD hS => ?_)
          try dsimp only at hq14
          subst hq14
          refine wn_eq (y := 84) rfl ?_
          have hP : va_P D vwCl [] H := hP
          have hD : va_D A [] := hD
          refine lv_iload_n hx hb d_Rm_symbolOf_17 rfl (lv_at hl 1 rfl) ?_
          refine lv_icmp_ne (tgt := 23) hx hb d_Rm_symbolOf_18 (by decide) ?_ ?_
          · intro h18_5
            refine lv_iinc (k := 0) (v := nI 7) (lv' := [(1, .int (nI 7)), (0, .int x)]) hx hb d_Rm_symbolOf_23 hl rfl (wi_inc1 _) (by decide) rfl (fun ls hl => ?_)
            refine lv_goto (tgt := 2) hx hb d_Rm_symbolOf_26 (by decide) ?_
            refine lv_iload_n hx hb d_Rm_symbolOf_2 rfl (lv_at hl 0 rfl) ?_
            refine va_ldcS hx hb hown (hE.2.1 ("ReadMapper", 159, "#$ACGNT", 0) (by decide)) d_Rm_symbolOf_3 ?_
            refine ck_cVx (C := "java/lang/String") (rest := [.int (nI 7)]) (wr := []) (ws2 := fun u => []) (c_Str_length l D cA K 0 (by decide)) hx hb hml hown hts hK hE hA hP hD hS k_Str_length m_284 (by decide) (vk_recv (adK := fun i => K (10 + i)) (i := 0) hE.2.2.2.2.2.2.1 (by decide) hS) rfl hl.1 rfl (Nat.le_of_ble_eq_true rfl) d_Rm_symbolOf_5 [] [] [] rfl rfl (by decide) (fun _ => rfl) (fun r5 u5 H locs hq5 hP hD hS => ?_)
            try dsimp only at hq5
            subst hq5
            refine wn_nat (b := 7) rfl ?_
            have hP : va_P D vwCl [] H := hP
            have hD : va_D A [] := hD
            refine lv_icmp_ge (tgt := 29) hx hb d_Rm_symbolOf_8 (by decide) (fun _ => ?_) (fun h9 => absurd h9 (by decide))
            refine lv_iconst (v := (-1)) hx hb d_Rm_symbolOf_29 (by decide) ?_
            exact hret (-1) () _ _ _ 30 d_Rm_symbolOf_30 (by unfold sy_c; rw [if_neg h18, if_neg h18_2, if_neg h18_3, if_neg h18_4, if_neg h18_5] <;> rfl) hP hD hS
          · intro h18_5
            refine lv_iload_n hx hb d_Rm_symbolOf_21 rfl (lv_at hl 0 rfl) ?_
            exact hret (nI 6) () _ _ _ 22 d_Rm_symbolOf_22 (by unfold sy_c; rw [if_neg h18, if_neg h18_2, if_neg h18_3, if_neg h18_4, if_pos h18_5] <;> rfl) hP hD hS
        · intro h18_4
          refine lv_iload_n hx hb d_Rm_symbolOf_21 rfl (lv_at hl 0 rfl) ?_
          exact hret (nI 5) () _ _ _ 22 d_Rm_symbolOf_22 (by unfold sy_c; rw [if_neg h18, if_neg h18_2, if_neg h18_3, if_pos h18_4] <;> rfl) hP hD hS
      · intro h18_3
        refine lv_iload_n hx hb d_Rm_symbolOf_21 rfl (lv_at hl 0 rfl) ?_
        exact hret (nI 4) () _ _ _ 22 d_Rm_symbolOf_22 (by unfold sy_c; rw [if_neg h18, if_neg h18_2, if_pos h18_3] <;> rfl) hP hD hS
    · intro h18_2
      refine lv_iload_n hx hb d_Rm_symbolOf_21 rfl (lv_at hl 0 rfl) ?_
      exact hret (nI 3) () _ _ _ 22 d_Rm_symbolOf_22 (by unfold sy_c; rw [if_neg h18, if_pos h18_2] <;> rfl) hP hD hS
  · intro h18
    refine lv_iload_n hx hb d_Rm_symbolOf_21 rfl (lv_at hl 0 rfl) ?_
    exact hret (nI 2) () _ _ _ 22 d_Rm_symbolOf_22 (by unfold sy_c; rw [if_pos h18] <;> rfl) hP hD hS
theorem k_Rm_symbolOf : cf_S y_Rm_symbolOf b_Rm_symbolOf 2 (some .int) 1 := ⟨⟨m_489, m_1, m_490⟩, by decide +kernel⟩
set_option maxHeartbeats 4000000 in
set_option maxRecDepth 100000 in
theorem c_Rm_isMark (l : Launch) (D : va_G) (cA : Nat → ClassId) (K : Nat → Nat) (x : Int32) : ck_I l y_Rm_isMark (Cond.code y_Rm_isMark b_Rm_isMark 1 (some .boolean) :: w_all) 1 D cA K [.int x] [] (fun (r : Int32) (u : Unit) => (r = 1 ∧ ¬ 1 < x) ∨ (r = 0 ∧ 1 < x)) (fun u => []) := by
  refine ck_mkI (by decide) (fun r u h => by rcases h with ⟨rfl, _⟩ | ⟨rfl, _⟩ <;> rfl) (Nat.le_of_ble_eq_true rfl) ?_
  intro p e s m args below meth c Q A H locs ls hx hb hml hown hts hK hE hA hP hD hS hl hret
  have hl : lv_has ls 1 [(0, .int x)] := hl
  refine lv_iload_n hx hb d_Rm_isMark_0 rfl (lv_at hl 0 rfl) ?_
  refine lv_iconst (v := 1) hx hb d_Rm_isMark_1 (by decide) ?_
  refine lv_icmp_gt (tgt := 9) hx hb d_Rm_isMark_2 (by decide) ?_ ?_
  · intro h2
    refine lv_iconst (v := 0) hx hb d_Rm_isMark_9 (by decide) ?_
    exact hret 0 () _ _ _ 10 d_Rm_isMark_10 (by first | exact Or.inl ⟨rfl, h2⟩ | exact Or.inr ⟨rfl, h2⟩) hP hD hS
  · intro h2
    refine lv_iconst (v := 1) hx hb d_Rm_isMark_5 (by decide) ?_
    refine lv_goto (tgt := 10) hx hb d_Rm_isMark_6 (by decide) ?_
    exact hret 1 () _ _ _ 10 d_Rm_isMark_10 (by first | exact Or.inl ⟨rfl, h2⟩ | exact Or.inr ⟨rfl, h2⟩) hP hD hS
theorem k_Rm_isMark : cf_S y_Rm_isMark b_Rm_isMark 1 (some .boolean) 1 := ⟨⟨m_604, m_1, m_605⟩, by decide +kernel⟩
set_option maxHeartbeats 4000000 in
set_option maxRecDepth 100000 in
theorem c_Rm_differ (l : Launch) (D : va_G) (cA : Nat → ClassId) (K : Nat → Nat) (x z : Int32) : ck_I l y_Rm_differ (Cond.code y_Rm_differ b_Rm_differ 2 (some .boolean) :: w_all) 1 D cA K [.int x, .int z] [] (fun (r : Int32) (u : Unit) => (r = 1 ∧ (¬ x = z ∨ x = 5)) ∨ (r = 0 ∧ x = z ∧ ¬ x = 5)) (fun u => []) := by
  refine ck_mkI (by decide) (fun r u h => by rcases h with ⟨rfl, _⟩ | ⟨rfl, _⟩ <;> rfl) (Nat.le_of_ble_eq_true rfl) ?_
  intro p e s m args below meth c Q A H locs ls hx hb hml hown hts hK hE hA hP hD hS hl hret
  have hl : lv_has ls 2 [(0, .int x), (1, .int z)] := hl
  refine lv_iload_n hx hb d_Rm_differ_0 rfl (lv_at hl 0 rfl) ?_
  refine lv_iload_n hx hb d_Rm_differ_1 rfl (lv_at hl 1 rfl) ?_
  refine lv_icmp_ne (tgt := 10) hx hb d_Rm_differ_2 (by decide) ?_ ?_
  · intro h2
    refine lv_iconst (v := 1) hx hb d_Rm_differ_10 (by decide) ?_
    refine lv_goto (tgt := 15) hx hb d_Rm_differ_11 (by decide) ?_
    exact hret 1 () _ _ _ 15 d_Rm_differ_15 (by first | exact Or.inl ⟨rfl, Or.inl h2⟩ | exact Or.inl ⟨rfl, Or.inr h7⟩ | exact Or.inr ⟨rfl, h2, h7⟩) hP hD hS
  · intro h2
    refine lv_iload_n hx hb d_Rm_differ_5 rfl (lv_at hl 0 rfl) ?_
    refine lv_iconst (v := 5) hx hb d_Rm_differ_6 (by decide) ?_
    refine lv_icmp_ne (tgt := 14) hx hb d_Rm_differ_7 (by decide) ?_ ?_
    · intro h7
      refine lv_iconst (v := 0) hx hb d_Rm_differ_14 (by decide) ?_
      exact hret 0 () _ _ _ 15 d_Rm_differ_15 (by first | exact Or.inl ⟨rfl, Or.inl h2⟩ | exact Or.inl ⟨rfl, Or.inr h7⟩ | exact Or.inr ⟨rfl, h2, h7⟩) hP hD hS
    · intro h7
      refine lv_iconst (v := 1) hx hb d_Rm_differ_10 (by decide) ?_
      refine lv_goto (tgt := 15) hx hb d_Rm_differ_11 (by decide) ?_
      exact hret 1 () _ _ _ 15 d_Rm_differ_15 (by first | exact Or.inl ⟨rfl, Or.inl h2⟩ | exact Or.inl ⟨rfl, Or.inr h7⟩ | exact Or.inr ⟨rfl, h2, h7⟩) hP hD hS
theorem k_Rm_differ : cf_S y_Rm_differ b_Rm_differ 2 (some .boolean) 2 := ⟨⟨m_436, m_1, m_437⟩, by decide +kernel⟩
set_option maxHeartbeats 4000000 in
set_option maxRecDepth 100000 in
theorem c_Rm_readName (l : Launch) (D : va_G) (cA : Nat → ClassId) (K : Nat → Nat) (a b cap : Nat) (f : Nat → Int32) (L : List Int32) (a2 b2 cap2 : Nat) (g : Nat → Int32) (M : List Int32) (bg en : Nat) (hc : cd_r cap f L) (hc2 : cd_r cap2 g M) (hbg : bg ≤ 2000) (hen : en ≤ 2000) (h8 : 8 ≤ cap2) : ck_I l y_Rm_readName (Cond.code y_Rm_readName b_Rm_readName 5 (some .boolean) :: w_all) 3 D cA K [.ref a, .int (nI bg), .int (nI en), .ref a2] [(a, .inr (0, [.ref b, .int (nI L.length)])), (b, .inl (cA 0, cap, .inl f)), (a2, .inr (0, [.ref b2, .int (nI M.length)])), (b2, .inl (cA 0, cap2, .inl g))] (fun (r : Int32) (u : (Nat → Int32) × (List Int32)) => (r = 1 ∧ cd_r cap2 u.1 u.2 ∧ nm_ok L bg en ∧ u.2 = sl_p L bg en) ∨ (r = 0 ∧ cd_r cap2 u.1 u.2 ∧ ¬ nm_ok L bg en)) (fun u => [(a, .inr (0, [.ref b, .int (nI L.length)])), (b, .inl (cA 0, cap, .inl f)), (a2, .inr (0, [.ref b2, .int (nI u.2.length)])), (b2, .inl (cA 0, cap2, .inl u.1))]) := by
  refine ck_mkI (by decide) (fun r u h => by rcases h with ⟨rfl, _⟩ | ⟨rfl, _⟩ <;> rfl) (Nat.le_of_ble_eq_true rfl) ?_
  intro p e s m args below meth c Q A H locs ls hx hb hml hown hts hK hE hA hP hD hS hl hret
  have hl : lv_has ls 5 [(0, .ref a), (1, .int (nI bg)), (2, .int (nI en)), (3, .ref a2)] := hl
  have hl1 := cd_len hc
  have hl2 := cd_len hc2
  refine lv_aload_n hx hb d_Rm_readName_0 rfl (lv_at hl 3 rfl) ?_
  refine ck_cVv (C := "ReadMapper$Codes") (ci := 0) (rest := []) (wr := [(a, .inr (0, [.ref b, .int (nI L.length)])), (b, .inl (cA 0, cap, .inl f))]) (ws2 := fun u => [(a, .inr (0, [.ref b, .int (nI L.length)])), (b, .inl (cA 0, cap, .inl f)), (a2, .inr (0, [.ref b2, .int (nI (([] : List Int32).length))])), (b2, .inl (cA 0, cap2, .inl g))]) (c_Co_clear l D cA K a2 b2 cap2 g M (by first | assumption | omega)) hx hb hml hown hts hK hE hA hP hD hS k_Co_clear m_481 (by decide) 2 rfl rfl rfl hl.1 rfl (Nat.le_of_ble_eq_true rfl) d_Rm_readName_1  [2, 3] [0, 1] [0, 1, 2, 3] rfl rfl (by decide) (fun _ => rfl) (fun u1 H locs hq1 hP hD hS => ?_)
  try dsimp only at hq1
  have hP : va_P D vwCl [(a, .inr (0, [.ref b, .int (nI L.length)])), (b, .inl (cA 0, cap, .inl f)), (a2, .inr (0, [.ref b2, .int (nI (([] : List Int32).length))])), (b2, .inl (cA 0, cap2, .inl g))] H := hP
  have hD : va_D A [(a, .inr (0, [.ref b, .int (nI L.length)])), (b, .inl (cA 0, cap, .inl f)), (a2, .inr (0, [.ref b2, .int (nI (([] : List Int32).length))])), (b2, .inl (cA 0, cap2, .inl g))] := hD
  refine lv_iload_n hx hb d_Rm_readName_4 rfl (lv_at hl 2 rfl) ?_
  refine lv_iload_n hx hb d_Rm_readName_5 rfl (lv_at hl 1 rfl) ?_
  refine wn_icmp_le (by omega) (by omega) (tgt := 17) hx hb d_Rm_readName_6 (by decide) ?_ ?_
  · intro h6
    refine lv_iconst (v := 0) hx hb d_Rm_readName_17 (by decide) ?_
    exact hret 0 (g, ([] : List Int32)) _ _ _ 18 d_Rm_readName_18 (Or.inr ⟨rfl, hq1, fun z => by have := z.1; have := z.2.1; omega⟩) hP hD hS
  · intro h6
    refine lv_iload_n hx hb d_Rm_readName_9 rfl (lv_at hl 2 rfl) ?_
    refine lv_iload_n hx hb d_Rm_readName_10 rfl (lv_at hl 1 rfl) ?_
    refine wn_isub (by omega) hx hb d_Rm_readName_11 ?_
    refine lv_bipush (v := nI 8) hx hb d_Rm_readName_12 (by decide) ?_
    refine wn_icmp_le (by omega) (by omega) (tgt := 19) hx hb d_Rm_readName_14 (by decide) ?_ ?_
    · intro h14
      have hP : va_P D vwCl [(a, .inr (0, [.ref b, .int (nI L.length)])), (b, .inl (cA 0, cap, .inl f)), (a2, .inr (0, [.ref b2, .int (nI ((sl_p L bg bg).length))])), (b2, .inl (cA 0, cap2, .inl g))] H := by rw [sl_self]; exact hP
      have hD : va_D A [(a, .inr (0, [.ref b, .int (nI L.length)])), (b, .inl (cA 0, cap, .inl f)), (a2, .inr (0, [.ref b2, .int (nI ((sl_p L bg bg).length))])), (b2, .inl (cA 0, cap2, .inl g))] := by rw [sl_self]; exact hD
      refine lv_iload_n hx hb d_Rm_readName_19 rfl (lv_at hl 1 rfl) ?_
      refine lv_istore (lv' := [(4, .int (nI bg)), (0, .ref a), (1, .int (nI bg)), (2, .int (nI en)), (3, .ref a2)]) hx hb d_Rm_readName_20 hl (by decide) rfl (fun ls hl => ?_)
      have L22 : ∀ (n : Nat) (i : Nat) (g2 : Nat → Int32) (H : Heap) (locs : List Loc) (ls : Array Slot), en - i = n → bg ≤ i → i ≤ en → i ≤ L.length ∨ i = bg → cd_r cap2 g2 (sl_p L bg i) → (∀ j, bg ≤ j → j < i → nm_c (L.getD j 0)) →  va_P D vwCl [(a, .inr (0, [.ref b, .int (nI L.length)])), (b, .inl (cA 0, cap, .inl f)), (a2, .inr (0, [.ref b2, .int (nI ((sl_p L bg i).length))])), (b2, .inl (cA 0, cap2, .inl g2))] H → va_D A [(a, .inr (0, [.ref b, .int (nI L.length)])), (b, .inl (cA 0, cap, .inl f)), (a2, .inr (0, [.ref b2, .int (nI ((sl_p L bg i).length))])), (b2, .inl (cA 0, cap2, .inl g2))] → va_S A s.heap H locs → lv_has ls 5 [(0, .ref a), (2, .int (nI en)), (3, .ref a2), (4, .int (nI i))] → W p l e (rm_d 3) s m args below meth c H locs 0 0 Q (F0 m 22 ls []) := by
        intro n
        induction n using Nat.strongRecOn with
        | ind n ih22 =>
          intro i g2 H locs ls hn22 hbi hie hil0 hg hs hP hD hS hl
          refine lv_iload hx hb d_Rm_readName_22 (lv_at hl 3 rfl) ?_
          refine lv_iload_n hx hb d_Rm_readName_24 rfl (lv_at hl 1 rfl) ?_
          refine wn_icmp_ge (by omega) (by omega) (tgt := 58) hx hb d_Rm_readName_25 (by decide) ?_ ?_
          · intro h25
            refine lv_iconst (v := 1) hx hb d_Rm_readName_58 (by decide) ?_
            exact hret 1 (g2, sl_p L bg i) _ _ _ 59 d_Rm_readName_59 (Or.inl ⟨rfl, hg, ⟨by omega, by omega, by omega, fun j h1 h2 => hs j h1 (by omega)⟩, by rw [show en = i by omega]⟩) hP hD hS
          · intro h25
            refine lv_aload_n hx hb d_Rm_readName_28 rfl (lv_at hl 0 rfl) ?_
            refine lv_iload hx hb d_Rm_readName_29 (lv_at hl 3 rfl) ?_
            refine ck_cV (C := "ReadMapper$Codes") (ci := 0) (rest := []) (wr := [(a2, .inr (0, [.ref b2, .int (nI ((sl_p L bg i).length))])), (b2, .inl (cA 0, cap2, .inl g2))]) (ws2 := fun u => [(a, .inr (0, [.ref b, .int (nI L.length)])), (b, .inl (cA 0, cap, .inl f)), (a2, .inr (0, [.ref b2, .int (nI ((sl_p L bg i).length))])), (b2, .inl (cA 0, cap2, .inl g2))]) (c_Co_at l D cA K a b cap f L (nI i) (by first | assumption | omega)) hx hb hml hown hts hK hE hA hP hD hS k_Co_at m_443 (by decide) 0 rfl rfl rfl hl.1 rfl (Nat.le_of_ble_eq_true rfl) d_Rm_readName_31  [0, 1] [2, 3] [2, 3, 0, 1] rfl rfl (by decide) (fun _ => rfl) (fun r31 u31 H locs hq31 hP hD hS => ?_)
            try dsimp only at hq31
            have hP : va_P D vwCl [(a, .inr (0, [.ref b, .int (nI L.length)])), (b, .inl (cA 0, cap, .inl f)), (a2, .inr (0, [.ref b2, .int (nI ((sl_p L bg i).length))])), (b2, .inl (cA 0, cap2, .inl g2))] H := hP
            have hD : va_D A [(a, .inr (0, [.ref b, .int (nI L.length)])), (b, .inl (cA 0, cap, .inl f)), (a2, .inr (0, [.ref b2, .int (nI ((sl_p L bg i).length))])), (b2, .inl (cA 0, cap2, .inl g2))] := hD
            obtain rfl := hq31
            refine ck_cS (rest := []) (wr := [(a, .inr (0, [.ref b, .int (nI L.length)])), (b, .inl (cA 0, cap, .inl f)), (a2, .inr (0, [.ref b2, .int (nI ((sl_p L bg i).length))])), (b2, .inl (cA 0, cap2, .inl g2))]) (ws2 := fun u => [(a, .inr (0, [.ref b, .int (nI L.length)])), (b, .inl (cA 0, cap, .inl f)), (a2, .inr (0, [.ref b2, .int (nI ((sl_p L bg i).length))])), (b2, .inl (cA 0, cap2, .inl g2))]) (c_Rm_isNameCode l D cA K (at_c L (nI i)) ) hx hb hml hown hts hK hE hA hP hD hS k_Rm_isNameCode m_482 (by decide) rfl hl.1 rfl (Nat.le_of_ble_eq_true rfl) d_Rm_readName_34 [] [0, 1, 2, 3] [0, 1, 2, 3] rfl rfl (by decide) (fun _ => rfl) (fun r34 u34 H locs hq34 hP hD hS => ?_)
            try dsimp only at hq34
            have hP : va_P D vwCl [(a, .inr (0, [.ref b, .int (nI L.length)])), (b, .inl (cA 0, cap, .inl f)), (a2, .inr (0, [.ref b2, .int (nI ((sl_p L bg i).length))])), (b2, .inl (cA 0, cap2, .inl g2))] H := hP
            have hD : va_D A [(a, .inr (0, [.ref b, .int (nI L.length)])), (b, .inl (cA 0, cap, .inl f)), (a2, .inr (0, [.ref b2, .int (nI ((sl_p L bg i).length))])), (b2, .inl (cA 0, cap2, .inl g2))] := hD
            rcases hq34 with ⟨rfl, hq34⟩ | ⟨rfl, hq34⟩
            ·
              refine lv_if_ne (tgt := 42) hx hb d_Rm_readName_37 (by decide) (fun _ => ?_) (fun h9 => absurd h9 (by decide))
              obtain ⟨hil, hiv⟩ := nm_at (by omega) (by omega) hq34
              rw [hiv] at hq34
              refine lv_aload_n hx hb d_Rm_readName_42 rfl (lv_at hl 2 rfl) ?_
              refine lv_aload_n hx hb d_Rm_readName_43 rfl (lv_at hl 0 rfl) ?_
              refine lv_iload hx hb d_Rm_readName_44 (lv_at hl 3 rfl) ?_
              refine ck_cV (C := "ReadMapper$Codes") (ci := 0) (rest := [.ref a2]) (wr := [(a2, .inr (0, [.ref b2, .int (nI ((sl_p L bg i).length))])), (b2, .inl (cA 0, cap2, .inl g2))]) (ws2 := fun u => [(a, .inr (0, [.ref b, .int (nI L.length)])), (b, .inl (cA 0, cap, .inl f)), (a2, .inr (0, [.ref b2, .int (nI ((sl_p L bg i).length))])), (b2, .inl (cA 0, cap2, .inl g2))]) (c_Co_at l D cA K a b cap f L (nI i) (by first | assumption | omega)) hx hb hml hown hts hK hE hA hP hD hS k_Co_at m_443 (by decide) 0 rfl rfl rfl hl.1 rfl (Nat.le_of_ble_eq_true rfl) d_Rm_readName_46  [0, 1] [2, 3] [2, 3, 0, 1] rfl rfl (by decide) (fun _ => rfl) (fun r46 u46 H locs hq46 hP hD hS => ?_)
              try dsimp only at hq46
              have hP : va_P D vwCl [(a, .inr (0, [.ref b, .int (nI L.length)])), (b, .inl (cA 0, cap, .inl f)), (a2, .inr (0, [.ref b2, .int (nI ((sl_p L bg i).length))])), (b2, .inl (cA 0, cap2, .inl g2))] H := hP
              have hD : va_D A [(a, .inr (0, [.ref b, .int (nI L.length)])), (b, .inl (cA 0, cap, .inl f)), (a2, .inr (0, [.ref b2, .int (nI ((sl_p L bg i).length))])), (b2, .inl (cA 0, cap2, .inl g2))] := hD
              obtain rfl := hq46
              refine ck_cVv (C := "ReadMapper$Codes") (ci := 0) (rest := []) (wr := [(a, .inr (0, [.ref b, .int (nI L.length)])), (b, .inl (cA 0, cap, .inl f))]) (ws2 := fun u => [(a, .inr (0, [.ref b, .int (nI L.length)])), (b, .inl (cA 0, cap, .inl f)), (a2, .inr (0, [.ref b2, .int (nI (((sl_p L bg i) ++ [(at_c L (nI i))]).length))])), (b2, .inl (cA 0, cap2, .inl u))]) (c_Co_append l D cA K a2 b2 cap2 g2 (sl_p L bg i) (at_c L (nI i)) (by first | assumption | omega) (by have hz := hg.1; rw [sl_len (by omega)] at hz ⊢; omega)) hx hb hml hown hts hK hE hA hP hD hS k_Co_append m_243 (by decide) 2 rfl rfl rfl hl.1 rfl (Nat.le_of_ble_eq_true rfl) d_Rm_readName_49  [2, 3] [0, 1] [0, 1, 2, 3] rfl rfl (by decide) (fun _ => rfl) (fun u49 H locs hq49 hP hD hS => ?_)
              obtain ⟨f2_49, rfl⟩ : ∃ z, z = u49 := ⟨_, rfl⟩
              try dsimp only at hq49
              have hP : va_P D vwCl [(a, .inr (0, [.ref b, .int (nI L.length)])), (b, .inl (cA 0, cap, .inl f)), (a2, .inr (0, [.ref b2, .int (nI (((sl_p L bg i) ++ [(at_c L (nI i))]).length))])), (b2, .inl (cA 0, cap2, .inl f2_49))] H := hP
              have hD : va_D A [(a, .inr (0, [.ref b, .int (nI L.length)])), (b, .inl (cA 0, cap, .inl f)), (a2, .inr (0, [.ref b2, .int (nI (((sl_p L bg i) ++ [(at_c L (nI i))]).length))])), (b2, .inl (cA 0, cap2, .inl f2_49))] := hD
              rw [hiv, sl_snoc hbi hil] at hq49
              have hP : va_P D vwCl [(a, .inr (0, [.ref b, .int (nI L.length)])), (b, .inl (cA 0, cap, .inl f)), (a2, .inr (0, [.ref b2, .int (nI ((sl_p L bg (i + 1)).length))])), (b2, .inl (cA 0, cap2, .inl f2_49))] H := by rw [hiv, sl_snoc hbi hil] at hP; exact hP
              have hD : va_D A [(a, .inr (0, [.ref b, .int (nI L.length)])), (b, .inl (cA 0, cap, .inl f)), (a2, .inr (0, [.ref b2, .int (nI ((sl_p L bg (i + 1)).length))])), (b2, .inl (cA 0, cap2, .inl f2_49))] := by rw [hiv, sl_snoc hbi hil] at hD; exact hD
              refine lv_iinc (k := 3) (v := nI (i + 1)) (lv' := [(4, .int (nI (i + 1))), (0, .ref a), (2, .int (nI en)), (3, .ref a2)]) hx hb d_Rm_readName_52 hl rfl (wi_inc1 _) (by decide) rfl (fun ls hl => ?_)
              refine lv_goto (tgt := 22) hx hb d_Rm_readName_55 (by decide) ?_
              exact ih22 _ (by omega) (i + 1) f2_49 _ _ _ rfl (by first | assumption | omega) (by first | assumption | omega) (by first | assumption | omega) hq49 (fun j h1 h2 => if e : j = i then by subst e; exact hq34 else hs j h1 (by omega)) hP hD hS (lv_sub hl [1, 2, 3, 0] rfl)
            ·
              refine lv_if_ne (tgt := 42) hx hb d_Rm_readName_37 (by decide) (fun h9 => absurd h9 (by decide)) (fun _ => ?_)
              refine lv_iconst (v := 0) hx hb d_Rm_readName_40 (by decide) ?_
              exact hret 0 (g2, sl_p L bg i) _ _ _ 41 d_Rm_readName_41 (Or.inr ⟨rfl, hg, fun z => nm_out (by omega) hq34 (by have := z.2.2.1; omega) (z.2.2.2 i hbi h25)⟩) hP hD hS
      exact L22 _ bg g _ _ _ rfl (by first | assumption | omega) (by first | assumption | omega) (by first | assumption | omega) (by rw [sl_self]; exact hq1) (fun j h1 h2 => by omega) hP hD hS (lv_sub hl [1, 3, 4, 0] rfl)
    · intro h14
      refine lv_iconst (v := 0) hx hb d_Rm_readName_17 (by decide) ?_
      exact hret 0 (g, ([] : List Int32)) _ _ _ 18 d_Rm_readName_18 (Or.inr ⟨rfl, hq1, fun z => by have := z.1; have := z.2.1; omega⟩) hP hD hS
theorem k_Rm_readName : cf_S y_Rm_readName b_Rm_readName 5 (some .boolean) 4 := ⟨⟨m_479, m_1, m_480⟩, by decide +kernel⟩
set_option maxHeartbeats 4000000 in
set_option maxRecDepth 100000 in
theorem c_Rm_readBases (l : Launch) (D : va_G) (cA : Nat → ClassId) (K : Nat → Nat) (a b cap : Nat) (f : Nat → Int32) (L : List Int32) (a2 b2 cap2 : Nat) (g : Nat → Int32) (M : List Int32) (bg en : Nat) (hc : cd_r cap f L) (hc2 : cd_r cap2 g M) (hbg : bg ≤ 2000) (hen : en ≤ 2000) : ck_I l y_Rm_readBases (Cond.code y_Rm_readBases b_Rm_readBases 6 (some .boolean) :: w_all) 6 D cA K [.ref a, .int (nI bg), .int (nI en), .ref a2] [(a, .inr (0, [.ref b, .int (nI L.length)])), (b, .inl (cA 0, cap, .inl f)), (a2, .inr (0, [.ref b2, .int (nI M.length)])), (b2, .inl (cA 0, cap2, .inl g))] (fun (r : Int32) (u : (Nat → Int32) × (List Int32)) => (r = 1 ∧ cd_r cap2 u.1 u.2 ∧ bs_ok L bg en cap2 ∧ u.2 = (sl_p L bg en).map sy_c) ∨ (r = 0 ∧ cd_r cap2 u.1 u.2 ∧ ¬ bs_ok L bg en cap2)) (fun u => [(a, .inr (0, [.ref b, .int (nI L.length)])), (b, .inl (cA 0, cap, .inl f)), (a2, .inr (0, [.ref b2, .int (nI u.2.length)])), (b2, .inl (cA 0, cap2, .inl u.1))]) := by
  refine ck_mkI (by decide) (fun r u h => by rcases h with ⟨rfl, _⟩ | ⟨rfl, _⟩ <;> rfl) (Nat.le_of_ble_eq_true rfl) ?_
  intro p e s m args below meth c Q A H locs ls hx hb hml hown hts hK hE hA hP hD hS hl hret
  have hl : lv_has ls 6 [(0, .ref a), (1, .int (nI bg)), (2, .int (nI en)), (3, .ref a2)] := hl
  have hl1 := cd_len hc
  have hl2 := cd_len hc2
  refine lv_aload_n hx hb d_Rm_readBases_0 rfl (lv_at hl 3 rfl) ?_
  refine ck_cVv (C := "ReadMapper$Codes") (ci := 0) (rest := []) (wr := [(a, .inr (0, [.ref b, .int (nI L.length)])), (b, .inl (cA 0, cap, .inl f))]) (ws2 := fun u => [(a, .inr (0, [.ref b, .int (nI L.length)])), (b, .inl (cA 0, cap, .inl f)), (a2, .inr (0, [.ref b2, .int (nI (([] : List Int32).length))])), (b2, .inl (cA 0, cap2, .inl g))]) (c_Co_clear l D cA K a2 b2 cap2 g M (by first | assumption | omega)) hx hb hml hown hts hK hE hA hP hD hS k_Co_clear m_481 (by decide) 2 rfl rfl rfl hl.1 rfl (Nat.le_of_ble_eq_true rfl) d_Rm_readBases_1  [2, 3] [0, 1] [0, 1, 2, 3] rfl rfl (by decide) (fun _ => rfl) (fun u1 H locs hq1 hP hD hS => ?_)
  try dsimp only at hq1
  have hP : va_P D vwCl [(a, .inr (0, [.ref b, .int (nI L.length)])), (b, .inl (cA 0, cap, .inl f)), (a2, .inr (0, [.ref b2, .int (nI (([] : List Int32).length))])), (b2, .inl (cA 0, cap2, .inl g))] H := hP
  have hD : va_D A [(a, .inr (0, [.ref b, .int (nI L.length)])), (b, .inl (cA 0, cap, .inl f)), (a2, .inr (0, [.ref b2, .int (nI (([] : List Int32).length))])), (b2, .inl (cA 0, cap2, .inl g))] := hD
  have hP : va_P D vwCl [(a, .inr (0, [.ref b, .int (nI L.length)])), (b, .inl (cA 0, cap, .inl f)), (a2, .inr (0, [.ref b2, .int (nI (((sl_p L bg bg).map sy_c).length))])), (b2, .inl (cA 0, cap2, .inl g))] H := by rw [sl_self]; exact hP
  have hD : va_D A [(a, .inr (0, [.ref b, .int (nI L.length)])), (b, .inl (cA 0, cap, .inl f)), (a2, .inr (0, [.ref b2, .int (nI (((sl_p L bg bg).map sy_c).length))])), (b2, .inl (cA 0, cap2, .inl g))] := by rw [sl_self]; exact hD
  refine lv_iload_n hx hb d_Rm_readBases_4 rfl (lv_at hl 1 rfl) ?_
  refine lv_istore (lv' := [(4, .int (nI bg)), (0, .ref a), (1, .int (nI bg)), (2, .int (nI en)), (3, .ref a2)]) hx hb d_Rm_readBases_5 hl (by decide) rfl (fun ls hl => ?_)
  have L7 : ∀ (n : Nat) (i : Nat) (g2 : Nat → Int32) (H : Heap) (locs : List Loc) (ls : Array Slot), en - i = n → bg ≤ i → i ≤ en ∨ i = bg → i ≤ L.length ∨ i = bg → cd_r cap2 g2 ((sl_p L bg i).map sy_c) → (∀ j, bg ≤ j → j < i → sy_c (L.getD j 0) ≠ -1) →  va_P D vwCl [(a, .inr (0, [.ref b, .int (nI L.length)])), (b, .inl (cA 0, cap, .inl f)), (a2, .inr (0, [.ref b2, .int (nI (((sl_p L bg i).map sy_c).length))])), (b2, .inl (cA 0, cap2, .inl g2))] H → va_D A [(a, .inr (0, [.ref b, .int (nI L.length)])), (b, .inl (cA 0, cap, .inl f)), (a2, .inr (0, [.ref b2, .int (nI (((sl_p L bg i).map sy_c).length))])), (b2, .inl (cA 0, cap2, .inl g2))] → va_S A s.heap H locs → lv_has ls 6 [(0, .ref a), (2, .int (nI en)), (3, .ref a2), (4, .int (nI i))] → W p l e (rm_d 6) s m args below meth c H locs 0 0 Q (F0 m 7 ls []) := by
    intro n
    induction n using Nat.strongRecOn with
    | ind n ih7 =>
      intro i g2 H locs ls hn7 hbi hie hil0 hg hs hP hD hS hl
      have hlen := bs_len2 hil0
      have hgl := hg.1
      refine lv_iload hx hb d_Rm_readBases_7 (lv_at hl 3 rfl) ?_
      refine lv_iload_n hx hb d_Rm_readBases_9 rfl (lv_at hl 1 rfl) ?_
      refine wn_icmp_ge (by omega) (by omega) (tgt := 51) hx hb d_Rm_readBases_10 (by decide) ?_ ?_
      · intro h10
        refine lv_aload_n hx hb d_Rm_readBases_51 rfl (lv_at hl 2 rfl) ?_
        refine ck_cV (C := "ReadMapper$Codes") (ci := 0) (rest := []) (wr := [(a, .inr (0, [.ref b, .int (nI L.length)])), (b, .inl (cA 0, cap, .inl f))]) (ws2 := fun u => [(a, .inr (0, [.ref b, .int (nI L.length)])), (b, .inl (cA 0, cap, .inl f)), (a2, .inr (0, [.ref b2, .int (nI (((sl_p L bg i).map sy_c).length))])), (b2, .inl (cA 0, cap2, .inl g2))]) (c_Co_size l D cA K a2 b2 cap2 g2 ((sl_p L bg i).map sy_c) (by first | assumption | omega)) hx hb hml hown hts hK hE hA hP hD hS k_Co_size m_438 (by decide) 2 rfl rfl rfl hl.1 rfl (Nat.le_of_ble_eq_true rfl) d_Rm_readBases_52  [2, 3] [0, 1] [0, 1, 2, 3] rfl rfl (by decide) (fun _ => rfl) (fun r52 u52 H locs hq52 hP hD hS => ?_)
        try dsimp only at hq52
        have hP : va_P D vwCl [(a, .inr (0, [.ref b, .int (nI L.length)])), (b, .inl (cA 0, cap, .inl f)), (a2, .inr (0, [.ref b2, .int (nI (((sl_p L bg i).map sy_c).length))])), (b2, .inl (cA 0, cap2, .inl g2))] H := hP
        have hD : va_D A [(a, .inr (0, [.ref b, .int (nI L.length)])), (b, .inl (cA 0, cap, .inl f)), (a2, .inr (0, [.ref b2, .int (nI (((sl_p L bg i).map sy_c).length))])), (b2, .inl (cA 0, cap2, .inl g2))] := hD
        obtain rfl := hq52
        refine wn_if_le (by omega) (tgt := 62) hx hb d_Rm_readBases_55 (by decide) ?_ ?_
        · intro h55
          refine lv_iconst (v := 0) hx hb d_Rm_readBases_62 (by decide) ?_
          exact hret 0 (g2, (sl_p L bg i).map sy_c) _ _ _ 63 d_Rm_readBases_63 (by first | exact Or.inl ⟨rfl, hg, ⟨by omega, by omega, by omega, fun j h1 h2 => hs j h1 (by omega)⟩, by rw [show en = i by omega]⟩ | exact Or.inr ⟨rfl, hg, fun z => by have z1 := z.1; omega⟩) hP hD hS
        · intro h55
          refine lv_iconst (v := 1) hx hb d_Rm_readBases_58 (by decide) ?_
          refine lv_goto (tgt := 63) hx hb d_Rm_readBases_59 (by decide) ?_
          exact hret 1 (g2, (sl_p L bg i).map sy_c) _ _ _ 63 d_Rm_readBases_63 (by first | exact Or.inl ⟨rfl, hg, ⟨by omega, by omega, by omega, fun j h1 h2 => hs j h1 (by omega)⟩, by rw [show en = i by omega]⟩ | exact Or.inr ⟨rfl, hg, fun z => by have z1 := z.1; omega⟩) hP hD hS
      · intro h10
        refine lv_aload_n hx hb d_Rm_readBases_13 rfl (lv_at hl 0 rfl) ?_
        refine lv_iload hx hb d_Rm_readBases_14 (lv_at hl 3 rfl) ?_
        refine ck_cV (C := "ReadMapper$Codes") (ci := 0) (rest := []) (wr := [(a2, .inr (0, [.ref b2, .int (nI (((sl_p L bg i).map sy_c).length))])), (b2, .inl (cA 0, cap2, .inl g2))]) (ws2 := fun u => [(a, .inr (0, [.ref b, .int (nI L.length)])), (b, .inl (cA 0, cap, .inl f)), (a2, .inr (0, [.ref b2, .int (nI (((sl_p L bg i).map sy_c).length))])), (b2, .inl (cA 0, cap2, .inl g2))]) (c_Co_at l D cA K a b cap f L (nI i) (by first | assumption | omega)) hx hb hml hown hts hK hE hA hP hD hS k_Co_at m_443 (by decide) 0 rfl rfl rfl hl.1 rfl (Nat.le_of_ble_eq_true rfl) d_Rm_readBases_16  [0, 1] [2, 3] [2, 3, 0, 1] rfl rfl (by decide) (fun _ => rfl) (fun r16 u16 H locs hq16 hP hD hS => ?_)
        try dsimp only at hq16
        have hP : va_P D vwCl [(a, .inr (0, [.ref b, .int (nI L.length)])), (b, .inl (cA 0, cap, .inl f)), (a2, .inr (0, [.ref b2, .int (nI (((sl_p L bg i).map sy_c).length))])), (b2, .inl (cA 0, cap2, .inl g2))] H := hP
        have hD : va_D A [(a, .inr (0, [.ref b, .int (nI L.length)])), (b, .inl (cA 0, cap, .inl f)), (a2, .inr (0, [.ref b2, .int (nI (((sl_p L bg i).map sy_c).length))])), (b2, .inl (cA 0, cap2, .inl g2))] := hD
        obtain rfl := hq16
        refine ck_cS (rest := []) (wr := [(a, .inr (0, [.ref b, .int (nI L.length)])), (b, .inl (cA 0, cap, .inl f)), (a2, .inr (0, [.ref b2, .int (nI (((sl_p L bg i).map sy_c).length))])), (b2, .inl (cA 0, cap2, .inl g2))]) (ws2 := fun u => [(a, .inr (0, [.ref b, .int (nI L.length)])), (b, .inl (cA 0, cap, .inl f)), (a2, .inr (0, [.ref b2, .int (nI (((sl_p L bg i).map sy_c).length))])), (b2, .inl (cA 0, cap2, .inl g2))]) (c_Rm_symbolOf l D cA K (at_c L (nI i)) ) hx hb hml hown hts hK hE hA hP hD hS k_Rm_symbolOf m_488 (by decide) rfl hl.1 rfl (Nat.le_of_ble_eq_true rfl) d_Rm_readBases_19 [] [0, 1, 2, 3] [0, 1, 2, 3] rfl rfl (by decide) (fun _ => rfl) (fun r19 u19 H locs hq19 hP hD hS => ?_)
        try dsimp only at hq19
        have hP : va_P D vwCl [(a, .inr (0, [.ref b, .int (nI L.length)])), (b, .inl (cA 0, cap, .inl f)), (a2, .inr (0, [.ref b2, .int (nI (((sl_p L bg i).map sy_c).length))])), (b2, .inl (cA 0, cap2, .inl g2))] H := hP
        have hD : va_D A [(a, .inr (0, [.ref b, .int (nI L.length)])), (b, .inl (cA 0, cap, .inl f)), (a2, .inr (0, [.ref b2, .int (nI (((sl_p L bg i).map sy_c).length))])), (b2, .inl (cA 0, cap2, .inl g2))] := hD
        obtain rfl := hq19
        refine lv_istore (lv' := [(5, .int (sy_c (at_c L (nI i)))), (0, .ref a), (2, .int (nI en)), (3, .ref a2), (4, .int (nI i))]) hx hb d_Rm_readBases_22 hl (by decide) rfl (fun ls hl => ?_)
        refine lv_iload hx hb d_Rm_readBases_24 (lv_at hl 0 rfl) ?_
        refine lv_iconst (v := (-1)) hx hb d_Rm_readBases_26 (by decide) ?_
        refine lv_icmp_eq (tgt := 37) hx hb d_Rm_readBases_27 (by decide) ?_ ?_
        · intro h27
          refine lv_iconst (v := 0) hx hb d_Rm_readBases_37 (by decide) ?_
          exact hret 0 (g2, (sl_p L bg i).map sy_c) _ _ _ 38 d_Rm_readBases_38 (Or.inr ⟨rfl, hg, fun z => by first | (have z1 := z.2.2.1; have z2 := z.2.2.2 i hbi h10; rw [at_n (by omega) (by omega)] at h27; exact z2 h27) | (have z1 := z.2.1; omega)⟩) hP hD hS
        · intro h27
          obtain ⟨hil, hiv⟩ := sy_at (by omega) (by omega) h27
          refine lv_aload_n hx hb d_Rm_readBases_30 rfl (lv_at hl 3 rfl) ?_
          refine ck_cV (C := "ReadMapper$Codes") (ci := 0) (rest := []) (wr := [(a, .inr (0, [.ref b, .int (nI L.length)])), (b, .inl (cA 0, cap, .inl f))]) (ws2 := fun u => [(a, .inr (0, [.ref b, .int (nI L.length)])), (b, .inl (cA 0, cap, .inl f)), (a2, .inr (0, [.ref b2, .int (nI (((sl_p L bg i).map sy_c).length))])), (b2, .inl (cA 0, cap2, .inl g2))]) (c_Co_room l D cA K a2 b2 cap2 g2 ((sl_p L bg i).map sy_c) (by first | assumption | omega)) hx hb hml hown hts hK hE hA hP hD hS k_Co_room m_239 (by decide) 2 rfl rfl rfl hl.1 rfl (Nat.le_of_ble_eq_true rfl) d_Rm_readBases_31  [2, 3] [0, 1] [0, 1, 2, 3] rfl rfl (by decide) (fun _ => rfl) (fun r31 u31 H locs hq31 hP hD hS => ?_)
          try dsimp only at hq31
          have hP : va_P D vwCl [(a, .inr (0, [.ref b, .int (nI L.length)])), (b, .inl (cA 0, cap, .inl f)), (a2, .inr (0, [.ref b2, .int (nI (((sl_p L bg i).map sy_c).length))])), (b2, .inl (cA 0, cap2, .inl g2))] H := hP
          have hD : va_D A [(a, .inr (0, [.ref b, .int (nI L.length)])), (b, .inl (cA 0, cap, .inl f)), (a2, .inr (0, [.ref b2, .int (nI (((sl_p L bg i).map sy_c).length))])), (b2, .inl (cA 0, cap2, .inl g2))] := hD
          obtain rfl := hq31
          refine wn_if_ne (by omega) (tgt := 39) hx hb d_Rm_readBases_34 (by decide) ?_ ?_
          · intro h34
            refine lv_aload_n hx hb d_Rm_readBases_39 rfl (lv_at hl 3 rfl) ?_
            refine lv_iload hx hb d_Rm_readBases_40 (lv_at hl 0 rfl) ?_
            refine ck_cVv (C := "ReadMapper$Codes") (ci := 0) (rest := []) (wr := [(a, .inr (0, [.ref b, .int (nI L.length)])), (b, .inl (cA 0, cap, .inl f))]) (ws2 := fun u => [(a, .inr (0, [.ref b, .int (nI L.length)])), (b, .inl (cA 0, cap, .inl f)), (a2, .inr (0, [.ref b2, .int (nI ((((sl_p L bg i).map sy_c) ++ [(sy_c (at_c L (nI i)))]).length))])), (b2, .inl (cA 0, cap2, .inl u))]) (c_Co_append l D cA K a2 b2 cap2 g2 ((sl_p L bg i).map sy_c) (sy_c (at_c L (nI i))) (by first | assumption | omega) (by first | assumption | omega)) hx hb hml hown hts hK hE hA hP hD hS k_Co_append m_243 (by decide) 2 rfl rfl rfl hl.1 rfl (Nat.le_of_ble_eq_true rfl) d_Rm_readBases_42  [2, 3] [0, 1] [0, 1, 2, 3] rfl rfl (by decide) (fun _ => rfl) (fun u42 H locs hq42 hP hD hS => ?_)
            obtain ⟨f2_42, rfl⟩ : ∃ z, z = u42 := ⟨_, rfl⟩
            try dsimp only at hq42
            have hP : va_P D vwCl [(a, .inr (0, [.ref b, .int (nI L.length)])), (b, .inl (cA 0, cap, .inl f)), (a2, .inr (0, [.ref b2, .int (nI ((((sl_p L bg i).map sy_c) ++ [(sy_c (at_c L (nI i)))]).length))])), (b2, .inl (cA 0, cap2, .inl f2_42))] H := hP
            have hD : va_D A [(a, .inr (0, [.ref b, .int (nI L.length)])), (b, .inl (cA 0, cap, .inl f)), (a2, .inr (0, [.ref b2, .int (nI ((((sl_p L bg i).map sy_c) ++ [(sy_c (at_c L (nI i)))]).length))])), (b2, .inl (cA 0, cap2, .inl f2_42))] := hD
            rw [hiv, bs_snoc hbi hil] at hq42
            have hP : va_P D vwCl [(a, .inr (0, [.ref b, .int (nI L.length)])), (b, .inl (cA 0, cap, .inl f)), (a2, .inr (0, [.ref b2, .int (nI (((sl_p L bg (i + 1)).map sy_c).length))])), (b2, .inl (cA 0, cap2, .inl f2_42))] H := by rw [hiv, bs_snoc hbi hil] at hP; exact hP
            have hD : va_D A [(a, .inr (0, [.ref b, .int (nI L.length)])), (b, .inl (cA 0, cap, .inl f)), (a2, .inr (0, [.ref b2, .int (nI (((sl_p L bg (i + 1)).map sy_c).length))])), (b2, .inl (cA 0, cap2, .inl f2_42))] := by rw [hiv, bs_snoc hbi hil] at hD; exact hD
            refine lv_iinc (k := 4) (v := nI (i + 1)) (lv' := [(4, .int (nI (i + 1))), (5, .int (sy_c (at_c L (nI i)))), (0, .ref a), (2, .int (nI en)), (3, .ref a2)]) hx hb d_Rm_readBases_45 hl rfl (wi_inc1 _) (by decide) rfl (fun ls hl => ?_)
            refine lv_goto (tgt := 7) hx hb d_Rm_readBases_48 (by decide) ?_
            exact ih7 _ (by omega) (i + 1) f2_42 _ _ _ rfl (by first | assumption | omega) (by first | assumption | omega) (by first | assumption | omega) hq42 (fun j h1 h2 => if e : j = i then by subst e; rw [← hiv]; exact h27 else hs j h1 (by omega)) hP hD hS (lv_sub hl [2, 3, 4, 0] rfl)
          · intro h34
            refine lv_iconst (v := 0) hx hb d_Rm_readBases_37 (by decide) ?_
            exact hret 0 (g2, (sl_p L bg i).map sy_c) _ _ _ 38 d_Rm_readBases_38 (Or.inr ⟨rfl, hg, fun z => by first | (have z1 := z.2.2.1; have z2 := z.2.2.2 i hbi h10; rw [at_n (by omega) (by omega)] at h27; exact z2 h27) | (have z1 := z.2.1; omega)⟩) hP hD hS
  exact L7 _ bg g _ _ _ rfl (by first | assumption | omega) (by first | assumption | omega) (by first | assumption | omega) (by rw [sl_self]; exact hq1) (fun j h1 h2 => by omega) hP hD hS (lv_sub hl [1, 3, 4, 0] rfl)
theorem k_Rm_readBases : cf_S y_Rm_readBases b_Rm_readBases 6 (some .boolean) 4 := ⟨⟨m_486, m_1, m_487⟩, by decide +kernel⟩
