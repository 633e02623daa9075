/-! the object's own flags; the bytes of a long -/
def bz_c (b : Bool) : Int32 := match b with
  | true => 1
  | false => 0
theorem bz_0 {b : Bool} (h : bz_c b = 0) : b = false := by cases b <;> first | rfl | exact absurd h (by decide)
theorem bz_1 {b : Bool} (h : ¬ bz_c b = 0) : b = true := by cases b <;> first | rfl | exact absurd rfl h
theorem bz_n {b : Bool} (h : bz_c b = 0) : ¬ b = true := by rw [bz_0 h]; decide
theorem oc_num {n : Nat} {i : Int32} (hn : n ≤ 65) (h0 : ¬ i < 0) (h1 : i ≤ nI n) : ∃ k, k ≤ n ∧ i = nI k := nI_of2 (nI_toInt (by omega)) h0 h1
/-- the byte that comes i-th, from the highest on, may stand -/
def wb_p (w : Int64) (i : Nat) : Prop := by_c w (8 * (7 - i)) = 0 ∨ (¬ by_c w (8 * (7 - i)) < 32 ∧ by_c w (8 * (7 - i)) ≤ 126)
def wb_c (w : Int64) : Nat → List Int32
  | 0 => []
  | i + 1 => wb_c w i ++ (if by_c w (8 * (7 - i)) = 0 then [] else [by_c w (8 * (7 - i))])
theorem wb_b {w : Int64} {i : Nat} (h : by_c w (8 * (7 - i)) = 0) : wb_c w (i + 1) = wb_c w i := by
  show wb_c w i ++ _ = _
  rw [if_pos h, List.append_nil]
theorem wb_a {w : Int64} {i : Nat} (h : ¬ by_c w (8 * (7 - i)) = 0) : wb_c w i ++ [by_c w (8 * (7 - i))] = wb_c w (i + 1) := by
  show _ = wb_c w i ++ _
  rw [if_neg h]
theorem wb_0 {w : Int64} {i : Nat} (h : by_c w (8 * (7 - i)) = 0) : (wb_c w (i + 1)).length = (wb_c w i).length := by rw [wb_b h]
theorem wb_1 {w : Int64} {i : Nat} (h : ¬ by_c w (8 * (7 - i)) = 0) : (wb_c w (i + 1)).length = (wb_c w i).length + 1 := by rw [← wb_a h, List.length_append]; rfl
theorem wb_len (w : Int64) (i : Nat) : (wb_c w i).length ≤ i := by
  induction i with
  | zero => exact Nat.le_refl _
  | succ i ih =>
    by_cases h : by_c w (8 * (7 - i)) = 0
    · rw [wb_0 h]; omega
    · rw [wb_1 h]; omega
theorem wb_mono (w : Int64) {i j : Nat} (h : i ≤ j) : (wb_c w i).length ≤ (wb_c w j).length := by
  induction j with
  | zero => rw [show i = 0 by omega]; exact Nat.le_refl _
  | succ j ih =>
    by_cases e : i = j + 1
    · subst e; exact Nat.le_refl _
    · have := ih (by omega)
      by_cases h : by_c w (8 * (7 - j)) = 0
      · rw [wb_0 h]; omega
      · rw [wb_1 h]; omega
theorem wb_e {i : Nat} (h : i < 8) : nI (8 * (8 - i)) - 8 = nI (8 * (7 - i)) := by
  rw [show (8 : Int32) = nI 8 from rfl, pk_sub (by omega), show 8 * (8 - i) - 8 = 8 * (7 - i) by omega]
theorem wb_lt {i : Nat} (hi : i ≤ 8) (h : ¬ nI (8 * (8 - i)) - 8 < 0) : i < 8 := by
  rcases Nat.lt_or_ge i 8 with z | z
  · exact z
  · have e : i = 8 := by omega
    subst e
    exact absurd (by decide) h
theorem wb_8 {i : Nat} (hi : i ≤ 8) (h : nI (8 * (8 - i)) - 8 < 0) : i = 8 := by
  rcases Nat.lt_or_ge i 8 with z | z
  · rw [wb_e z] at h
    exact absurd h (nI_pos (by omega))
  · omega
theorem wb_i {i : Nat} (h : i < 8) : nI (8 * (7 - i)) + Int32.ofInt (-8) = nI (8 * (8 - (i + 1))) - 8 := by
  rw [show 8 * (8 - (i + 1)) = 8 * (7 - i) by omega, Int32.sub_eq_add_neg]; rfl
theorem d_Rm_forgetQuestions_0 : decode b_Rm_forgetQuestions 0 = .ok (.aload_n 0, 1) := by decide +kernel
theorem d_Rm_forgetQuestions_1 : decode b_Rm_forgetQuestions 1 = .ok (.iconst (-1), 1) := by decide +kernel
theorem d_Rm_forgetQuestions_2 : decode b_Rm_forgetQuestions 2 = .ok (.putfield 34, 3) := by decide +kernel
theorem d_Rm_forgetQuestions_5 : decode b_Rm_forgetQuestions 5 = .ok (.aload_n 0, 1) := by decide +kernel
theorem d_Rm_forgetQuestions_6 : decode b_Rm_forgetQuestions 6 = .ok (.iconst 0, 1) := by decide +kernel
theorem d_Rm_forgetQuestions_7 : decode b_Rm_forgetQuestions 7 = .ok (.putfield 179, 3) := by decide +kernel
theorem d_Rm_forgetQuestions_10 : decode b_Rm_forgetQuestions 10 = .ok (.return_, 1) := by decide +kernel
theorem d_Rm_drop_0 : decode b_Rm_drop 0 = .ok (.aload_n 0, 1) := by decide +kernel
theorem d_Rm_drop_1 : decode b_Rm_drop 1 = .ok (.getfield 116, 3) := by decide +kernel
theorem d_Rm_drop_4 : decode b_Rm_drop 4 = .ok (.ifCond .ne 5, 3) := by decide +kernel
theorem d_Rm_drop_7 : decode b_Rm_drop 7 = .ok (.iconst 0, 1) := by decide +kernel
theorem d_Rm_drop_8 : decode b_Rm_drop 8 = .ok (.ireturn, 1) := by decide +kernel
theorem d_Rm_drop_9 : decode b_Rm_drop 9 = .ok (.aload_n 0, 1) := by decide +kernel
theorem d_Rm_drop_10 : decode b_Rm_drop 10 = .ok (.iconst 0, 1) := by decide +kernel
theorem d_Rm_drop_11 : decode b_Rm_drop 11 = .ok (.putfield 116, 3) := by decide +kernel
theorem d_Rm_drop_14 : decode b_Rm_drop 14 = .ok (.aload_n 0, 1) := by decide +kernel
theorem d_Rm_drop_15 : decode b_Rm_drop 15 = .ok (.invokevirtual 137, 3) := by decide +kernel
theorem d_Rm_drop_18 : decode b_Rm_drop 18 = .ok (.iconst 1, 1) := by decide +kernel
theorem d_Rm_drop_19 : decode b_Rm_drop 19 = .ok (.ireturn, 1) := by decide +kernel
theorem d_Rm_steps_0 : decode b_Rm_steps 0 = .ok (.aload_n 0, 1) := by decide +kernel
theorem d_Rm_steps_1 : decode b_Rm_steps 1 = .ok (.getfield 116, 3) := by decide +kernel
theorem d_Rm_steps_4 : decode b_Rm_steps 4 = .ok (.ifCond .eq 14, 3) := by decide +kernel
theorem d_Rm_steps_7 : decode b_Rm_steps 7 = .ok (.aload_n 0, 1) := by decide +kernel
theorem d_Rm_steps_8 : decode b_Rm_steps 8 = .ok (.getfield 27, 3) := by decide +kernel
theorem d_Rm_steps_11 : decode b_Rm_steps 11 = .ok (.iload_n 1, 1) := by decide +kernel
theorem d_Rm_steps_12 : decode b_Rm_steps 12 = .ok (.invokevirtual 153, 3) := by decide +kernel
theorem d_Rm_steps_15 : decode b_Rm_steps 15 = .ok (.goto 4, 3) := by decide +kernel
theorem d_Rm_steps_18 : decode b_Rm_steps 18 = .ok (.iconst (-1), 1) := by decide +kernel
theorem d_Rm_steps_19 : decode b_Rm_steps 19 = .ok (.ireturn, 1) := by decide +kernel
theorem d_Rm_turned_0 : decode b_Rm_turned 0 = .ok (.aload_n 0, 1) := by decide +kernel
theorem d_Rm_turned_1 : decode b_Rm_turned 1 = .ok (.getfield 116, 3) := by decide +kernel
theorem d_Rm_turned_4 : decode b_Rm_turned 4 = .ok (.ifCond .eq 14, 3) := by decide +kernel
theorem d_Rm_turned_7 : decode b_Rm_turned 7 = .ok (.aload_n 0, 1) := by decide +kernel
theorem d_Rm_turned_8 : decode b_Rm_turned 8 = .ok (.getfield 27, 3) := by decide +kernel
theorem d_Rm_turned_11 : decode b_Rm_turned 11 = .ok (.iload_n 1, 1) := by decide +kernel
theorem d_Rm_turned_12 : decode b_Rm_turned 12 = .ok (.invokevirtual 156, 3) := by decide +kernel
theorem d_Rm_turned_15 : decode b_Rm_turned 15 = .ok (.goto 4, 3) := by decide +kernel
theorem d_Rm_turned_18 : decode b_Rm_turned 18 = .ok (.iconst (-1), 1) := by decide +kernel
theorem d_Rm_turned_19 : decode b_Rm_turned 19 = .ok (.ireturn, 1) := by decide +kernel
theorem d_Rm_occ_0 : decode b_Rm_occ 0 = .ok (.aload_n 0, 1) := by decide +kernel
theorem d_Rm_occ_1 : decode b_Rm_occ 1 = .ok (.getfield 116, 3) := by decide +kernel
theorem d_Rm_occ_4 : decode b_Rm_occ 4 = .ok (.ifCond .eq 31, 3) := by decide +kernel
theorem d_Rm_occ_7 : decode b_Rm_occ 7 = .ok (.iload_n 1, 1) := by decide +kernel
theorem d_Rm_occ_8 : decode b_Rm_occ 8 = .ok (.ifCond .lt 27, 3) := by decide +kernel
theorem d_Rm_occ_11 : decode b_Rm_occ 11 = .ok (.iload_n 1, 1) := by decide +kernel
theorem d_Rm_occ_12 : decode b_Rm_occ 12 = .ok (.ldc 159, 2) := by decide +kernel
theorem d_Rm_occ_14 : decode b_Rm_occ 14 = .ok (.invokevirtual 161, 3) := by decide +kernel
theorem d_Rm_occ_17 : decode b_Rm_occ 17 = .ok (.if_icmp .ge 18, 3) := by decide +kernel
theorem d_Rm_occ_20 : decode b_Rm_occ 20 = .ok (.iload_n 2, 1) := by decide +kernel
theorem d_Rm_occ_21 : decode b_Rm_occ 21 = .ok (.ifCond .lt 14, 3) := by decide +kernel
theorem d_Rm_occ_24 : decode b_Rm_occ 24 = .ok (.iload_n 2, 1) := by decide +kernel
theorem d_Rm_occ_25 : decode b_Rm_occ 25 = .ok (.aload_n 0, 1) := by decide +kernel
theorem d_Rm_occ_26 : decode b_Rm_occ 26 = .ok (.getfield 27, 3) := by decide +kernel
theorem d_Rm_occ_29 : decode b_Rm_occ 29 = .ok (.invokevirtual 140, 3) := by decide +kernel
theorem d_Rm_occ_32 : decode b_Rm_occ 32 = .ok (.if_icmp .le 5, 3) := by decide +kernel
theorem d_Rm_occ_35 : decode b_Rm_occ 35 = .ok (.iconst (-1), 1) := by decide +kernel
theorem d_Rm_occ_36 : decode b_Rm_occ 36 = .ok (.ireturn, 1) := by decide +kernel
theorem d_Rm_occ_37 : decode b_Rm_occ 37 = .ok (.aload_n 0, 1) := by decide +kernel
theorem d_Rm_occ_38 : decode b_Rm_occ 38 = .ok (.getfield 27, 3) := by decide +kernel
theorem d_Rm_occ_41 : decode b_Rm_occ 41 = .ok (.iload_n 1, 1) := by decide +kernel
theorem d_Rm_occ_42 : decode b_Rm_occ 42 = .ok (.iload_n 2, 1) := by decide +kernel
theorem d_Rm_occ_43 : decode b_Rm_occ 43 = .ok (.invokevirtual 166, 3) := by decide +kernel
theorem d_Rm_occ_46 : decode b_Rm_occ 46 = .ok (.ireturn, 1) := by decide +kernel
theorem d_Rm_first_0 : decode b_Rm_first 0 = .ok (.aload_n 0, 1) := by decide +kernel
theorem d_Rm_first_1 : decode b_Rm_first 1 = .ok (.getfield 34, 3) := by decide +kernel
theorem d_Rm_first_4 : decode b_Rm_first 4 = .ok (.ireturn, 1) := by decide +kernel
theorem d_Rm_hit_0 : decode b_Rm_hit 0 = .ok (.aload_n 0, 1) := by decide +kernel
theorem d_Rm_hit_1 : decode b_Rm_hit 1 = .ok (.getfield 179, 3) := by decide +kernel
theorem d_Rm_hit_4 : decode b_Rm_hit 4 = .ok (.ifCond .eq 15, 3) := by decide +kernel
theorem d_Rm_hit_7 : decode b_Rm_hit 7 = .ok (.aload_n 0, 1) := by decide +kernel
theorem d_Rm_hit_8 : decode b_Rm_hit 8 = .ok (.getfield 51, 3) := by decide +kernel
theorem d_Rm_hit_11 : decode b_Rm_hit 11 = .ok (.iload_n 1, 1) := by decide +kernel
theorem d_Rm_hit_12 : decode b_Rm_hit 12 = .ok (.iload_n 2, 1) := by decide +kernel
theorem d_Rm_hit_13 : decode b_Rm_hit 13 = .ok (.invokevirtual 187, 3) := by decide +kernel
theorem d_Rm_hit_16 : decode b_Rm_hit 16 = .ok (.goto 4, 3) := by decide +kernel
theorem d_Rm_hit_19 : decode b_Rm_hit 19 = .ok (.iconst (-1), 1) := by decide +kernel
theorem d_Rm_hit_20 : decode b_Rm_hit 20 = .ok (.ireturn, 1) := by decide +kernel
theorem d_Rm_image_0 : decode b_Rm_image 0 = .ok (.aload_n 0, 1) := by decide +kernel
theorem d_Rm_image_1 : decode b_Rm_image 1 = .ok (.getfield 62, 3) := by decide +kernel
theorem d_Rm_image_4 : decode b_Rm_image 4 = .ok (.iload_n 1, 1) := by decide +kernel
theorem d_Rm_image_5 : decode b_Rm_image 5 = .ok (.invokevirtual 196, 3) := by decide +kernel
theorem d_Rm_image_8 : decode b_Rm_image 8 = .ok (.ireturn, 1) := by decide +kernel
theorem d_Rm_spoil_0 : decode b_Rm_spoil 0 = .ok (.aload_n 0, 1) := by decide +kernel
theorem d_Rm_spoil_1 : decode b_Rm_spoil 1 = .ok (.getfield 62, 3) := by decide +kernel
theorem d_Rm_spoil_4 : decode b_Rm_spoil 4 = .ok (.iload_n 1, 1) := by decide +kernel
theorem d_Rm_spoil_5 : decode b_Rm_spoil 5 = .ok (.invokevirtual 196, 3) := by decide +kernel
theorem d_Rm_spoil_8 : decode b_Rm_spoil 8 = .ok (.istore_n 3, 1) := by decide +kernel
theorem d_Rm_spoil_9 : decode b_Rm_spoil 9 = .ok (.iload_n 2, 1) := by decide +kernel
theorem d_Rm_spoil_10 : decode b_Rm_spoil 10 = .ok (.sipush 255, 3) := by decide +kernel
theorem d_Rm_spoil_13 : decode b_Rm_spoil 13 = .ok (.iand, 1) := by decide +kernel
theorem d_Rm_spoil_14 : decode b_Rm_spoil 14 = .ok (.istore 4, 2) := by decide +kernel
theorem d_Rm_spoil_16 : decode b_Rm_spoil 16 = .ok (.iload_n 3, 1) := by decide +kernel
theorem d_Rm_spoil_17 : decode b_Rm_spoil 17 = .ok (.iconst (-1), 1) := by decide +kernel
theorem d_Rm_spoil_18 : decode b_Rm_spoil 18 = .ok (.if_icmp .eq 8, 3) := by decide +kernel
theorem d_Rm_spoil_21 : decode b_Rm_spoil 21 = .ok (.iload 4, 2) := by decide +kernel
theorem d_Rm_spoil_23 : decode b_Rm_spoil 23 = .ok (.ifCond .ne 5, 3) := by decide +kernel
theorem d_Rm_spoil_26 : decode b_Rm_spoil 26 = .ok (.iconst 0, 1) := by decide +kernel
theorem d_Rm_spoil_27 : decode b_Rm_spoil 27 = .ok (.ireturn, 1) := by decide +kernel
theorem d_Rm_spoil_28 : decode b_Rm_spoil 28 = .ok (.aload_n 0, 1) := by decide +kernel
theorem d_Rm_spoil_29 : decode b_Rm_spoil 29 = .ok (.getfield 62, 3) := by decide +kernel
theorem d_Rm_spoil_32 : decode b_Rm_spoil 32 = .ok (.iload_n 1, 1) := by decide +kernel
theorem d_Rm_spoil_33 : decode b_Rm_spoil 33 = .ok (.iload_n 3, 1) := by decide +kernel
theorem d_Rm_spoil_34 : decode b_Rm_spoil 34 = .ok (.iload 4, 2) := by decide +kernel
theorem d_Rm_spoil_36 : decode b_Rm_spoil 36 = .ok (.ixor, 1) := by decide +kernel
theorem d_Rm_spoil_37 : decode b_Rm_spoil 37 = .ok (.invokevirtual 203, 3) := by decide +kernel
theorem d_Rm_spoil_40 : decode b_Rm_spoil 40 = .ok (.iconst 1, 1) := by decide +kernel
theorem d_Rm_spoil_41 : decode b_Rm_spoil 41 = .ok (.ireturn, 1) := by decide +kernel
theorem d_Rm_cut_0 : decode b_Rm_cut 0 = .ok (.aload_n 0, 1) := by decide +kernel
theorem d_Rm_cut_1 : decode b_Rm_cut 1 = .ok (.getfield 62, 3) := by decide +kernel
theorem d_Rm_cut_4 : decode b_Rm_cut 4 = .ok (.invokevirtual 94, 3) := by decide +kernel
theorem d_Rm_cut_7 : decode b_Rm_cut 7 = .ok (.ifCond .ne 5, 3) := by decide +kernel
theorem d_Rm_cut_10 : decode b_Rm_cut 10 = .ok (.iconst 0, 1) := by decide +kernel
theorem d_Rm_cut_11 : decode b_Rm_cut 11 = .ok (.ireturn, 1) := by decide +kernel
theorem d_Rm_cut_12 : decode b_Rm_cut 12 = .ok (.aload_n 0, 1) := by decide +kernel
theorem d_Rm_cut_13 : decode b_Rm_cut 13 = .ok (.getfield 62, 3) := by decide +kernel
theorem d_Rm_cut_16 : decode b_Rm_cut 16 = .ok (.invokevirtual 207, 3) := by decide +kernel
theorem d_Rm_cut_19 : decode b_Rm_cut 19 = .ok (.iconst 1, 1) := by decide +kernel
theorem d_Rm_cut_20 : decode b_Rm_cut 20 = .ok (.ireturn, 1) := by decide +kernel
theorem d_Rm_write_0 : decode b_Rm_write 0 = .ok (.iconst 0, 1) := by decide +kernel
theorem d_Rm_write_1 : decode b_Rm_write 1 = .ok (.istore_n 3, 1) := by decide +kernel
theorem d_Rm_write_2 : decode b_Rm_write 2 = .ok (.bipush 56, 2) := by decide +kernel
theorem d_Rm_write_4 : decode b_Rm_write 4 = .ok (.istore 4, 2) := by decide +kernel
theorem d_Rm_write_6 : decode b_Rm_write 6 = .ok (.iload 4, 2) := by decide +kernel
theorem d_Rm_write_8 : decode b_Rm_write 8 = .ok (.ifCond .lt 41, 3) := by decide +kernel
theorem d_Rm_write_11 : decode b_Rm_write 11 = .ok (.lload_n 1, 1) := by decide +kernel
theorem d_Rm_write_12 : decode b_Rm_write 12 = .ok (.iload 4, 2) := by decide +kernel
theorem d_Rm_write_14 : decode b_Rm_write 14 = .ok (.invokestatic 75, 3) := by decide +kernel
theorem d_Rm_write_17 : decode b_Rm_write 17 = .ok (.istore 5, 2) := by decide +kernel
theorem d_Rm_write_19 : decode b_Rm_write 19 = .ok (.iload 5, 2) := by decide +kernel
theorem d_Rm_write_21 : decode b_Rm_write 21 = .ok (.ifCond .eq 22, 3) := by decide +kernel
theorem d_Rm_write_24 : decode b_Rm_write 24 = .ok (.iload 5, 2) := by decide +kernel
theorem d_Rm_write_26 : decode b_Rm_write 26 = .ok (.bipush 32, 2) := by decide +kernel
theorem d_Rm_write_28 : decode b_Rm_write 28 = .ok (.if_icmp .lt 10, 3) := by decide +kernel
theorem d_Rm_write_31 : decode b_Rm_write 31 = .ok (.iload 5, 2) := by decide +kernel
theorem d_Rm_write_33 : decode b_Rm_write 33 = .ok (.bipush 126, 2) := by decide +kernel
theorem d_Rm_write_35 : decode b_Rm_write 35 = .ok (.if_icmp .le 5, 3) := by decide +kernel
theorem d_Rm_write_38 : decode b_Rm_write 38 = .ok (.iconst 0, 1) := by decide +kernel
theorem d_Rm_write_39 : decode b_Rm_write 39 = .ok (.ireturn, 1) := by decide +kernel
theorem d_Rm_write_40 : decode b_Rm_write 40 = .ok (.iinc 3 1, 3) := by decide +kernel
theorem d_Rm_write_43 : decode b_Rm_write 43 = .ok (.iinc 4 (-8), 3) := by decide +kernel
theorem d_Rm_write_46 : decode b_Rm_write 46 = .ok (.goto (-40), 3) := by decide +kernel
theorem d_Rm_write_49 : decode b_Rm_write 49 = .ok (.iload_n 3, 1) := by decide +kernel
theorem d_Rm_write_50 : decode b_Rm_write 50 = .ok (.aload_n 0, 1) := by decide +kernel
theorem d_Rm_write_51 : decode b_Rm_write 51 = .ok (.getfield 14, 3) := by decide +kernel
theorem d_Rm_write_54 : decode b_Rm_write 54 = .ok (.invokevirtual 79, 3) := by decide +kernel
theorem d_Rm_write_57 : decode b_Rm_write 57 = .ok (.if_icmp .le 5, 3) := by decide +kernel
theorem d_Rm_write_60 : decode b_Rm_write 60 = .ok (.iconst 0, 1) := by decide +kernel
theorem d_Rm_write_61 : decode b_Rm_write 61 = .ok (.ireturn, 1) := by decide +kernel
theorem d_Rm_write_62 : decode b_Rm_write 62 = .ok (.bipush 56, 2) := by decide +kernel
theorem d_Rm_write_64 : decode b_Rm_write 64 = .ok (.istore 4, 2) := by decide +kernel
theorem d_Rm_write_66 : decode b_Rm_write 66 = .ok (.iload 4, 2) := by decide +kernel
theorem d_Rm_write_68 : decode b_Rm_write 68 = .ok (.ifCond .lt 31, 3) := by decide +kernel
theorem d_Rm_write_71 : decode b_Rm_write 71 = .ok (.lload_n 1, 1) := by decide +kernel
theorem d_Rm_write_72 : decode b_Rm_write 72 = .ok (.iload 4, 2) := by decide +kernel
theorem d_Rm_write_74 : decode b_Rm_write 74 = .ok (.invokestatic 75, 3) := by decide +kernel
theorem d_Rm_write_77 : decode b_Rm_write 77 = .ok (.istore 5, 2) := by decide +kernel
theorem d_Rm_write_79 : decode b_Rm_write 79 = .ok (.iload 5, 2) := by decide +kernel
theorem d_Rm_write_81 : decode b_Rm_write 81 = .ok (.ifCond .eq 12, 3) := by decide +kernel
theorem d_Rm_write_84 : decode b_Rm_write 84 = .ok (.aload_n 0, 1) := by decide +kernel
theorem d_Rm_write_85 : decode b_Rm_write 85 = .ok (.getfield 14, 3) := by decide +kernel
theorem d_Rm_write_88 : decode b_Rm_write 88 = .ok (.iload 5, 2) := by decide +kernel
theorem d_Rm_write_90 : decode b_Rm_write 90 = .ok (.invokevirtual 83, 3) := by decide +kernel
theorem d_Rm_write_93 : decode b_Rm_write 93 = .ok (.iinc 4 (-8), 3) := by decide +kernel
theorem d_Rm_write_96 : decode b_Rm_write 96 = .ok (.goto (-30), 3) := by decide +kernel
theorem d_Rm_write_99 : decode b_Rm_write 99 = .ok (.iconst 1, 1) := by decide +kernel
theorem d_Rm_write_100 : decode b_Rm_write 100 = .ok (.ireturn, 1) := by decide +kernel
set_option maxHeartbeats 4000000 in
set_option maxRecDepth 100000 in
theorem c_Rm_forgetQuestions (l : Launch) (D : va_G) (cA : Nat → ClassId) (K : Nat → Nat) (xa tx tn tb ia ia2 ra ra2 ha wa im du ma : Nat) (rd mp : Bool) (fo : Int32) : ck_V l y_Rm_forgetQuestions (Cond.code y_Rm_forgetQuestions b_Rm_forgetQuestions 1 none :: w_all) 1 D cA K [.ref xa] [(xa, .inr (7, [.ref tx, .ref tn, .ref tb, .ref ia, .ref ia2, .int (bz_c rd), .int fo, .ref ra, .ref ra2, .int (bz_c mp), .ref ha, .ref wa, .ref im, .ref du, .ref ma]))] (fun (u : Unit) => True) (fun u => [(xa, .inr (7, [.ref tx, .ref tn, .ref tb, .ref ia, .ref ia2, .int (bz_c rd), .int (-1), .ref ra, .ref ra2, .int (bz_c false), .ref ha, .ref wa, .ref im, .ref du, .ref ma]))]) := by
  refine ck_mkV (by decide) (Nat.le_of_ble_eq_true rfl) ?_
  intro pG eG sG mG argsG belowG methG cG Q A H locs ls hx hb hml hown hts hK hE hA hP hD hS hl hret
  have hl : lv_has ls 1 [(0, .ref xa)] := hl
  refine lv_aload_n hx hb d_Rm_forgetQuestions_0 rfl (lv_at hl 0 rfl) ?_
  refine lv_iconst (v := (-1)) hx hb d_Rm_forgetQuestions_1 (by decide) ?_
  refine va_put (D := D) (ci := 7) (v := .int (-1)) (ty := .int) (C := RX7) (T := TX7) (N := 15) hx hb hts inX7 tyX7 tyX7_ok nmX7 hown hK hP hD hS 0 rfl rfl 6 (by decide) (hts _ m_192) (fun _ h9 => h9) rfl (by decide +kernel) rfl rfl (Nat.le_of_ble_eq_true rfl) d_Rm_forgetQuestions_2 (fun H locs hP hD hS => ?_)
  have hP : va_P D vwCl [(xa, .inr (7, [.ref tx, .ref tn, .ref tb, .ref ia, .ref ia2, .int (bz_c rd), .int (-1), .ref ra, .ref ra2, .int (bz_c mp), .ref ha, .ref wa, .ref im, .ref du, .ref ma]))] H := hP
  have hD : va_D A [(xa, .inr (7, [.ref tx, .ref tn, .ref tb, .ref ia, .ref ia2, .int (bz_c rd), .int (-1), .ref ra, .ref ra2, .int (bz_c mp), .ref ha, .ref wa, .ref im, .ref du, .ref ma]))] := hD
  refine lv_aload_n hx hb d_Rm_forgetQuestions_5 rfl (lv_at hl 0 rfl) ?_
  refine lv_iconst (v := 0) hx hb d_Rm_forgetQuestions_6 (by decide) ?_
  refine va_put (D := D) (ci := 7) (v := .int 0) (ty := .boolean) (C := RX7) (T := TX7) (N := 15) hx hb hts inX7 tyX7 tyX7_ok nmX7 hown hK hP hD hS 0 rfl rfl 9 (by decide) (hts _ m_195) (fun _ h9 => h9) rfl (by decide +kernel) rfl rfl (Nat.le_of_ble_eq_true rfl) d_Rm_forgetQuestions_7 (fun H locs hP hD hS => ?_)
  have hP : va_P D vwCl [(xa, .inr (7, [.ref tx, .ref tn, .ref tb, .ref ia, .ref ia2, .int (bz_c rd), .int (-1), .ref ra, .ref ra2, .int 0, .ref ha, .ref wa, .ref im, .ref du, .ref ma]))] H := hP
  have hD : va_D A [(xa, .inr (7, [.ref tx, .ref tn, .ref tb, .ref ia, .ref ia2, .int (bz_c rd), .int (-1), .ref ra, .ref ra2, .int 0, .ref ha, .ref wa, .ref im, .ref du, .ref ma]))] := hD
  exact hret () _ _ _ 10 d_Rm_forgetQuestions_10 trivial hP hD hS
theorem k_Rm_forgetQuestions : cf_V y_Rm_forgetQuestions b_Rm_forgetQuestions 1 none "ReadMapper" 0 := ⟨⟨m_253, (wm_s (q := (y_Rm_forgetQuestions, 15)) (by decide +kernel)), m_1, m_254⟩, by decide +kernel⟩
set_option maxHeartbeats 4000000 in
set_option maxRecDepth 100000 in
theorem c_Rm_drop (l : Launch) (D : va_G) (cA : Nat → ClassId) (K : Nat → Nat) (xa tx tn tb ia ia2 ra ra2 ha wa im du ma : Nat) (rd mp : Bool) (fo : Int32) : ck_I l y_Rm_drop (Cond.code y_Rm_drop b_Rm_drop 1 (some .boolean) :: w_all) 2 D cA K [.ref xa] [(xa, .inr (7, [.ref tx, .ref tn, .ref tb, .ref ia, .ref ia2, .int (bz_c rd), .int fo, .ref ra, .ref ra2, .int (bz_c mp), .ref ha, .ref wa, .ref im, .ref du, .ref ma]))] (fun (r : Int32) (u : (Int32) × (Int32) × (Int32)) => (r = 1 ∧ rd = true ∧ u.1 = 0 ∧ u.2.1 = -1 ∧ u.2.2 = 0) ∨ (r = 0 ∧ rd = false ∧ u.1 = bz_c rd ∧ u.2.1 = fo ∧ u.2.2 = bz_c mp)) (fun u => [(xa, .inr (7, [.ref tx, .ref tn, .ref tb, .ref ia, .ref ia2, .int u.1, .int u.2.1, .ref ra, .ref ra2, .int u.2.2, .ref ha, .ref wa, .ref im, .ref du, .ref ma]))]) := by
  refine ck_mkI (by decide) (fun r u h => by rcases h with ⟨rfl, _⟩ | ⟨rfl, _⟩ <;> rfl) (Nat.le_of_ble_eq_true rfl) ?_
  intro pG eG sG mG argsG belowG methG cG Q A H locs ls hx hb hml hown hts hK hE hA hP hD hS hl hret
  have hl : lv_has ls 1 [(0, .ref xa)] := hl
  refine lv_aload_n hx hb d_Rm_drop_0 rfl (lv_at hl 0 rfl) ?_
  refine va_get (C := RX7) (T := TX7) (N := 15) hx hb hts inX7 hown hK hP 0 rfl rfl 5 (by decide) (hts _ m_191) (fun _ h9 => h9) rfl d_Rm_drop_1 ?_
  refine lv_if_ne (tgt := 9) hx hb d_Rm_drop_4 (by decide) ?_ ?_
  · intro h4
    refine lv_aload_n hx hb d_Rm_drop_9 rfl (lv_at hl 0 rfl) ?_
    refine lv_iconst (v := 0) hx hb d_Rm_drop_10 (by decide) ?_
    refine va_put (D := D) (ci := 7) (v := .int 0) (ty := .boolean) (C := RX7) (T := TX7) (N := 15) hx hb hts inX7 tyX7 tyX7_ok nmX7 hown hK hP hD hS 0 rfl rfl 5 (by decide) (hts _ m_191) (fun _ h9 => h9) rfl (by decide +kernel) rfl rfl (Nat.le_of_ble_eq_true rfl) d_Rm_drop_11 (fun H locs hP hD hS => ?_)
    have hP : va_P D vwCl [(xa, .inr (7, [.ref tx, .ref tn, .ref tb, .ref ia, .ref ia2, .int 0, .int fo, .ref ra, .ref ra2, .int (bz_c mp), .ref ha, .ref wa, .ref im, .ref du, .ref ma]))] H := hP
    have hD : va_D A [(xa, .inr (7, [.ref tx, .ref tn, .ref tb, .ref ia, .ref ia2, .int 0, .int fo, .ref ra, .ref ra2, .int (bz_c mp), .ref ha, .ref wa, .ref im, .ref du, .ref ma]))] := hD
    have hP : va_P D vwCl [(xa, .inr (7, [.ref tx, .ref tn, .ref tb, .ref ia, .ref ia2, .int (bz_c false), .int fo, .ref ra, .ref ra2, .int (bz_c mp), .ref ha, .ref wa, .ref im, .ref du, .ref ma]))] H := id hP
    have hD : va_D A [(xa, .inr (7, [.ref tx, .ref tn, .ref tb, .ref ia, .ref ia2, .int (bz_c false), .int fo, .ref ra, .ref ra2, .int (bz_c mp), .ref ha, .ref wa, .ref im, .ref du, .ref ma]))] := id hD
    refine lv_aload_n hx hb d_Rm_drop_14 rfl (lv_at hl 0 rfl) ?_
    refine ck_cVv (C := "ReadMapper") (ci := 7) (rest := []) (wr := []) (ws2 := fun u => [(xa, .inr (7, [.ref tx, .ref tn, .ref tb, .ref ia, .ref ia2, .int (bz_c false), .int (-1), .ref ra, .ref ra2, .int (bz_c false), .ref ha, .ref wa, .ref im, .ref du, .ref ma]))]) (c_Rm_forgetQuestions l D cA K xa tx tn tb ia ia2 ra ra2 ha wa im du ma false mp fo ) hx hb hml hown hts hK hE hA hP hD hS k_Rm_forgetQuestions m_251 (by decide) 0 rfl rfl rfl hl.1 rfl (Nat.le_of_ble_eq_true rfl) d_Rm_drop_15  [0] [] [0] rfl rfl (by decide) (fun _ => rfl) (fun u15 H locs hq15 hP hD hS => ?_)
    try dsimp only at hq15
    have hP : va_P D vwCl [(xa, .inr (7, [.ref tx, .ref tn, .ref tb, .ref ia, .ref ia2, .int (bz_c false), .int (-1), .ref ra, .ref ra2, .int (bz_c false), .ref ha, .ref wa, .ref im, .ref du, .ref ma]))] H := hP
    have hD : va_D A [(xa, .inr (7, [.ref tx, .ref tn, .ref tb, .ref ia, .ref ia2, .int (bz_c false), .int (-1), .ref ra, .ref ra2, .int (bz_c false), .ref ha, .ref wa, .ref im, .ref du, .ref ma]))] := hD
    refine lv_iconst (v := 1) hx hb d_Rm_drop_18 (by decide) ?_
    exact hret 1 (bz_c false, -1, bz_c false) _ _ _ 19 d_Rm_drop_19 (Or.inl ⟨rfl, bz_1 h4, rfl, rfl, rfl⟩) hP hD hS
  · intro h4
    refine lv_iconst (v := 0) hx hb d_Rm_drop_7 (by decide) ?_
    exact hret 0 (bz_c rd, fo, bz_c mp) _ _ _ 8 d_Rm_drop_8 (Or.inr ⟨rfl, (bz_0 h4), rfl, rfl, rfl⟩) hP hD hS
theorem k_Rm_drop : cf_V y_Rm_drop b_Rm_drop 1 (some .boolean) "ReadMapper" 0 := ⟨⟨m_248, m_249, m_1, m_250⟩, by decide +kernel⟩
set_option maxHeartbeats 4000000 in
set_option maxRecDepth 100000 in
theorem c_Rm_steps (l : Launch) (D : va_G) (cA : Nat → ClassId) (K : Nat → Nat) (xa tx tn tb ia ia2 ra ra2 ha wa im du ma : Nat) (rd mp : Bool) (fo : Int32) (ix it ik rt : Nat) (pa pn ps pln pr : Nat) (num pl : Nat) (sf : Nat → Int32) (sa : Nat → Nat) (i : Int32) (hr9 : rd = true → pl ≤ 65 ∧ (0 < rt ∧ rt ≤ 8) ∧ ∀ j, j < pl → sf j = nI (sa j) ∧ sa j < pl) : ck_I l y_Rm_steps (Cond.code y_Rm_steps b_Rm_steps 2 (some .int) :: w_all) 4 D cA K [.ref xa, .int i] [(xa, .inr (7, [.ref tx, .ref tn, .ref tb, .ref ia, .ref ia2, .int (bz_c rd), .int fo, .ref ra, .ref ra2, .int (bz_c mp), .ref ha, .ref wa, .ref im, .ref du, .ref ma])), (ia, .inr (3, [.ref pa, .ref ix, .ref it, .ref ik, .int (nI rt)])), (pa, .inr (4, [.ref pn, .ref ps, .ref pln, .ref pr, .int (nI num), .int (nI pl)])), (ix, .inl (cA 0, 65, .inl sf))] (fun (r : Int32) (u : Unit) => r = if rd = true then px_c pl (fun j => nI (sa j % rt)) i else -1) (fun u => [(xa, .inr (7, [.ref tx, .ref tn, .ref tb, .ref ia, .ref ia2, .int (bz_c rd), .int fo, .ref ra, .ref ra2, .int (bz_c mp), .ref ha, .ref wa, .ref im, .ref du, .ref ma])), (ia, .inr (3, [.ref pa, .ref ix, .ref it, .ref ik, .int (nI rt)])), (pa, .inr (4, [.ref pn, .ref ps, .ref pln, .ref pr, .int (nI num), .int (nI pl)])), (ix, .inl (cA 0, 65, .inl sf))]) := by
  refine ck_mkI (by decide) (fun _ _ _ => rfl) (Nat.le_of_ble_eq_true rfl) ?_
  intro pG eG sG mG argsG belowG methG cG Q A H locs ls hx hb hml hown hts hK hE hA hP hD hS hl hret
  have hl : lv_has ls 2 [(0, .ref xa), (1, .int i)] := hl
  refine lv_aload_n hx hb d_Rm_steps_0 rfl (lv_at hl 0 rfl) ?_
  refine va_get (C := RX7) (T := TX7) (N := 15) hx hb hts inX7 hown hK hP 0 rfl rfl 5 (by decide) (hts _ m_191) (fun _ h9 => h9) rfl d_Rm_steps_1 ?_
  refine lv_if_eq (tgt := 18) hx hb d_Rm_steps_4 (by decide) ?_ ?_
  · intro h4
    refine lv_iconst (v := (-1)) hx hb d_Rm_steps_18 (by decide) ?_
    exact hret (-1) () _ _ _ 19 d_Rm_steps_19 (by first | exact (if_pos (bz_1 h4)).symm | exact (if_neg (bz_n h4)).symm) hP hD hS
  · intro h4
    obtain ⟨hpl, hrt, hsf⟩ := hr9 (bz_1 h4)
    refine lv_aload_n hx hb d_Rm_steps_7 rfl (lv_at hl 0 rfl) ?_
    refine va_get (C := RX7) (T := TX7) (N := 15) hx hb hts inX7 hown hK hP 0 rfl rfl 3 (by decide) (hts _ m_189) (fun _ h9 => h9) rfl d_Rm_steps_8 ?_
    refine lv_iload_n hx hb d_Rm_steps_11 rfl (lv_at hl 1 rfl) ?_
    refine ck_cV (C := "ReadMapper$Index") (ci := 3) (rest := []) (wr := [(xa, .inr (7, [.ref tx, .ref tn, .ref tb, .ref ia, .ref ia2, .int (bz_c rd), .int fo, .ref ra, .ref ra2, .int (bz_c mp), .ref ha, .ref wa, .ref im, .ref du, .ref ma]))]) (ws2 := fun u => [(xa, .inr (7, [.ref tx, .ref tn, .ref tb, .ref ia, .ref ia2, .int (bz_c rd), .int fo, .ref ra, .ref ra2, .int (bz_c mp), .ref ha, .ref wa, .ref im, .ref du, .ref ma])), (ia, .inr (3, [.ref pa, .ref ix, .ref it, .ref ik, .int (nI rt)])), (pa, .inr (4, [.ref pn, .ref ps, .ref pln, .ref pr, .int (nI num), .int (nI pl)])), (ix, .inl (cA 0, 65, .inl sf))]) (c_In_stepsTo l D cA K ia ix it ik rt pa pn ps pln pr num pl sf sa i (by first | assumption | omega) (by first | assumption | omega) (by first | assumption | omega)) hx hb hml hown hts hK hE hA hP hD hS k_In_stepsTo m_259 (by decide) 1 rfl rfl rfl hl.1 rfl (Nat.le_of_ble_eq_true rfl) d_Rm_steps_12  [1, 2, 3] [0] [0, 1, 2, 3] rfl rfl (by decide) (fun _ => rfl) (fun r12 u12 H locs hq12 hP hD hS => ?_)
    try dsimp only at hq12
    have hP : va_P D vwCl [(xa, .inr (7, [.ref tx, .ref tn, .ref tb, .ref ia, .ref ia2, .int (bz_c rd), .int fo, .ref ra, .ref ra2, .int (bz_c mp), .ref ha, .ref wa, .ref im, .ref du, .ref ma])), (ia, .inr (3, [.ref pa, .ref ix, .ref it, .ref ik, .int (nI rt)])), (pa, .inr (4, [.ref pn, .ref ps, .ref pln, .ref pr, .int (nI num), .int (nI pl)])), (ix, .inl (cA 0, 65, .inl sf))] H := hP
    have hD : va_D A [(xa, .inr (7, [.ref tx, .ref tn, .ref tb, .ref ia, .ref ia2, .int (bz_c rd), .int fo, .ref ra, .ref ra2, .int (bz_c mp), .ref ha, .ref wa, .ref im, .ref du, .ref ma])), (ia, .inr (3, [.ref pa, .ref ix, .ref it, .ref ik, .int (nI rt)])), (pa, .inr (4, [.ref pn, .ref ps, .ref pln, .ref pr, .int (nI num), .int (nI pl)])), (ix, .inl (cA 0, 65, .inl sf))] := hD
    subst r12
    refine lv_goto (tgt := 19) hx hb d_Rm_steps_15 (by decide) ?_
    exact hret (px_c pl (fun j => nI (sa j % rt)) i) () _ _ _ 19 d_Rm_steps_19 (by first | exact (if_pos (bz_1 h4)).symm | exact (if_neg (bz_n h4)).symm) hP hD hS
theorem k_Rm_steps : cf_V y_Rm_steps b_Rm_steps 2 (some .int) "ReadMapper" 1 := ⟨⟨m_256, m_257, m_1, m_258⟩, by decide +kernel⟩
set_option maxHeartbeats 4000000 in
set_option maxRecDepth 100000 in
theorem c_Rm_turned (l : Launch) (D : va_G) (cA : Nat → ClassId) (K : Nat → Nat) (xa tx tn tb ia ia2 ra ra2 ha wa im du ma : Nat) (rd mp : Bool) (fo : Int32) (ix it ik rt : Nat) (pa pn ps pln pr : Nat) (num pl : Nat) (tr : Nat → Int32) (i : Int32) (hr9 : rd = true → pl ≤ 65) : ck_I l y_Rm_turned (Cond.code y_Rm_turned b_Rm_turned 2 (some .int) :: w_all) 4 D cA K [.ref xa, .int i] [(xa, .inr (7, [.ref tx, .ref tn, .ref tb, .ref ia, .ref ia2, .int (bz_c rd), .int fo, .ref ra, .ref ra2, .int (bz_c mp), .ref ha, .ref wa, .ref im, .ref du, .ref ma])), (ia, .inr (3, [.ref pa, .ref ix, .ref it, .ref ik, .int (nI rt)])), (pa, .inr (4, [.ref pn, .ref ps, .ref pln, .ref pr, .int (nI num), .int (nI pl)])), (it, .inl (cA 0, 65, .inl tr))] (fun (r : Int32) (u : Unit) => r = if rd = true then px_c pl tr i else -1) (fun u => [(xa, .inr (7, [.ref tx, .ref tn, .ref tb, .ref ia, .ref ia2, .int (bz_c rd), .int fo, .ref ra, .ref ra2, .int (bz_c mp), .ref ha, .ref wa, .ref im, .ref du, .ref ma])), (ia, .inr (3, [.ref pa, .ref ix, .ref it, .ref ik, .int (nI rt)])), (pa, .inr (4, [.ref pn, .ref ps, .ref pln, .ref pr, .int (nI num), .int (nI pl)])), (it, .inl (cA 0, 65, .inl tr))]) := by
  refine ck_mkI (by decide) (fun _ _ _ => rfl) (Nat.le_of_ble_eq_true rfl) ?_
  intro pG eG sG mG argsG belowG methG cG Q A H locs ls hx hb hml hown hts hK hE hA hP hD hS hl hret
  have hl : lv_has ls 2 [(0, .ref xa), (1, .int i)] := hl
  refine lv_aload_n hx hb d_Rm_turned_0 rfl (lv_at hl 0 rfl) ?_
  refine va_get (C := RX7) (T := TX7) (N := 15) hx hb hts inX7 hown hK hP 0 rfl rfl 5 (by decide) (hts _ m_191) (fun _ h9 => h9) rfl d_Rm_turned_1 ?_
  refine lv_if_eq (tgt := 18) hx hb d_Rm_turned_4 (by decide) ?_ ?_
  · intro h4
    refine lv_iconst (v := (-1)) hx hb d_Rm_turned_18 (by decide) ?_
    exact hret (-1) () _ _ _ 19 d_Rm_turned_19 (by first | exact (if_pos (bz_1 h4)).symm | exact (if_neg (bz_n h4)).symm) hP hD hS
  · intro h4
    have hpl := hr9 (bz_1 h4)
    refine lv_aload_n hx hb d_Rm_turned_7 rfl (lv_at hl 0 rfl) ?_
    refine va_get (C := RX7) (T := TX7) (N := 15) hx hb hts inX7 hown hK hP 0 rfl rfl 3 (by decide) (hts _ m_189) (fun _ h9 => h9) rfl d_Rm_turned_8 ?_
    refine lv_iload_n hx hb d_Rm_turned_11 rfl (lv_at hl 1 rfl) ?_
    refine ck_cV (C := "ReadMapper$Index") (ci := 3) (rest := []) (wr := [(xa, .inr (7, [.ref tx, .ref tn, .ref tb, .ref ia, .ref ia2, .int (bz_c rd), .int fo, .ref ra, .ref ra2, .int (bz_c mp), .ref ha, .ref wa, .ref im, .ref du, .ref ma]))]) (ws2 := fun u => [(xa, .inr (7, [.ref tx, .ref tn, .ref tb, .ref ia, .ref ia2, .int (bz_c rd), .int fo, .ref ra, .ref ra2, .int (bz_c mp), .ref ha, .ref wa, .ref im, .ref du, .ref ma])), (ia, .inr (3, [.ref pa, .ref ix, .ref it, .ref ik, .int (nI rt)])), (pa, .inr (4, [.ref pn, .ref ps, .ref pln, .ref pr, .int (nI num), .int (nI pl)])), (it, .inl (cA 0, 65, .inl tr))]) (c_In_symbolBefore l D cA K ia ix it ik rt pa pn ps pln pr num pl tr i (by first | assumption | omega)) hx hb hml hown hts hK hE hA hP hD hS k_In_symbolBefore m_275 (by decide) 1 rfl rfl rfl hl.1 rfl (Nat.le_of_ble_eq_true rfl) d_Rm_turned_12  [1, 2, 3] [0] [0, 1, 2, 3] rfl rfl (by decide) (fun _ => rfl) (fun r12 u12 H locs hq12 hP hD hS => ?_)
    try dsimp only at hq12
    have hP : va_P D vwCl [(xa, .inr (7, [.ref tx, .ref tn, .ref tb, .ref ia, .ref ia2, .int (bz_c rd), .int fo, .ref ra, .ref ra2, .int (bz_c mp), .ref ha, .ref wa, .ref im, .ref du, .ref ma])), (ia, .inr (3, [.ref pa, .ref ix, .ref it, .ref ik, .int (nI rt)])), (pa, .inr (4, [.ref pn, .ref ps, .ref pln, .ref pr, .int (nI num), .int (nI pl)])), (it, .inl (cA 0, 65, .inl tr))] H := hP
    have hD : va_D A [(xa, .inr (7, [.ref tx, .ref tn, .ref tb, .ref ia, .ref ia2, .int (bz_c rd), .int fo, .ref ra, .ref ra2, .int (bz_c mp), .ref ha, .ref wa, .ref im, .ref du, .ref ma])), (ia, .inr (3, [.ref pa, .ref ix, .ref it, .ref ik, .int (nI rt)])), (pa, .inr (4, [.ref pn, .ref ps, .ref pln, .ref pr, .int (nI num), .int (nI pl)])), (it, .inl (cA 0, 65, .inl tr))] := hD
    subst r12
    refine lv_goto (tgt := 19) hx hb d_Rm_turned_15 (by decide) ?_
    exact hret (px_c pl tr i) () _ _ _ 19 d_Rm_turned_19 (by first | exact (if_pos (bz_1 h4)).symm | exact (if_neg (bz_n h4)).symm) hP hD hS
theorem k_Rm_turned : cf_V y_Rm_turned b_Rm_turned 2 (some .int) "ReadMapper" 1 := ⟨⟨m_272, m_273, m_1, m_274⟩, by decide +kernel⟩
set_option maxHeartbeats 4000000 in
set_option maxRecDepth 100000 in
theorem c_Rm_occ (l : Launch) (D : va_G) (cA : Nat → ClassId) (K : Nat → Nat) (xa tx tn tb ia ia2 ra ra2 ha wa im du ma : Nat) (rd mp : Bool) (fo : Int32) (ix it ik rt : Nat) (pa pn ps pln pr : Nat) (num pl : Nat) (tr : Nat → Int32) (x i : Int32) (hr9 : rd = true → pl ≤ 65) : ck_I l y_Rm_occ (Cond.code y_Rm_occ b_Rm_occ 3 (some .int) :: w_all) 3 D cA K [.ref xa, .int x, .int i] [(xa, .inr (7, [.ref tx, .ref tn, .ref tb, .ref ia, .ref ia2, .int (bz_c rd), .int fo, .ref ra, .ref ra2, .int (bz_c mp), .ref ha, .ref wa, .ref im, .ref du, .ref ma])), (ia, .inr (3, [.ref pa, .ref ix, .ref it, .ref ik, .int (nI rt)])), (pa, .inr (4, [.ref pn, .ref ps, .ref pln, .ref pr, .int (nI num), .int (nI pl)])), (it, .inl (cA 0, 65, .inl tr))] (fun (r : Int32) (u : Unit) => ((rd = true ∧ (¬ x < 0 ∧ ¬ nI 7 ≤ x) ∧ (¬ i < 0 ∧ i ≤ nI pl)) ∧ r = nI (ct_c tr x i.toNatClampNeg)) ∨ (¬ (rd = true ∧ (¬ x < 0 ∧ ¬ nI 7 ≤ x) ∧ (¬ i < 0 ∧ i ≤ nI pl)) ∧ r = -1)) (fun u => [(xa, .inr (7, [.ref tx, .ref tn, .ref tb, .ref ia, .ref ia2, .int (bz_c rd), .int fo, .ref ra, .ref ra2, .int (bz_c mp), .ref ha, .ref wa, .ref im, .ref du, .ref ma])), (ia, .inr (3, [.ref pa, .ref ix, .ref it, .ref ik, .int (nI rt)])), (pa, .inr (4, [.ref pn, .ref ps, .ref pln, .ref pr, .int (nI num), .int (nI pl)])), (it, .inl (cA 0, 65, .inl tr))]) := by
  refine ck_mkI (by decide) (fun _ _ _ => rfl) (Nat.le_of_ble_eq_true rfl) ?_
  intro pG eG sG mG argsG belowG methG cG Q A H locs ls hx hb hml hown hts hK hE hA hP hD hS hl hret
  have hl : lv_has ls 3 [(0, .ref xa), (1, .int x), (2, .int i)] := hl
  refine lv_aload_n hx hb d_Rm_occ_0 rfl (lv_at hl 0 rfl) ?_
  refine va_get (C := RX7) (T := TX7) (N := 15) hx hb hts inX7 hown hK hP 0 rfl rfl 5 (by decide) (hts _ m_191) (fun _ h9 => h9) rfl d_Rm_occ_1 ?_
  refine lv_if_eq (tgt := 35) hx hb d_Rm_occ_4 (by decide) ?_ ?_
  · intro h4
    refine lv_iconst (v := (-1)) hx hb d_Rm_occ_35 (by decide) ?_
    exact hret (-1) () _ _ _ 36 d_Rm_occ_36 (by first | exact Or.inr ⟨fun z => bz_n h4 z.1, rfl⟩ | exact Or.inr ⟨fun z => z.2.1.1 h8, rfl⟩ | exact Or.inr ⟨fun z => z.2.1.2 h17, rfl⟩ | exact Or.inr ⟨fun z => z.2.2.1 h21, rfl⟩ | exact Or.inr ⟨fun z => h32 z.2.2.2, rfl⟩) hP hD hS
  · intro h4
    refine lv_iload_n hx hb d_Rm_occ_7 rfl (lv_at hl 1 rfl) ?_
    refine lv_if_lt (tgt := 35) hx hb d_Rm_occ_8 (by decide) ?_ ?_
    · intro h8
      refine lv_iconst (v := (-1)) hx hb d_Rm_occ_35 (by decide) ?_
      exact hret (-1) () _ _ _ 36 d_Rm_occ_36 (by first | exact Or.inr ⟨fun z => bz_n h4 z.1, rfl⟩ | exact Or.inr ⟨fun z => z.2.1.1 h8, rfl⟩ | exact Or.inr ⟨fun z => z.2.1.2 h17, rfl⟩ | exact Or.inr ⟨fun z => z.2.2.1 h21, rfl⟩ | exact Or.inr ⟨fun z => h32 z.2.2.2, rfl⟩) hP hD hS
    · intro h8
      refine lv_iload_n hx hb d_Rm_occ_11 rfl (lv_at hl 1 rfl) ?_
      refine va_ldcS hx hb hown (hE.2.1 ("ReadMapper", 159, "#$ACGNT", 0) (by decide)) d_Rm_occ_12 ?_
      refine ck_cVx (C := "java/lang/String") (rest := [.int x]) (wr := [(xa, .inr (7, [.ref tx, .ref tn, .ref tb, .ref ia, .ref ia2, .int (bz_c rd), .int fo, .ref ra, .ref ra2, .int (bz_c mp), .ref ha, .ref wa, .ref im, .ref du, .ref ma])), (ia, .inr (3, [.ref pa, .ref ix, .ref it, .ref ik, .int (nI rt)])), (pa, .inr (4, [.ref pn, .ref ps, .ref pln, .ref pr, .int (nI num), .int (nI pl)])), (it, .inl (cA 0, 65, .inl tr))]) (ws2 := fun u => [(xa, .inr (7, [.ref tx, .ref tn, .ref tb, .ref ia, .ref ia2, .int (bz_c rd), .int fo, .ref ra, .ref ra2, .int (bz_c mp), .ref ha, .ref wa, .ref im, .ref du, .ref ma])), (ia, .inr (3, [.ref pa, .ref ix, .ref it, .ref ik, .int (nI rt)])), (pa, .inr (4, [.ref pn, .ref ps, .ref pln, .ref pr, .int (nI num), .int (nI pl)])), (it, .inl (cA 0, 65, .inl tr))]) (c_Str_length l D cA K 0 (by decide)) hx hb hml hown hts hK hE hA hP hD hS k_Str_length m_284 (by decide) (vk_recv (adK := fun i => K (10 + i)) (i := 0) hE.2.2.2.2.2.2.1 (by decide) hS) rfl hl.1 rfl (Nat.le_of_ble_eq_true rfl) d_Rm_occ_14 [] [0, 1, 2, 3] [0, 1, 2, 3] rfl rfl (by decide) (fun _ => rfl) (fun r14 u14 H locs hq14 hP hD hS => ?_)
      try dsimp only at hq14
      subst hq14
      refine wn_nat (b := 7) rfl ?_
      have hP : va_P D vwCl [(xa, .inr (7, [.ref tx, .ref tn, .ref tb, .ref ia, .ref ia2, .int (bz_c rd), .int fo, .ref ra, .ref ra2, .int (bz_c mp), .ref ha, .ref wa, .ref im, .ref du, .ref ma])), (ia, .inr (3, [.ref pa, .ref ix, .ref it, .ref ik, .int (nI rt)])), (pa, .inr (4, [.ref pn, .ref ps, .ref pln, .ref pr, .int (nI num), .int (nI pl)])), (it, .inl (cA 0, 65, .inl tr))] H := hP
      have hD : va_D A [(xa, .inr (7, [.ref tx, .ref tn, .ref tb, .ref ia, .ref ia2, .int (bz_c rd), .int fo, .ref ra, .ref ra2, .int (bz_c mp), .ref ha, .ref wa, .ref im, .ref du, .ref ma])), (ia, .inr (3, [.ref pa, .ref ix, .ref it, .ref ik, .int (nI rt)])), (pa, .inr (4, [.ref pn, .ref ps, .ref pln, .ref pr, .int (nI num), .int (nI pl)])), (it, .inl (cA 0, 65, .inl tr))] := hD
      refine lv_icmp_ge (tgt := 35) hx hb d_Rm_occ_17 (by decide) ?_ ?_
      · intro h17
        refine lv_iconst (v := (-1)) hx hb d_Rm_occ_35 (by decide) ?_
        exact hret (-1) () _ _ _ 36 d_Rm_occ_36 (by first | exact Or.inr ⟨fun z => bz_n h4 z.1, rfl⟩ | exact Or.inr ⟨fun z => z.2.1.1 h8, rfl⟩ | exact Or.inr ⟨fun z => z.2.1.2 h17, rfl⟩ | exact Or.inr ⟨fun z => z.2.2.1 h21, rfl⟩ | exact Or.inr ⟨fun z => h32 z.2.2.2, rfl⟩) hP hD hS
      · intro h17
        refine lv_iload_n hx hb d_Rm_occ_20 rfl (lv_at hl 2 rfl) ?_
        refine lv_if_lt (tgt := 35) hx hb d_Rm_occ_21 (by decide) ?_ ?_
        · intro h21
          refine lv_iconst (v := (-1)) hx hb d_Rm_occ_35 (by decide) ?_
          exact hret (-1) () _ _ _ 36 d_Rm_occ_36 (by first | exact Or.inr ⟨fun z => bz_n h4 z.1, rfl⟩ | exact Or.inr ⟨fun z => z.2.1.1 h8, rfl⟩ | exact Or.inr ⟨fun z => z.2.1.2 h17, rfl⟩ | exact Or.inr ⟨fun z => z.2.2.1 h21, rfl⟩ | exact Or.inr ⟨fun z => h32 z.2.2.2, rfl⟩) hP hD hS
        · intro h21
          refine lv_iload_n hx hb d_Rm_occ_24 rfl (lv_at hl 2 rfl) ?_
          refine lv_aload_n hx hb d_Rm_occ_25 rfl (lv_at hl 0 rfl) ?_
          refine va_get (C := RX7) (T := TX7) (N := 15) hx hb hts inX7 hown hK hP 0 rfl rfl 3 (by decide) (hts _ m_189) (fun _ h9 => h9) rfl d_Rm_occ_26 ?_
          refine ck_cV (C := "ReadMapper$Index") (ci := 3) (rest := [.int i]) (wr := [(xa, .inr (7, [.ref tx, .ref tn, .ref tb, .ref ia, .ref ia2, .int (bz_c rd), .int fo, .ref ra, .ref ra2, .int (bz_c mp), .ref ha, .ref wa, .ref im, .ref du, .ref ma])), (it, .inl (cA 0, 65, .inl tr))]) (ws2 := fun u => [(xa, .inr (7, [.ref tx, .ref tn, .ref tb, .ref ia, .ref ia2, .int (bz_c rd), .int fo, .ref ra, .ref ra2, .int (bz_c mp), .ref ha, .ref wa, .ref im, .ref du, .ref ma])), (ia, .inr (3, [.ref pa, .ref ix, .ref it, .ref ik, .int (nI rt)])), (pa, .inr (4, [.ref pn, .ref ps, .ref pln, .ref pr, .int (nI num), .int (nI pl)])), (it, .inl (cA 0, 65, .inl tr))]) (c_In_places l D cA K ia ix it ik rt pa pn ps pln pr num pl ) hx hb hml hown hts hK hE hA hP hD hS k_In_places m_294 (by decide) 1 rfl rfl rfl hl.1 rfl (Nat.le_of_ble_eq_true rfl) d_Rm_occ_29  [1, 2] [0, 3] [0, 2, 3, 1] rfl rfl (by decide) (fun _ => rfl) (fun r29 u29 H locs hq29 hP hD hS => ?_)
          try dsimp only at hq29
          have hP : va_P D vwCl [(xa, .inr (7, [.ref tx, .ref tn, .ref tb, .ref ia, .ref ia2, .int (bz_c rd), .int fo, .ref ra, .ref ra2, .int (bz_c mp), .ref ha, .ref wa, .ref im, .ref du, .ref ma])), (ia, .inr (3, [.ref pa, .ref ix, .ref it, .ref ik, .int (nI rt)])), (pa, .inr (4, [.ref pn, .ref ps, .ref pln, .ref pr, .int (nI num), .int (nI pl)])), (it, .inl (cA 0, 65, .inl tr))] H := hP
          have hD : va_D A [(xa, .inr (7, [.ref tx, .ref tn, .ref tb, .ref ia, .ref ia2, .int (bz_c rd), .int fo, .ref ra, .ref ra2, .int (bz_c mp), .ref ha, .ref wa, .ref im, .ref du, .ref ma])), (ia, .inr (3, [.ref pa, .ref ix, .ref it, .ref ik, .int (nI rt)])), (pa, .inr (4, [.ref pn, .ref ps, .ref pln, .ref pr, .int (nI num), .int (nI pl)])), (it, .inl (cA 0, 65, .inl tr))] := hD
          subst r29
          refine lv_icmp_le (tgt := 37) hx hb d_Rm_occ_32 (by decide) ?_ ?_
          · intro h32
            have hpl := hr9 (bz_1 h4)
            obtain ⟨k, hk, rfl⟩ := oc_num hpl h21 h32
            refine lv_aload_n hx hb d_Rm_occ_37 rfl (lv_at hl 0 rfl) ?_
            refine va_get (C := RX7) (T := TX7) (N := 15) hx hb hts inX7 hown hK hP 0 rfl rfl 3 (by decide) (hts _ m_189) (fun _ h9 => h9) rfl d_Rm_occ_38 ?_
            refine lv_iload_n hx hb d_Rm_occ_41 rfl (lv_at hl 1 rfl) ?_
            refine lv_iload_n hx hb d_Rm_occ_42 rfl (lv_at hl 2 rfl) ?_
            refine ck_cV (C := "ReadMapper$Index") (ci := 3) (rest := []) (wr := [(xa, .inr (7, [.ref tx, .ref tn, .ref tb, .ref ia, .ref ia2, .int (bz_c rd), .int fo, .ref ra, .ref ra2, .int (bz_c mp), .ref ha, .ref wa, .ref im, .ref du, .ref ma])), (pa, .inr (4, [.ref pn, .ref ps, .ref pln, .ref pr, .int (nI num), .int (nI pl)]))]) (ws2 := fun u => [(xa, .inr (7, [.ref tx, .ref tn, .ref tb, .ref ia, .ref ia2, .int (bz_c rd), .int fo, .ref ra, .ref ra2, .int (bz_c mp), .ref ha, .ref wa, .ref im, .ref du, .ref ma])), (ia, .inr (3, [.ref pa, .ref ix, .ref it, .ref ik, .int (nI rt)])), (pa, .inr (4, [.ref pn, .ref ps, .ref pln, .ref pr, .int (nI num), .int (nI pl)])), (it, .inl (cA 0, 65, .inl tr))]) (c_In_countBefore l D cA K ia ix it ik rt pa pn ps pln pr num pl tr x k (by first | assumption | omega)) hx hb hml hown hts hK hE hA hP hD hS k_In_countBefore m_295 (by decide) 1 rfl rfl rfl hl.1 rfl (Nat.le_of_ble_eq_true rfl) d_Rm_occ_43  [1, 3] [0, 2] [0, 2, 1, 3] rfl rfl (by decide) (fun _ => rfl) (fun r43 u43 H locs hq43 hP hD hS => ?_)
            try dsimp only at hq43
            have hP : va_P D vwCl [(xa, .inr (7, [.ref tx, .ref tn, .ref tb, .ref ia, .ref ia2, .int (bz_c rd), .int fo, .ref ra, .ref ra2, .int (bz_c mp), .ref ha, .ref wa, .ref im, .ref du, .ref ma])), (ia, .inr (3, [.ref pa, .ref ix, .ref it, .ref ik, .int (nI rt)])), (pa, .inr (4, [.ref pn, .ref ps, .ref pln, .ref pr, .int (nI num), .int (nI pl)])), (it, .inl (cA 0, 65, .inl tr))] H := hP
            have hD : va_D A [(xa, .inr (7, [.ref tx, .ref tn, .ref tb, .ref ia, .ref ia2, .int (bz_c rd), .int fo, .ref ra, .ref ra2, .int (bz_c mp), .ref ha, .ref wa, .ref im, .ref du, .ref ma])), (ia, .inr (3, [.ref pa, .ref ix, .ref it, .ref ik, .int (nI rt)])), (pa, .inr (4, [.ref pn, .ref ps, .ref pln, .ref pr, .int (nI num), .int (nI pl)])), (it, .inl (cA 0, 65, .inl tr))] := hD
            subst r43
            exact hret (nI (ct_c tr x k)) () _ _ _ 46 d_Rm_occ_46 (Or.inl ⟨⟨bz_1 h4, ⟨h8, h17⟩, h21, h32⟩, by rw [nI_clamp (by omega)]⟩) hP hD hS
          · intro h32
            refine lv_iconst (v := (-1)) hx hb d_Rm_occ_35 (by decide) ?_
            exact hret (-1) () _ _ _ 36 d_Rm_occ_36 (by first | exact Or.inr ⟨fun z => bz_n h4 z.1, rfl⟩ | exact Or.inr ⟨fun z => z.2.1.1 h8, rfl⟩ | exact Or.inr ⟨fun z => z.2.1.2 h17, rfl⟩ | exact Or.inr ⟨fun z => z.2.2.1 h21, rfl⟩ | exact Or.inr ⟨fun z => h32 z.2.2.2, rfl⟩) hP hD hS
theorem k_Rm_occ : cf_V y_Rm_occ b_Rm_occ 3 (some .int) "ReadMapper" 2 := ⟨⟨m_280, m_281, m_1, m_282⟩, by decide +kernel⟩
set_option maxHeartbeats 4000000 in
set_option maxRecDepth 100000 in
theorem c_Rm_first (l : Launch) (D : va_G) (cA : Nat → ClassId) (K : Nat → Nat) (xa tx tn tb ia ia2 ra ra2 ha wa im du ma : Nat) (rd mp : Bool) (fo : Int32) : ck_I l y_Rm_first (Cond.code y_Rm_first b_Rm_first 1 (some .int) :: w_all) 1 D cA K [.ref xa] [(xa, .inr (7, [.ref tx, .ref tn, .ref tb, .ref ia, .ref ia2, .int (bz_c rd), .int fo, .ref ra, .ref ra2, .int (bz_c mp), .ref ha, .ref wa, .ref im, .ref du, .ref ma]))] (fun (r : Int32) (u : Unit) => r = fo) (fun u => [(xa, .inr (7, [.ref tx, .ref tn, .ref tb, .ref ia, .ref ia2, .int (bz_c rd), .int fo, .ref ra, .ref ra2, .int (bz_c mp), .ref ha, .ref wa, .ref im, .ref du, .ref ma]))]) := by
  refine ck_mkI (by decide) (fun _ _ _ => rfl) (Nat.le_of_ble_eq_true rfl) ?_
  intro pG eG sG mG argsG belowG methG cG Q A H locs ls hx hb hml hown hts hK hE hA hP hD hS hl hret
  have hl : lv_has ls 1 [(0, .ref xa)] := hl
  refine lv_aload_n hx hb d_Rm_first_0 rfl (lv_at hl 0 rfl) ?_
  refine va_get (C := RX7) (T := TX7) (N := 15) hx hb hts inX7 hown hK hP 0 rfl rfl 6 (by decide) (hts _ m_192) (fun _ h9 => h9) rfl d_Rm_first_1 ?_
  exact hret fo () _ _ _ 4 d_Rm_first_4 rfl hP hD hS
theorem k_Rm_first : cf_V y_Rm_first b_Rm_first 1 (some .int) "ReadMapper" 0 := ⟨⟨m_301, m_302, m_1, m_303⟩, by decide +kernel⟩
set_option maxHeartbeats 4000000 in
set_option maxRecDepth 100000 in
theorem c_Rm_hit (l : Launch) (D : va_G) (cA : Nat → ClassId) (K : Nat → Nat) (xa tx tn tb ia ia2 ra ra2 ha wa im du ma : Nat) (rd mp : Bool) (fo : Int32) (hp hpb hl_ hlb hs_ hsb hm_ hmb bst : Nat) (qy : Int32) (f1 f2 f3 f4 : Nat → Int32) (X : List (Nat × Nat × Nat × Nat)) (i x : Int32) (h1c : cd_r 120 f1 (hp_c X)) (h2c : cd_r 120 f2 (hl_c X)) (h3c : cd_r 120 f3 (hs_c X)) (h4c : cd_r 120 f4 (hm_c X)) : ck_I l y_Rm_hit (Cond.code y_Rm_hit b_Rm_hit 3 (some .int) :: w_all) 3 D cA K [.ref xa, .int i, .int x] [(xa, .inr (7, [.ref tx, .ref tn, .ref tb, .ref ia, .ref ia2, .int (bz_c rd), .int fo, .ref ra, .ref ra2, .int (bz_c mp), .ref ha, .ref wa, .ref im, .ref du, .ref ma])), (ha, .inr (1, [.ref hp, .ref hl_, .ref hs_, .ref hm_, .int (nI bst), .int qy])), (hp, .inr (0, [.ref hpb, .int (nI ((hp_c X).length))])), (hpb, .inl (cA 0, 120, .inl f1)), (hl_, .inr (0, [.ref hlb, .int (nI ((hl_c X).length))])), (hlb, .inl (cA 0, 120, .inl f2)), (hs_, .inr (0, [.ref hsb, .int (nI ((hs_c X).length))])), (hsb, .inl (cA 0, 120, .inl f3)), (hm_, .inr (0, [.ref hmb, .int (nI ((hm_c X).length))])), (hmb, .inl (cA 0, 120, .inl f4))] (fun (r : Int32) (u : Unit) => r = if mp = true then ab_c X i x else -1) (fun u => [(xa, .inr (7, [.ref tx, .ref tn, .ref tb, .ref ia, .ref ia2, .int (bz_c rd), .int fo, .ref ra, .ref ra2, .int (bz_c mp), .ref ha, .ref wa, .ref im, .ref du, .ref ma])), (ha, .inr (1, [.ref hp, .ref hl_, .ref hs_, .ref hm_, .int (nI bst), .int qy])), (hp, .inr (0, [.ref hpb, .int (nI ((hp_c X).length))])), (hpb, .inl (cA 0, 120, .inl f1)), (hl_, .inr (0, [.ref hlb, .int (nI ((hl_c X).length))])), (hlb, .inl (cA 0, 120, .inl f2)), (hs_, .inr (0, [.ref hsb, .int (nI ((hs_c X).length))])), (hsb, .inl (cA 0, 120, .inl f3)), (hm_, .inr (0, [.ref hmb, .int (nI ((hm_c X).length))])), (hmb, .inl (cA 0, 120, .inl f4))]) := by
  refine ck_mkI (by decide) (fun _ _ _ => rfl) (Nat.le_of_ble_eq_true rfl) ?_
  intro pG eG sG mG argsG belowG methG cG Q A H locs ls hx hb hml hown hts hK hE hA hP hD hS hl hret
  have hl : lv_has ls 3 [(0, .ref xa), (1, .int i), (2, .int x)] := hl
  refine lv_aload_n hx hb d_Rm_hit_0 rfl (lv_at hl 0 rfl) ?_
  refine va_get (C := RX7) (T := TX7) (N := 15) hx hb hts inX7 hown hK hP 0 rfl rfl 9 (by decide) (hts _ m_195) (fun _ h9 => h9) rfl d_Rm_hit_1 ?_
  refine lv_if_eq (tgt := 19) hx hb d_Rm_hit_4 (by decide) ?_ ?_
  · intro h4
    refine lv_iconst (v := (-1)) hx hb d_Rm_hit_19 (by decide) ?_
    exact hret (-1) () _ _ _ 20 d_Rm_hit_20 (by first | exact (if_pos (bz_1 h4)).symm | exact (if_neg (bz_n h4)).symm) hP hD hS
  · intro h4
    refine lv_aload_n hx hb d_Rm_hit_7 rfl (lv_at hl 0 rfl) ?_
    refine va_get (C := RX7) (T := TX7) (N := 15) hx hb hts inX7 hown hK hP 0 rfl rfl 10 (by decide) (hts _ m_196) (fun _ h9 => h9) rfl d_Rm_hit_8 ?_
    refine lv_iload_n hx hb d_Rm_hit_11 rfl (lv_at hl 1 rfl) ?_
    refine lv_iload_n hx hb d_Rm_hit_12 rfl (lv_at hl 2 rfl) ?_
    refine ck_cV (C := "ReadMapper$Hits") (ci := 1) (rest := []) (wr := [(xa, .inr (7, [.ref tx, .ref tn, .ref tb, .ref ia, .ref ia2, .int (bz_c rd), .int fo, .ref ra, .ref ra2, .int (bz_c mp), .ref ha, .ref wa, .ref im, .ref du, .ref ma]))]) (ws2 := fun u => [(xa, .inr (7, [.ref tx, .ref tn, .ref tb, .ref ia, .ref ia2, .int (bz_c rd), .int fo, .ref ra, .ref ra2, .int (bz_c mp), .ref ha, .ref wa, .ref im, .ref du, .ref ma])), (ha, .inr (1, [.ref hp, .ref hl_, .ref hs_, .ref hm_, .int (nI bst), .int qy])), (hp, .inr (0, [.ref hpb, .int (nI ((hp_c X).length))])), (hpb, .inl (cA 0, 120, .inl f1)), (hl_, .inr (0, [.ref hlb, .int (nI ((hl_c X).length))])), (hlb, .inl (cA 0, 120, .inl f2)), (hs_, .inr (0, [.ref hsb, .int (nI ((hs_c X).length))])), (hsb, .inl (cA 0, 120, .inl f3)), (hm_, .inr (0, [.ref hmb, .int (nI ((hm_c X).length))])), (hmb, .inl (cA 0, 120, .inl f4))]) (c_Hi_about l D cA K ha hp hpb hl_ hlb hs_ hsb hm_ hmb bst qy f1 f2 f3 f4 X i x (by first | assumption | omega) (by first | assumption | omega) (by first | assumption | omega) (by first | assumption | omega)) hx hb hml hown hts hK hE hA hP hD hS k_Hi_about m_308 (by decide) 1 rfl rfl rfl hl.1 rfl (Nat.le_of_ble_eq_true rfl) d_Rm_hit_13  [1, 2, 3, 4, 5, 6, 7, 8, 9] [0] [0, 1, 2, 3, 4, 5, 6, 7, 8, 9] rfl rfl (by decide) (fun _ => rfl) (fun r13 u13 H locs hq13 hP hD hS => ?_)
    try dsimp only at hq13
    have hP : va_P D vwCl [(xa, .inr (7, [.ref tx, .ref tn, .ref tb, .ref ia, .ref ia2, .int (bz_c rd), .int fo, .ref ra, .ref ra2, .int (bz_c mp), .ref ha, .ref wa, .ref im, .ref du, .ref ma])), (ha, .inr (1, [.ref hp, .ref hl_, .ref hs_, .ref hm_, .int (nI bst), .int qy])), (hp, .inr (0, [.ref hpb, .int (nI ((hp_c X).length))])), (hpb, .inl (cA 0, 120, .inl f1)), (hl_, .inr (0, [.ref hlb, .int (nI ((hl_c X).length))])), (hlb, .inl (cA 0, 120, .inl f2)), (hs_, .inr (0, [.ref hsb, .int (nI ((hs_c X).length))])), (hsb, .inl (cA 0, 120, .inl f3)), (hm_, .inr (0, [.ref hmb, .int (nI ((hm_c X).length))])), (hmb, .inl (cA 0, 120, .inl f4))] H := hP
    have hD : va_D A [(xa, .inr (7, [.ref tx, .ref tn, .ref tb, .ref ia, .ref ia2, .int (bz_c rd), .int fo, .ref ra, .ref ra2, .int (bz_c mp), .ref ha, .ref wa, .ref im, .ref du, .ref ma])), (ha, .inr (1, [.ref hp, .ref hl_, .ref hs_, .ref hm_, .int (nI bst), .int qy])), (hp, .inr (0, [.ref hpb, .int (nI ((hp_c X).length))])), (hpb, .inl (cA 0, 120, .inl f1)), (hl_, .inr (0, [.ref hlb, .int (nI ((hl_c X).length))])), (hlb, .inl (cA 0, 120, .inl f2)), (hs_, .inr (0, [.ref hsb, .int (nI ((hs_c X).length))])), (hsb, .inl (cA 0, 120, .inl f3)), (hm_, .inr (0, [.ref hmb, .int (nI ((hm_c X).length))])), (hmb, .inl (cA 0, 120, .inl f4))] := hD
    subst r13
    refine lv_goto (tgt := 20) hx hb d_Rm_hit_16 (by decide) ?_
    exact hret (ab_c X i x) () _ _ _ 20 d_Rm_hit_20 (by first | exact (if_pos (bz_1 h4)).symm | exact (if_neg (bz_n h4)).symm) hP hD hS
theorem k_Rm_hit : cf_V y_Rm_hit b_Rm_hit 3 (some .int) "ReadMapper" 2 := ⟨⟨m_305, m_306, m_1, m_307⟩, by decide +kernel⟩
set_option maxHeartbeats 4000000 in
set_option maxRecDepth 100000 in
theorem c_Rm_image (l : Launch) (D : va_G) (cA : Nat → ClassId) (K : Nat → Nat) (xa tx tn tb ia ia2 ra ra2 ha wa im du ma : Nat) (rd mp : Bool) (fo : Int32) (imb : Nat) (f : Nat → Int32) (L : List Int32) (i : Int32) (hc : cd_r 189 f L) : ck_I l y_Rm_image (Cond.code y_Rm_image b_Rm_image 2 (some .int) :: w_all) 2 D cA K [.ref xa, .int i] [(xa, .inr (7, [.ref tx, .ref tn, .ref tb, .ref ia, .ref ia2, .int (bz_c rd), .int fo, .ref ra, .ref ra2, .int (bz_c mp), .ref ha, .ref wa, .ref im, .ref du, .ref ma])), (im, .inr (0, [.ref imb, .int (nI L.length)])), (imb, .inl (cA 0, 189, .inl f))] (fun (r : Int32) (u : Unit) => r = at_c L i) (fun u => [(xa, .inr (7, [.ref tx, .ref tn, .ref tb, .ref ia, .ref ia2, .int (bz_c rd), .int fo, .ref ra, .ref ra2, .int (bz_c mp), .ref ha, .ref wa, .ref im, .ref du, .ref ma])), (im, .inr (0, [.ref imb, .int (nI L.length)])), (imb, .inl (cA 0, 189, .inl f))]) := by
  refine ck_mkI (by decide) (fun _ _ _ => rfl) (Nat.le_of_ble_eq_true rfl) ?_
  intro pG eG sG mG argsG belowG methG cG Q A H locs ls hx hb hml hown hts hK hE hA hP hD hS hl hret
  have hl : lv_has ls 2 [(0, .ref xa), (1, .int i)] := hl
  refine lv_aload_n hx hb d_Rm_image_0 rfl (lv_at hl 0 rfl) ?_
  refine va_get (C := RX7) (T := TX7) (N := 15) hx hb hts inX7 hown hK hP 0 rfl rfl 12 (by decide) (hts _ m_198) (fun _ h9 => h9) rfl d_Rm_image_1 ?_
  refine lv_iload_n hx hb d_Rm_image_4 rfl (lv_at hl 1 rfl) ?_
  refine ck_cV (C := "ReadMapper$Codes") (ci := 0) (rest := []) (wr := [(xa, .inr (7, [.ref tx, .ref tn, .ref tb, .ref ia, .ref ia2, .int (bz_c rd), .int fo, .ref ra, .ref ra2, .int (bz_c mp), .ref ha, .ref wa, .ref im, .ref du, .ref ma]))]) (ws2 := fun u => [(xa, .inr (7, [.ref tx, .ref tn, .ref tb, .ref ia, .ref ia2, .int (bz_c rd), .int fo, .ref ra, .ref ra2, .int (bz_c mp), .ref ha, .ref wa, .ref im, .ref du, .ref ma])), (im, .inr (0, [.ref imb, .int (nI L.length)])), (imb, .inl (cA 0, 189, .inl f))]) (c_Co_at l D cA K im imb 189 f L i (by first | assumption | omega)) hx hb hml hown hts hK hE hA hP hD hS k_Co_at m_443 (by decide) 1 rfl rfl rfl hl.1 rfl (Nat.le_of_ble_eq_true rfl) d_Rm_image_5  [1, 2] [0] [0, 1, 2] rfl rfl (by decide) (fun _ => rfl) (fun r5 u5 H locs hq5 hP hD hS => ?_)
  try dsimp only at hq5
  have hP : va_P D vwCl [(xa, .inr (7, [.ref tx, .ref tn, .ref tb, .ref ia, .ref ia2, .int (bz_c rd), .int fo, .ref ra, .ref ra2, .int (bz_c mp), .ref ha, .ref wa, .ref im, .ref du, .ref ma])), (im, .inr (0, [.ref imb, .int (nI L.length)])), (imb, .inl (cA 0, 189, .inl f))] H := hP
  have hD : va_D A [(xa, .inr (7, [.ref tx, .ref tn, .ref tb, .ref ia, .ref ia2, .int (bz_c rd), .int fo, .ref ra, .ref ra2, .int (bz_c mp), .ref ha, .ref wa, .ref im, .ref du, .ref ma])), (im, .inr (0, [.ref imb, .int (nI L.length)])), (imb, .inl (cA 0, 189, .inl f))] := hD
  subst r5
  exact hret (at_c L i) () _ _ _ 8 d_Rm_image_8 rfl hP hD hS
theorem k_Rm_image : cf_V y_Rm_image b_Rm_image 2 (some .int) "ReadMapper" 1 := ⟨⟨m_445, m_446, m_1, m_447⟩, by decide +kernel⟩
set_option maxHeartbeats 4000000 in
set_option maxRecDepth 100000 in
theorem c_Rm_spoil (l : Launch) (D : va_G) (cA : Nat → ClassId) (K : Nat → Nat) (xa tx tn tb ia ia2 ra ra2 ha wa im du ma : Nat) (rd mp : Bool) (fo : Int32) (imb : Nat) (f : Nat → Int32) (L : List Int32) (i x : Int32) (hc : cd_r 189 f L) : ck_I l y_Rm_spoil (Cond.code y_Rm_spoil b_Rm_spoil 5 (some .boolean) :: w_all) 2 D cA K [.ref xa, .int i, .int x] [(xa, .inr (7, [.ref tx, .ref tn, .ref tb, .ref ia, .ref ia2, .int (bz_c rd), .int fo, .ref ra, .ref ra2, .int (bz_c mp), .ref ha, .ref wa, .ref im, .ref du, .ref ma])), (im, .inr (0, [.ref imb, .int (nI L.length)])), (imb, .inl (cA 0, 189, .inl f))] (fun (r : Int32) (u : (Nat → Int32) × (List Int32)) => (r = 1 ∧ cd_r 189 u.1 u.2 ∧ ¬ at_c L i = -1 ∧ ¬ x &&& 255 = 0 ∧ u.2 = st_c L i (at_c L i ^^^ (x &&& 255))) ∨ (r = 0 ∧ cd_r 189 u.1 u.2 ∧ ¬ (¬ at_c L i = -1 ∧ ¬ x &&& 255 = 0) ∧ u.2 = L)) (fun u => [(xa, .inr (7, [.ref tx, .ref tn, .ref tb, .ref ia, .ref ia2, .int (bz_c rd), .int fo, .ref ra, .ref ra2, .int (bz_c mp), .ref ha, .ref wa, .ref im, .ref du, .ref ma])), (im, .inr (0, [.ref imb, .int (nI u.2.length)])), (imb, .inl (cA 0, 189, .inl u.1))]) := by
  refine ck_mkI (by decide) (fun r u h => by rcases h with ⟨rfl, _⟩ | ⟨rfl, _⟩ <;> rfl) (Nat.le_of_ble_eq_true rfl) ?_
  intro pG eG sG mG argsG belowG methG cG Q A H locs ls hx hb hml hown hts hK hE hA hP hD hS hl hret
  have hl : lv_has ls 5 [(0, .ref xa), (1, .int i), (2, .int x)] := hl
  refine lv_aload_n hx hb d_Rm_spoil_0 rfl (lv_at hl 0 rfl) ?_
  refine va_get (C := RX7) (T := TX7) (N := 15) hx hb hts inX7 hown hK hP 0 rfl rfl 12 (by decide) (hts _ m_198) (fun _ h9 => h9) rfl d_Rm_spoil_1 ?_
  refine lv_iload_n hx hb d_Rm_spoil_4 rfl (lv_at hl 1 rfl) ?_
  refine ck_cV (C := "ReadMapper$Codes") (ci := 0) (rest := []) (wr := [(xa, .inr (7, [.ref tx, .ref tn, .ref tb, .ref ia, .ref ia2, .int (bz_c rd), .int fo, .ref ra, .ref ra2, .int (bz_c mp), .ref ha, .ref wa, .ref im, .ref du, .ref ma]))]) (ws2 := fun u => [(xa, .inr (7, [.ref tx, .ref tn, .ref tb, .ref ia, .ref ia2, .int (bz_c rd), .int fo, .ref ra, .ref ra2, .int (bz_c mp), .ref ha, .ref wa, .ref im, .ref du, .ref ma])), (im, .inr (0, [.ref imb, .int (nI L.length)])), (imb, .inl (cA 0, 189, .inl f))]) (c_Co_at l D cA K im imb 189 f L i (by first | assumption | omega)) hx hb hml hown hts hK hE hA hP hD hS k_Co_at m_443 (by decide) 1 rfl rfl rfl hl.1 rfl (Nat.le_of_ble_eq_true rfl) d_Rm_spoil_5  [1, 2] [0] [0, 1, 2] rfl rfl (by decide) (fun _ => rfl) (fun r5 u5 H locs hq5 hP hD hS => ?_)
  try dsimp only at hq5
  have hP : va_P D vwCl [(xa, .inr (7, [.ref tx, .ref tn, .ref tb, .ref ia, .ref ia2, .int (bz_c rd), .int fo, .ref ra, .ref ra2, .int (bz_c mp), .ref ha, .ref wa, .ref im, .ref du, .ref ma])), (im, .inr (0, [.ref imb, .int (nI L.length)])), (imb, .inl (cA 0, 189, .inl f))] H := hP
  have hD : va_D A [(xa, .inr (7, [.ref tx, .ref tn, .ref tb, .ref ia, .ref ia2, .int (bz_c rd), .int fo, .ref ra, .ref ra2, .int (bz_c mp), .ref ha, .ref wa, .ref im, .ref du, .ref ma])), (im, .inr (0, [.ref imb, .int (nI L.length)])), (imb, .inl (cA 0, 189, .inl f))] := hD
  subst r5
  refine lv_istore_n (lv' := [(3, .int (at_c L i)), (0, .ref xa), (1, .int i), (2, .int x)]) hx hb d_Rm_spoil_8 rfl hl (by decide) rfl (fun ls hl => ?_)
  refine lv_iload_n hx hb d_Rm_spoil_9 rfl (lv_at hl 3 rfl) ?_
  refine lv_sipush (v := 255) hx hb d_Rm_spoil_10 (by decide) ?_
  refine lv_iand hx hb d_Rm_spoil_13 ?_
  refine lv_istore (lv' := [(4, .int (x &&& 255)), (3, .int (at_c L i)), (0, .ref xa), (1, .int i), (2, .int x)]) hx hb d_Rm_spoil_14 hl (by decide) rfl (fun ls hl => ?_)
  refine lv_iload_n hx hb d_Rm_spoil_16 rfl (lv_at hl 1 rfl) ?_
  refine lv_iconst (v := (-1)) hx hb d_Rm_spoil_17 (by decide) ?_
  refine lv_icmp_eq (tgt := 26) hx hb d_Rm_spoil_18 (by decide) ?_ ?_
  · intro h18
    refine lv_iconst (v := 0) hx hb d_Rm_spoil_26 (by decide) ?_
    exact hret 0 (f, L) _ _ _ 27 d_Rm_spoil_27 (by first | exact Or.inr ⟨rfl, hc, fun z => z.1 h18, rfl⟩ | exact Or.inr ⟨rfl, hc, fun z => z.2 h23, rfl⟩) hP hD hS
  · intro h18
    refine lv_iload hx hb d_Rm_spoil_21 (lv_at hl 0 rfl) ?_
    refine lv_if_ne (tgt := 28) hx hb d_Rm_spoil_23 (by decide) ?_ ?_
    · intro h23
      refine lv_aload_n hx hb d_Rm_spoil_28 rfl (lv_at hl 2 rfl) ?_
      refine va_get (C := RX7) (T := TX7) (N := 15) hx hb hts inX7 hown hK hP 0 rfl rfl 12 (by decide) (hts _ m_198) (fun _ h9 => h9) rfl d_Rm_spoil_29 ?_
      refine lv_iload_n hx hb d_Rm_spoil_32 rfl (lv_at hl 3 rfl) ?_
      refine lv_iload_n hx hb d_Rm_spoil_33 rfl (lv_at hl 1 rfl) ?_
      refine lv_iload hx hb d_Rm_spoil_34 (lv_at hl 0 rfl) ?_
      refine lv_ixor hx hb d_Rm_spoil_36 ?_
      refine ck_cVv (C := "ReadMapper$Codes") (ci := 0) (rest := []) (wr := [(xa, .inr (7, [.ref tx, .ref tn, .ref tb, .ref ia, .ref ia2, .int (bz_c rd), .int fo, .ref ra, .ref ra2, .int (bz_c mp), .ref ha, .ref wa, .ref im, .ref du, .ref ma]))]) (ws2 := fun u => [(xa, .inr (7, [.ref tx, .ref tn, .ref tb, .ref ia, .ref ia2, .int (bz_c rd), .int fo, .ref ra, .ref ra2, .int (bz_c mp), .ref ha, .ref wa, .ref im, .ref du, .ref ma])), (im, .inr (0, [.ref imb, .int (nI ((st_c L i ((at_c L i) ^^^ (x &&& 255))).length))])), (imb, .inl (cA 0, 189, .inl u))]) (c_Co_set l D cA K im imb 189 f L i ((at_c L i) ^^^ (x &&& 255)) (by first | assumption | omega)) hx hb hml hown hts hK hE hA hP hD hS k_Co_set m_452 (by decide) 1 rfl rfl rfl hl.1 rfl (Nat.le_of_ble_eq_true rfl) d_Rm_spoil_37  [1, 2] [0] [0, 1, 2] rfl rfl (by decide) (fun _ => rfl) (fun u37 H locs hq37 hP hD hS => ?_)
      obtain ⟨f2_37, rfl⟩ : ∃ z, z = u37 := ⟨_, rfl⟩
      try dsimp only at hq37
      have hP : va_P D vwCl [(xa, .inr (7, [.ref tx, .ref tn, .ref tb, .ref ia, .ref ia2, .int (bz_c rd), .int fo, .ref ra, .ref ra2, .int (bz_c mp), .ref ha, .ref wa, .ref im, .ref du, .ref ma])), (im, .inr (0, [.ref imb, .int (nI ((st_c L i ((at_c L i) ^^^ (x &&& 255))).length))])), (imb, .inl (cA 0, 189, .inl f2_37))] H := hP
      have hD : va_D A [(xa, .inr (7, [.ref tx, .ref tn, .ref tb, .ref ia, .ref ia2, .int (bz_c rd), .int fo, .ref ra, .ref ra2, .int (bz_c mp), .ref ha, .ref wa, .ref im, .ref du, .ref ma])), (im, .inr (0, [.ref imb, .int (nI ((st_c L i ((at_c L i) ^^^ (x &&& 255))).length))])), (imb, .inl (cA 0, 189, .inl f2_37))] := hD
      refine lv_iconst (v := 1) hx hb d_Rm_spoil_40 (by decide) ?_
      exact hret 1 (f2_37, st_c L i ((at_c L i) ^^^ (x &&& 255))) _ _ _ 41 d_Rm_spoil_41 (Or.inl ⟨rfl, hq37, h18, h23, rfl⟩) hP hD hS
    · intro h23
      refine lv_iconst (v := 0) hx hb d_Rm_spoil_26 (by decide) ?_
      exact hret 0 (f, L) _ _ _ 27 d_Rm_spoil_27 (by first | exact Or.inr ⟨rfl, hc, fun z => z.1 h18, rfl⟩ | exact Or.inr ⟨rfl, hc, fun z => z.2 h23, rfl⟩) hP hD hS
theorem k_Rm_spoil : cf_V y_Rm_spoil b_Rm_spoil 5 (some .boolean) "ReadMapper" 2 := ⟨⟨m_449, m_450, m_1, m_451⟩, by decide +kernel⟩
set_option maxHeartbeats 4000000 in
set_option maxRecDepth 100000 in
theorem c_Rm_cut (l : Launch) (D : va_G) (cA : Nat → ClassId) (K : Nat → Nat) (xa tx tn tb ia ia2 ra ra2 ha wa im du ma : Nat) (rd mp : Bool) (fo : Int32) (imb : Nat) (f : Nat → Int32) (L : List Int32) (hc : cd_r 189 f L) : ck_I l y_Rm_cut (Cond.code y_Rm_cut b_Rm_cut 1 (some .boolean) :: w_all) 2 D cA K [.ref xa] [(xa, .inr (7, [.ref tx, .ref tn, .ref tb, .ref ia, .ref ia2, .int (bz_c rd), .int fo, .ref ra, .ref ra2, .int (bz_c mp), .ref ha, .ref wa, .ref im, .ref du, .ref ma])), (im, .inr (0, [.ref imb, .int (nI L.length)])), (imb, .inl (cA 0, 189, .inl f))] (fun (r : Int32) (u : (Nat → Int32) × (List Int32)) => (r = 1 ∧ cd_r 189 u.1 u.2 ∧ ¬ L = [] ∧ u.2 = L.dropLast) ∨ (r = 0 ∧ cd_r 189 u.1 u.2 ∧ L = [] ∧ u.2 = L)) (fun u => [(xa, .inr (7, [.ref tx, .ref tn, .ref tb, .ref ia, .ref ia2, .int (bz_c rd), .int fo, .ref ra, .ref ra2, .int (bz_c mp), .ref ha, .ref wa, .ref im, .ref du, .ref ma])), (im, .inr (0, [.ref imb, .int (nI u.2.length)])), (imb, .inl (cA 0, 189, .inl u.1))]) := by
  refine ck_mkI (by decide) (fun r u h => by rcases h with ⟨rfl, _⟩ | ⟨rfl, _⟩ <;> rfl) (Nat.le_of_ble_eq_true rfl) ?_
  intro pG eG sG mG argsG belowG methG cG Q A H locs ls hx hb hml hown hts hK hE hA hP hD hS hl hret
  have hl : lv_has ls 1 [(0, .ref xa)] := hl
  have hl1 := cd_len hc
  refine lv_aload_n hx hb d_Rm_cut_0 rfl (lv_at hl 0 rfl) ?_
  refine va_get (C := RX7) (T := TX7) (N := 15) hx hb hts inX7 hown hK hP 0 rfl rfl 12 (by decide) (hts _ m_198) (fun _ h9 => h9) rfl d_Rm_cut_1 ?_
  refine ck_cV (C := "ReadMapper$Codes") (ci := 0) (rest := []) (wr := [(xa, .inr (7, [.ref tx, .ref tn, .ref tb, .ref ia, .ref ia2, .int (bz_c rd), .int fo, .ref ra, .ref ra2, .int (bz_c mp), .ref ha, .ref wa, .ref im, .ref du, .ref ma]))]) (ws2 := fun u => [(xa, .inr (7, [.ref tx, .ref tn, .ref tb, .ref ia, .ref ia2, .int (bz_c rd), .int fo, .ref ra, .ref ra2, .int (bz_c mp), .ref ha, .ref wa, .ref im, .ref du, .ref ma])), (im, .inr (0, [.ref imb, .int (nI L.length)])), (imb, .inl (cA 0, 189, .inl f))]) (c_Co_size l D cA K im imb 189 f L (by first | assumption | omega)) hx hb hml hown hts hK hE hA hP hD hS k_Co_size m_438 (by decide) 1 rfl rfl rfl hl.1 rfl (Nat.le_of_ble_eq_true rfl) d_Rm_cut_4  [1, 2] [0] [0, 1, 2] rfl rfl (by decide) (fun _ => rfl) (fun r4 u4 H locs hq4 hP hD hS => ?_)
  try dsimp only at hq4
  have hP : va_P D vwCl [(xa, .inr (7, [.ref tx, .ref tn, .ref tb, .ref ia, .ref ia2, .int (bz_c rd), .int fo, .ref ra, .ref ra2, .int (bz_c mp), .ref ha, .ref wa, .ref im, .ref du, .ref ma])), (im, .inr (0, [.ref imb, .int (nI L.length)])), (imb, .inl (cA 0, 189, .inl f))] H := hP
  have hD : va_D A [(xa, .inr (7, [.ref tx, .ref tn, .ref tb, .ref ia, .ref ia2, .int (bz_c rd), .int fo, .ref ra, .ref ra2, .int (bz_c mp), .ref ha, .ref wa, .ref im, .ref du, .ref ma])), (im, .inr (0, [.ref imb, .int (nI L.length)])), (imb, .inl (cA 0, 189, .inl f))] := hD
  subst r4
  refine wn_if_ne (by omega) (tgt := 12) hx hb d_Rm_cut_7 (by decide) ?_ ?_
  · intro h7
    refine lv_aload_n hx hb d_Rm_cut_12 rfl (lv_at hl 0 rfl) ?_
    refine va_get (C := RX7) (T := TX7) (N := 15) hx hb hts inX7 hown hK hP 0 rfl rfl 12 (by decide) (hts _ m_198) (fun _ h9 => h9) rfl d_Rm_cut_13 ?_
    refine ck_cVv (C := "ReadMapper$Codes") (ci := 0) (rest := []) (wr := [(xa, .inr (7, [.ref tx, .ref tn, .ref tb, .ref ia, .ref ia2, .int (bz_c rd), .int fo, .ref ra, .ref ra2, .int (bz_c mp), .ref ha, .ref wa, .ref im, .ref du, .ref ma]))]) (ws2 := fun u => [(xa, .inr (7, [.ref tx, .ref tn, .ref tb, .ref ia, .ref ia2, .int (bz_c rd), .int fo, .ref ra, .ref ra2, .int (bz_c mp), .ref ha, .ref wa, .ref im, .ref du, .ref ma])), (im, .inr (0, [.ref imb, .int (nI L.dropLast.length)])), (imb, .inl (cA 0, 189, .inl f))]) (c_Co_shorten l D cA K im imb 189 f L (by first | assumption | omega)) hx hb hml hown hts hK hE hA hP hD hS k_Co_shorten m_460 (by decide) 1 rfl rfl rfl hl.1 rfl (Nat.le_of_ble_eq_true rfl) d_Rm_cut_16  [1, 2] [0] [0, 1, 2] rfl rfl (by decide) (fun _ => rfl) (fun u16 H locs hq16 hP hD hS => ?_)
    try dsimp only at hq16
    have hP : va_P D vwCl [(xa, .inr (7, [.ref tx, .ref tn, .ref tb, .ref ia, .ref ia2, .int (bz_c rd), .int fo, .ref ra, .ref ra2, .int (bz_c mp), .ref ha, .ref wa, .ref im, .ref du, .ref ma])), (im, .inr (0, [.ref imb, .int (nI L.dropLast.length)])), (imb, .inl (cA 0, 189, .inl f))] H := hP
    have hD : va_D A [(xa, .inr (7, [.ref tx, .ref tn, .ref tb, .ref ia, .ref ia2, .int (bz_c rd), .int fo, .ref ra, .ref ra2, .int (bz_c mp), .ref ha, .ref wa, .ref im, .ref du, .ref ma])), (im, .inr (0, [.ref imb, .int (nI L.dropLast.length)])), (imb, .inl (cA 0, 189, .inl f))] := hD
    refine lv_iconst (v := 1) hx hb d_Rm_cut_19 (by decide) ?_
    exact hret 1 (f, L.dropLast) _ _ _ 20 d_Rm_cut_20 (Or.inl ⟨rfl, hq16, fun e => h7 (by rw [e]; rfl), rfl⟩) hP hD hS
  · intro h7
    refine lv_iconst (v := 0) hx hb d_Rm_cut_10 (by decide) ?_
    exact hret 0 (f, L) _ _ _ 11 d_Rm_cut_11 (Or.inr ⟨rfl, hc, List.eq_nil_of_length_eq_zero h7, rfl⟩) hP hD hS
theorem k_Rm_cut : cf_V y_Rm_cut b_Rm_cut 1 (some .boolean) "ReadMapper" 0 := ⟨⟨m_457, m_458, m_1, m_459⟩, by decide +kernel⟩
set_option maxHeartbeats 4000000 in
set_option maxRecDepth 100000 in
theorem c_Rm_write (l : Launch) (D : va_G) (cA : Nat → ClassId) (K : Nat → Nat) (xa tx tn tb ia ia2 ra ra2 ha wa im du ma : Nat) (rd mp : Bool) (fo : Int32) (txb : Nat) (f : Nat → Int32) (L : List Int32) (w : Int64) (hc : cd_r 72 f L) : ck_I l y_Rm_write (Cond.code y_Rm_write b_Rm_write 6 (some .boolean) :: w_all) 2 D cA K [.ref xa, .long w] [(xa, .inr (7, [.ref tx, .ref tn, .ref tb, .ref ia, .ref ia2, .int (bz_c rd), .int fo, .ref ra, .ref ra2, .int (bz_c mp), .ref ha, .ref wa, .ref im, .ref du, .ref ma])), (tx, .inr (0, [.ref txb, .int (nI L.length)])), (txb, .inl (cA 0, 72, .inl f))] (fun (r : Int32) (u : (Nat → Int32) × (List Int32)) => (r = 1 ∧ cd_r 72 u.1 u.2 ∧ (∀ i, i < 8 → wb_p w i) ∧ L.length + (wb_c w 8).length ≤ 72 ∧ u.2 = L ++ wb_c w 8) ∨ (r = 0 ∧ cd_r 72 u.1 u.2 ∧ ¬ ((∀ i, i < 8 → wb_p w i) ∧ L.length + (wb_c w 8).length ≤ 72) ∧ u.2 = L)) (fun u => [(xa, .inr (7, [.ref tx, .ref tn, .ref tb, .ref ia, .ref ia2, .int (bz_c rd), .int fo, .ref ra, .ref ra2, .int (bz_c mp), .ref ha, .ref wa, .ref im, .ref du, .ref ma])), (tx, .inr (0, [.ref txb, .int (nI u.2.length)])), (txb, .inl (cA 0, 72, .inl u.1))]) := by
  refine ck_mkI (by decide) (fun r u h => by rcases h with ⟨rfl, _⟩ | ⟨rfl, _⟩ <;> rfl) (Nat.le_of_ble_eq_true rfl) ?_
  intro pG eG sG mG argsG belowG methG cG Q A H locs ls hx hb hml hown hts hK hE hA hP hD hS hl hret
  have hl : lv_has ls 6 [(0, .ref xa), (1, .long w)] := hl
  have hl1 := cd_len hc
  refine lv_iconst (v := nI 0) hx hb d_Rm_write_0 (by decide) ?_
  refine lv_istore_n (lv' := [(3, .int (nI 0)), (0, .ref xa), (1, .long w)]) hx hb d_Rm_write_1 rfl hl (by decide) rfl (fun ls hl => ?_)
  refine lv_bipush (v := nI 56) hx hb d_Rm_write_2 (by decide) ?_
  refine wn_eq (y := nI (8 * (8 - 0)) - 8) (by decide) ?_
  refine lv_istore (lv' := [(4, .int (nI (8 * (8 - 0)) - 8)), (3, .int (nI 0)), (0, .ref xa), (1, .long w)]) hx hb d_Rm_write_4 hl (by decide) rfl (fun ls hl => ?_)
  have L6 : ∀ (nG : Nat) (n i : Nat) (H : Heap) (locs : List Loc) (ls : Array Slot), 8 - i = nG → (i ≤ 8) → (n = (wb_c w i).length) → (∀ j, j < i → wb_p w j) →  va_P D vwCl [(xa, .inr (7, [.ref tx, .ref tn, .ref tb, .ref ia, .ref ia2, .int (bz_c rd), .int fo, .ref ra, .ref ra2, .int (bz_c mp), .ref ha, .ref wa, .ref im, .ref du, .ref ma])), (tx, .inr (0, [.ref txb, .int (nI L.length)])), (txb, .inl (cA 0, 72, .inl f))] H → va_D A [(xa, .inr (7, [.ref tx, .ref tn, .ref tb, .ref ia, .ref ia2, .int (bz_c rd), .int fo, .ref ra, .ref ra2, .int (bz_c mp), .ref ha, .ref wa, .ref im, .ref du, .ref ma])), (tx, .inr (0, [.ref txb, .int (nI L.length)])), (txb, .inl (cA 0, 72, .inl f))] → va_S A sG.heap H locs → lv_has ls 6 [(0, .ref xa), (1, .long w), (3, .int (nI n)), (4, .int (nI (8 * (8 - i)) - 8))] → W pG l eG (rm_d 2) sG mG argsG belowG methG cG H locs 0 0 Q (F0 mG 6 ls []) := by
    intro nG
    induction nG using Nat.strongRecOn with
    | ind nG ih6 =>
      intro n i H locs ls hn6 hi hn hs hP hD hS hl
      have hwl := wb_len w i
      rw [← hn] at hwl
      refine lv_iload hx hb d_Rm_write_6 (lv_at hl 3 rfl) ?_
      refine lv_if_lt (tgt := 49) hx hb d_Rm_write_8 (by decide) ?_ ?_
      · intro h8
        have hi8 := wb_8 hi h8
        subst hi8
        refine lv_iload_n hx hb d_Rm_write_49 rfl (lv_at hl 2 rfl) ?_
        refine lv_aload_n hx hb d_Rm_write_50 rfl (lv_at hl 0 rfl) ?_
        refine va_get (C := RX7) (T := TX7) (N := 15) hx hb hts inX7 hown hK hP 0 rfl rfl 0 (by decide) (hts _ m_186) (fun _ h9 => h9) rfl d_Rm_write_51 ?_
        refine ck_cV (C := "ReadMapper$Codes") (ci := 0) (rest := [.int (nI n)]) (wr := [(xa, .inr (7, [.ref tx, .ref tn, .ref tb, .ref ia, .ref ia2, .int (bz_c rd), .int fo, .ref ra, .ref ra2, .int (bz_c mp), .ref ha, .ref wa, .ref im, .ref du, .ref ma]))]) (ws2 := fun u => [(xa, .inr (7, [.ref tx, .ref tn, .ref tb, .ref ia, .ref ia2, .int (bz_c rd), .int fo, .ref ra, .ref ra2, .int (bz_c mp), .ref ha, .ref wa, .ref im, .ref du, .ref ma])), (tx, .inr (0, [.ref txb, .int (nI L.length)])), (txb, .inl (cA 0, 72, .inl f))]) (c_Co_room l D cA K tx txb 72 f L (by first | assumption | omega)) hx hb hml hown hts hK hE hA hP hD hS k_Co_room m_239 (by decide) 1 rfl rfl rfl hl.1 rfl (Nat.le_of_ble_eq_true rfl) d_Rm_write_54  [1, 2] [0] [0, 1, 2] rfl rfl (by decide) (fun _ => rfl) (fun r54 u54 H locs hq54 hP hD hS => ?_)
        try dsimp only at hq54
        have hP : va_P D vwCl [(xa, .inr (7, [.ref tx, .ref tn, .ref tb, .ref ia, .ref ia2, .int (bz_c rd), .int fo, .ref ra, .ref ra2, .int (bz_c mp), .ref ha, .ref wa, .ref im, .ref du, .ref ma])), (tx, .inr (0, [.ref txb, .int (nI L.length)])), (txb, .inl (cA 0, 72, .inl f))] H := hP
        have hD : va_D A [(xa, .inr (7, [.ref tx, .ref tn, .ref tb, .ref ia, .ref ia2, .int (bz_c rd), .int fo, .ref ra, .ref ra2, .int (bz_c mp), .ref ha, .ref wa, .ref im, .ref du, .ref ma])), (tx, .inr (0, [.ref txb, .int (nI L.length)])), (txb, .inl (cA 0, 72, .inl f))] := hD
        subst r54
        refine wn_icmp_le (by omega) (by omega) (tgt := 62) hx hb d_Rm_write_57 (by decide) ?_ ?_
        · intro h57
          refine lv_bipush (v := nI 56) hx hb d_Rm_write_62 (by decide) ?_
          refine wn_eq (y := nI (8 * (8 - 0)) - 8) (by decide) ?_
          refine lv_istore (lv' := [(4, .int (nI (8 * (8 - 0)) - 8)), (0, .ref xa), (1, .long w), (3, .int (nI n))]) hx hb d_Rm_write_64 hl (by decide) rfl (fun ls hl => ?_)
          have L66 : ∀ (nG : Nat) (i : Nat) (M : List Int32) (f1 : Nat → Int32) (H : Heap) (locs : List Loc) (ls : Array Slot), 8 - i = nG → (i ≤ 8) → (M = L ++ wb_c w i) → (cd_r 72 f1 M) →  va_P D vwCl [(xa, .inr (7, [.ref tx, .ref tn, .ref tb, .ref ia, .ref ia2, .int (bz_c rd), .int fo, .ref ra, .ref ra2, .int (bz_c mp), .ref ha, .ref wa, .ref im, .ref du, .ref ma])), (tx, .inr (0, [.ref txb, .int (nI M.length)])), (txb, .inl (cA 0, 72, .inl f1))] H → va_D A [(xa, .inr (7, [.ref tx, .ref tn, .ref tb, .ref ia, .ref ia2, .int (bz_c rd), .int fo, .ref ra, .ref ra2, .int (bz_c mp), .ref ha, .ref wa, .ref im, .ref du, .ref ma])), (tx, .inr (0, [.ref txb, .int (nI M.length)])), (txb, .inl (cA 0, 72, .inl f1))] → va_S A sG.heap H locs → lv_has ls 6 [(0, .ref xa), (1, .long w), (4, .int (nI (8 * (8 - i)) - 8))] → W pG l eG (rm_d 2) sG mG argsG belowG methG cG H locs 0 0 Q (F0 mG 66 ls []) := by
            intro nG
            induction nG using Nat.strongRecOn with
            | ind nG ih66 =>
              intro i M f1 H locs ls hn66 hi hM hf1 hP hD hS hl
              have hml9 := congrArg List.length hM
              rw [List.length_append] at hml9
              have hwm := wb_mono w hi
              refine lv_iload hx hb d_Rm_write_66 (lv_at hl 2 rfl) ?_
              refine lv_if_lt (tgt := 99) hx hb d_Rm_write_68 (by decide) ?_ ?_
              · intro h68
                refine lv_iconst (v := 1) hx hb d_Rm_write_99 (by decide) ?_
                exact hret 1 (f1, M) _ _ _ 100 d_Rm_write_100 (by have hi8 := wb_8 hi h68; subst hi8; exact Or.inl ⟨rfl, hf1, hs, by omega, hM⟩) hP hD hS
              · intro h68
                have hi8 := wb_lt hi h68
                have hl : lv_has ls 6 [(0, .ref xa), (1, .long w), (4, .int (nI (8 * (7 - i))))] := by rw [wb_e hi8] at hl; exact hl
                refine lv_lload_n hx hb d_Rm_write_71 rfl (lv_at hl 1 rfl) ?_
                refine lv_iload hx hb d_Rm_write_72 (lv_at hl 2 rfl) ?_
                refine ck_cS (rest := []) (wr := [(xa, .inr (7, [.ref tx, .ref tn, .ref tb, .ref ia, .ref ia2, .int (bz_c rd), .int fo, .ref ra, .ref ra2, .int (bz_c mp), .ref ha, .ref wa, .ref im, .ref du, .ref ma])), (tx, .inr (0, [.ref txb, .int (nI M.length)])), (txb, .inl (cA 0, 72, .inl f1))]) (ws2 := fun u => [(xa, .inr (7, [.ref tx, .ref tn, .ref tb, .ref ia, .ref ia2, .int (bz_c rd), .int fo, .ref ra, .ref ra2, .int (bz_c mp), .ref ha, .ref wa, .ref im, .ref du, .ref ma])), (tx, .inr (0, [.ref txb, .int (nI M.length)])), (txb, .inl (cA 0, 72, .inl f1))]) (c_Rm_byteAt l D cA K w (8 * (7 - i)) ) hx hb hml hown hts hK hE hA hP hD hS k_Rm_byteAt m_236 (by decide) rfl hl.1 rfl (Nat.le_of_ble_eq_true rfl) d_Rm_write_74 [] [0, 1, 2] [0, 1, 2] rfl rfl (by decide) (fun _ => rfl) (fun r74 u74 H locs hq74 hP hD hS => ?_)
                try dsimp only at hq74
                have hP : va_P D vwCl [(xa, .inr (7, [.ref tx, .ref tn, .ref tb, .ref ia, .ref ia2, .int (bz_c rd), .int fo, .ref ra, .ref ra2, .int (bz_c mp), .ref ha, .ref wa, .ref im, .ref du, .ref ma])), (tx, .inr (0, [.ref txb, .int (nI M.length)])), (txb, .inl (cA 0, 72, .inl f1))] H := hP
                have hD : va_D A [(xa, .inr (7, [.ref tx, .ref tn, .ref tb, .ref ia, .ref ia2, .int (bz_c rd), .int fo, .ref ra, .ref ra2, .int (bz_c mp), .ref ha, .ref wa, .ref im, .ref du, .ref ma])), (tx, .inr (0, [.ref txb, .int (nI M.length)])), (txb, .inl (cA 0, 72, .inl f1))] := hD
                subst r74
                refine lv_istore (lv' := [(5, .int (by_c w (8 * (7 - i)))), (0, .ref xa), (1, .long w), (4, .int (nI (8 * (7 - i))))]) hx hb d_Rm_write_77 hl (by decide) rfl (fun ls hl => ?_)
                refine lv_iload hx hb d_Rm_write_79 (lv_at hl 0 rfl) ?_
                refine lv_if_eq (tgt := 93) hx hb d_Rm_write_81 (by decide) ?_ ?_
                · intro h81
                  refine lv_iinc (k := 3) (v := nI (8 * (8 - (i + 1))) - 8) (lv' := [(4, .int (nI (8 * (8 - (i + 1))) - 8)), (5, .int (by_c w (8 * (7 - i)))), (0, .ref xa), (1, .long w)]) hx hb d_Rm_write_93 hl rfl (wb_i hi8) (by decide) rfl (fun ls hl => ?_)
                  refine lv_goto (tgt := 66) hx hb d_Rm_write_96 (by decide) ?_
                  exact ih66 _ (by omega) (i + 1) M f1 _ _ _ rfl (by first | assumption | omega) (by first | (rw [hM, List.append_assoc, wb_a h81]) | (rw [hM, wb_b h81])) (by first | exact hq90 | exact hf1) hP hD hS (lv_sub hl [2, 3, 0] rfl)
                · intro h81
                  refine lv_aload_n hx hb d_Rm_write_84 rfl (lv_at hl 1 rfl) ?_
                  refine va_get (C := RX7) (T := TX7) (N := 15) hx hb hts inX7 hown hK hP 0 rfl rfl 0 (by decide) (hts _ m_186) (fun _ h9 => h9) rfl d_Rm_write_85 ?_
                  refine lv_iload hx hb d_Rm_write_88 (lv_at hl 0 rfl) ?_
                  refine ck_cVv (C := "ReadMapper$Codes") (ci := 0) (rest := []) (wr := [(xa, .inr (7, [.ref tx, .ref tn, .ref tb, .ref ia, .ref ia2, .int (bz_c rd), .int fo, .ref ra, .ref ra2, .int (bz_c mp), .ref ha, .ref wa, .ref im, .ref du, .ref ma]))]) (ws2 := fun u => [(xa, .inr (7, [.ref tx, .ref tn, .ref tb, .ref ia, .ref ia2, .int (bz_c rd), .int fo, .ref ra, .ref ra2, .int (bz_c mp), .ref ha, .ref wa, .ref im, .ref du, .ref ma])), (tx, .inr (0, [.ref txb, .int (nI ((M ++ [(by_c w (8 * (7 - i)))]).length))])), (txb, .inl (cA 0, 72, .inl u))]) (c_Co_append l D cA K tx txb 72 f1 M (by_c w (8 * (7 - i))) (by first | assumption | omega) (by have hwx := wb_mono w (show i + 1 ≤ 8 by omega); rw [wb_1 h81] at hwx; omega)) hx hb hml hown hts hK hE hA hP hD hS k_Co_append m_243 (by decide) 1 rfl rfl rfl hl.1 rfl (Nat.le_of_ble_eq_true rfl) d_Rm_write_90  [1, 2] [0] [0, 1, 2] rfl rfl (by decide) (fun _ => rfl) (fun u90 H locs hq90 hP hD hS => ?_)
                  obtain ⟨f2_90, rfl⟩ : ∃ z, z = u90 := ⟨_, rfl⟩
                  try dsimp only at hq90
                  have hP : va_P D vwCl [(xa, .inr (7, [.ref tx, .ref tn, .ref tb, .ref ia, .ref ia2, .int (bz_c rd), .int fo, .ref ra, .ref ra2, .int (bz_c mp), .ref ha, .ref wa, .ref im, .ref du, .ref ma])), (tx, .inr (0, [.ref txb, .int (nI ((M ++ [(by_c w (8 * (7 - i)))]).length))])), (txb, .inl (cA 0, 72, .inl f2_90))] H := hP
                  have hD : va_D A [(xa, .inr (7, [.ref tx, .ref tn, .ref tb, .ref ia, .ref ia2, .int (bz_c rd), .int fo, .ref ra, .ref ra2, .int (bz_c mp), .ref ha, .ref wa, .ref im, .ref du, .ref ma])), (tx, .inr (0, [.ref txb, .int (nI ((M ++ [(by_c w (8 * (7 - i)))]).length))])), (txb, .inl (cA 0, 72, .inl f2_90))] := hD
                  refine lv_iinc (k := 3) (v := nI (8 * (8 - (i + 1))) - 8) (lv' := [(4, .int (nI (8 * (8 - (i + 1))) - 8)), (5, .int (by_c w (8 * (7 - i)))), (0, .ref xa), (1, .long w)]) hx hb d_Rm_write_93 hl rfl (wb_i hi8) (by decide) rfl (fun ls hl => ?_)
                  refine lv_goto (tgt := 66) hx hb d_Rm_write_96 (by decide) ?_
                  exact ih66 _ (by omega) (i + 1) (M ++ [(by_c w (8 * (7 - i)))]) f2_90 _ _ _ rfl (by first | assumption | omega) (by first | (rw [hM, List.append_assoc, wb_a h81]) | (rw [hM, wb_b h81])) (by first | exact hq90 | exact hf1) hP hD hS (lv_sub hl [2, 3, 0] rfl)
          exact L66 _ 0 L f _ _ _ rfl (by first | assumption | omega) (List.append_nil _).symm (by first | assumption | omega) hP hD hS (lv_sub hl [1, 2, 0] rfl)
        · intro h57
          refine lv_iconst (v := 0) hx hb d_Rm_write_60 (by decide) ?_
          exact hret 0 (f, L) _ _ _ 61 d_Rm_write_61 (Or.inr ⟨rfl, hc, fun z => by have z2 := z.2; omega, rfl⟩) hP hD hS
      · intro h8
        have hi8 := wb_lt hi h8
        have hl : lv_has ls 6 [(0, .ref xa), (1, .long w), (3, .int (nI n)), (4, .int (nI (8 * (7 - i))))] := by rw [wb_e hi8] at hl; exact hl
        refine lv_lload_n hx hb d_Rm_write_11 rfl (lv_at hl 1 rfl) ?_
        refine lv_iload hx hb d_Rm_write_12 (lv_at hl 3 rfl) ?_
        refine ck_cS (rest := []) (wr := [(xa, .inr (7, [.ref tx, .ref tn, .ref tb, .ref ia, .ref ia2, .int (bz_c rd), .int fo, .ref ra, .ref ra2, .int (bz_c mp), .ref ha, .ref wa, .ref im, .ref du, .ref ma])), (tx, .inr (0, [.ref txb, .int (nI L.length)])), (txb, .inl (cA 0, 72, .inl f))]) (ws2 := fun u => [(xa, .inr (7, [.ref tx, .ref tn, .ref tb, .ref ia, .ref ia2, .int (bz_c rd), .int fo, .ref ra, .ref ra2, .int (bz_c mp), .ref ha, .ref wa, .ref im, .ref du, .ref ma])), (tx, .inr (0, [.ref txb, .int (nI L.length)])), (txb, .inl (cA 0, 72, .inl f))]) (c_Rm_byteAt l D cA K w (8 * (7 - i)) ) hx hb hml hown hts hK hE hA hP hD hS k_Rm_byteAt m_236 (by decide) rfl hl.1 rfl (Nat.le_of_ble_eq_true rfl) d_Rm_write_14 [] [0, 1, 2] [0, 1, 2] rfl rfl (by decide) (fun _ => rfl) (fun r14 u14 H locs hq14 hP hD hS => ?_)
        try dsimp only at hq14
        have hP : va_P D vwCl [(xa, .inr (7, [.ref tx, .ref tn, .ref tb, .ref ia, .ref ia2, .int (bz_c rd), .int fo, .ref ra, .ref ra2, .int (bz_c mp), .ref ha, .ref wa, .ref im, .ref du, .ref ma])), (tx, .inr (0, [.ref txb, .int (nI L.length)])), (txb, .inl (cA 0, 72, .inl f))] H := hP
        have hD : va_D A [(xa, .inr (7, [.ref tx, .ref tn, .ref tb, .ref ia, .ref ia2, .int (bz_c rd), .int fo, .ref ra, .ref ra2, .int (bz_c mp), .ref ha, .ref wa, .ref im, .ref du, .ref ma])), (tx, .inr (0, [.ref txb, .int (nI L.length)])), (txb, .inl (cA 0, 72, .inl f))] := hD
        subst r14
        refine lv_istore (lv' := [(5, .int (by_c w (8 * (7 - i)))), (0, .ref xa), (1, .long w), (3, .int (nI n)), (4, .int (nI (8 * (7 - i))))]) hx hb d_Rm_write_17 hl (by decide) rfl (fun ls hl => ?_)
        refine lv_iload hx hb d_Rm_write_19 (lv_at hl 0 rfl) ?_
        refine lv_if_eq (tgt := 43) hx hb d_Rm_write_21 (by decide) ?_ ?_
        · intro h21
          refine lv_iinc (k := 4) (v := nI (8 * (8 - (i + 1))) - 8) (lv' := [(4, .int (nI (8 * (8 - (i + 1))) - 8)), (5, .int (by_c w (8 * (7 - i)))), (0, .ref xa), (1, .long w), (3, .int (nI n))]) hx hb d_Rm_write_43 hl rfl (wb_i hi8) (by decide) rfl (fun ls hl => ?_)
          refine lv_goto (tgt := 6) hx hb d_Rm_write_46 (by decide) ?_
          exact ih6 _ (by omega) n (i + 1) _ _ _ rfl (by first | assumption | omega) (by first | (rw [hn]; exact (wb_1 h21).symm) | (rw [hn]; exact (wb_0 h21).symm)) (by first | exact lt_s hs (Or.inr ⟨h28, h35⟩) | exact lt_s hs (Or.inl h21)) hP hD hS (lv_sub hl [2, 3, 4, 0] rfl)
        · intro h21
          refine lv_iload hx hb d_Rm_write_24 (lv_at hl 0 rfl) ?_
          refine lv_bipush (v := 32) hx hb d_Rm_write_26 (by decide) ?_
          refine lv_icmp_lt (tgt := 38) hx hb d_Rm_write_28 (by decide) ?_ ?_
          · intro h28
            refine lv_iconst (v := 0) hx hb d_Rm_write_38 (by decide) ?_
            exact hret 0 (f, L) _ _ _ 39 d_Rm_write_39 (by first | exact Or.inr ⟨rfl, hc, fun z => (z.1 i hi8).elim h21 (fun y => y.1 h28), rfl⟩ | exact Or.inr ⟨rfl, hc, fun z => (z.1 i hi8).elim h21 (fun y => h35 y.2), rfl⟩) hP hD hS
          · intro h28
            refine lv_iload hx hb d_Rm_write_31 (lv_at hl 0 rfl) ?_
            refine lv_bipush (v := 126) hx hb d_Rm_write_33 (by decide) ?_
            refine lv_icmp_le (tgt := 40) hx hb d_Rm_write_35 (by decide) ?_ ?_
            · intro h35
              refine lv_iinc (k := 3) (v := nI (n + 1)) (lv' := [(3, .int (nI (n + 1))), (5, .int (by_c w (8 * (7 - i)))), (0, .ref xa), (1, .long w), (4, .int (nI (8 * (7 - i))))]) hx hb d_Rm_write_40 hl rfl (wi_inc1 _) (by decide) rfl (fun ls hl => ?_)
              refine lv_iinc (k := 4) (v := nI (8 * (8 - (i + 1))) - 8) (lv' := [(4, .int (nI (8 * (8 - (i + 1))) - 8)), (3, .int (nI (n + 1))), (5, .int (by_c w (8 * (7 - i)))), (0, .ref xa), (1, .long w)]) hx hb d_Rm_write_43 hl rfl (wb_i hi8) (by decide) rfl (fun ls hl => ?_)
              refine lv_goto (tgt := 6) hx hb d_Rm_write_46 (by decide) ?_
              exact ih6 _ (by omega) (n + 1) (i + 1) _ _ _ rfl (by first | assumption | omega) (by first | (rw [hn]; exact (wb_1 h21).symm) | (rw [hn]; exact (wb_0 h21).symm)) (by first | exact lt_s hs (Or.inr ⟨h28, h35⟩) | exact lt_s hs (Or.inl h21)) hP hD hS (lv_sub hl [3, 4, 1, 0] rfl)
            · intro h35
              refine lv_iconst (v := 0) hx hb d_Rm_write_38 (by decide) ?_
              exact hret 0 (f, L) _ _ _ 39 d_Rm_write_39 (by first | exact Or.inr ⟨rfl, hc, fun z => (z.1 i hi8).elim h21 (fun y => y.1 h28), rfl⟩ | exact Or.inr ⟨rfl, hc, fun z => (z.1 i hi8).elim h21 (fun y => h35 y.2), rfl⟩) hP hD hS
  exact L6 _ 0 0 _ _ _ rfl (by first | assumption | omega) rfl (fun j hj => absurd hj (Nat.not_lt_zero j)) hP hD hS (lv_sub hl [2, 3, 1, 0] rfl)
theorem k_Rm_write : cf_V y_Rm_write b_Rm_write 6 (some .boolean) "ReadMapper" 1 := ⟨⟨m_233, m_234, m_1, m_235⟩, by decide +kernel⟩
