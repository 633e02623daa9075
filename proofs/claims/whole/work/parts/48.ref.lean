/-! the reference: letters, flags, the image's bytes -/
theorem m_984 : .constantLong "ReadMapperModel" 84 255 ∈ w_all := wm_5 24 (by decide +kernel) (by decide +kernel)
theorem m_1197 : .constantLong "ReadMapperLaw" 44 4294967295 ∈ w_all := wm_5 237 (by decide +kernel) (by decide +kernel)
def ch_p (x : Int32) : Prop := ¬ x < 0 ∧ x < 65536
theorem ch_9 : ch_p 9 := ⟨by decide, by decide⟩
theorem ch_n {x : Int32} (h : ch_p x) : ∃ n, n < 65536 ∧ x = nI n := by
  obtain ⟨k, hk, e⟩ := nI_of2 (nI_toInt (show 65536 < 2 ^ 31 by omega)) h.1 (show x ≤ nI 65536 from Int32.le_of_lt h.2)
  refine ⟨k, ?_, e⟩
  rcases Nat.lt_or_ge k 65536 with z | z
  · exact z
  · have e2 : k = 65536 := by omega
    subst e2
    rw [e] at h
    exact absurd h.2 (by decide)
theorem ch_c {x : Int32} (h : ch_p x) : (x.toUInt32 % 65536).toInt32 = x := by
  obtain ⟨n, hn, rfl⟩ := ch_n h
  refine congrArg UInt32.toInt32 (show (nI n).toUInt32 % 65536 = (nI n).toUInt32 from UInt32.toNat_inj.mp ?_)
  show ((nI n).toUInt32 % 65536).toNat = (nI n).toUInt32.toNat
  rw [UInt32.toNat_mod]
  have e : (nI n).toUInt32.toNat = n := by
    show (UInt32.ofNat n).toNat = n
    exact UInt32.toNat_ofNat_of_lt (by show n < 4294967296; omega)
  rw [e]
  exact Nat.mod_eq_of_lt hn
theorem ch_f {x : Int32} (h : ch_p x) : vp_nar .char x = x := by
  rw [vp_nar_char]
  obtain ⟨n, hn, rfl⟩ := ch_n h
  refine congrArg UInt32.toInt32 (show (nI n).toUInt32.toUInt16.toUInt32 = (nI n).toUInt32 from UInt32.toNat_inj.mp ?_)
  show (nI n).toUInt32.toUInt16.toUInt32.toNat = (nI n).toUInt32.toNat
  rw [UInt16.toNat_toUInt32, UInt32.toNat_toUInt16]
  have e : (nI n).toUInt32.toNat = n := by
    show (UInt32.ofNat n).toNat = n
    exact UInt32.toNat_ofNat_of_lt (by show n < 4294967296; omega)
  rw [e]
  exact Nat.mod_eq_of_lt hn
theorem lt_fit (x : Int32) : narrow .char (.int (lt_c x)) = .int (lt_c x) := by
  unfold lt_c
  split <;> first | rfl | split <;> first | rfl | split <;> first | rfl | split <;> first | rfl | split <;> rfl
theorem by_and (x : Int64) : (x &&& 255).toInt32 = x.toInt32 &&& 255 := by
  rw [Int64.toInt32_and]; rfl
theorem wb_j {i : Nat} (h : i < 8) : nI (8 * (7 - i)) - 8 = nI (8 * (8 - (i + 1))) - 8 := by rw [show 8 * (8 - (i + 1)) = 8 * (7 - i) by omega]
theorem wb_ch {w : Int64} {i : Nat} (h : wb_p w i) (h0 : ¬ by_c w (8 * (7 - i)) = 0) : ch_p (by_c w (8 * (7 - i))) := by
  rcases h with z | ⟨z1, z2⟩
  · exact absurd z h0
  · exact ⟨fun z => z1 (Int32.lt_trans z (by decide)), Int32.lt_of_le_of_lt z2 (by decide)⟩
/-- the length of the name that the text begins with, or nothing -/
def nl_y (L : List Int32) (k : Nat) : Prop := 0 < k ∧ k ≤ 8 ∧ k < L.length ∧ L.getD k 0 = 58 ∧ ∀ j, j < k → nm_c (L.getD j 0)
def nl_p (L : List Int32) (k : Nat) : Prop := nl_y L k ∨ (k = 0 ∧ ∀ i, ¬ nl_y L i)
theorem nm_58 : ¬ nm_c 58 := by unfold nm_c; decide
theorem nl_o {L : List Int32} {n : Nat} (hs : ∀ j, j < n → nm_c (L.getD j 0)) (he : L.length ≤ n ∨ 9 ≤ n ∨ ¬ nm_c (L.getD n 0)) (hz : ¬ (n ≤ 8 ∧ n < L.length ∧ L.getD n 0 = 58)) : nl_p L 0 := by
  refine Or.inr ⟨rfl, fun i hi => ?_⟩
  obtain ⟨a, b, c, d, e⟩ := hi
  rcases Nat.lt_trichotomy i n with z | z | z
  · exact nm_58 (d ▸ hs i z)
  · subst z; exact hz ⟨b, c, d⟩
  · rcases he with h | h | h
    · omega
    · omega
    · exact h (e n z)
theorem nl_i {L : List Int32} {n : Nat} (h1 : n ≤ 8) (h2 : n < L.length) (h3 : L.getD n 0 = 58) (hs : ∀ j, j < n → nm_c (L.getD j 0)) : nl_p L n := by
  rcases Nat.eq_zero_or_pos n with z | z
  · subst z
    refine Or.inr ⟨rfl, fun i hi => ?_⟩
    have := hi.2.2.2.2 0 hi.1
    rw [h3] at this
    exact nm_58 this
  · exact Or.inl ⟨z, h1, h2, h3, hs⟩
/-- where the letters of bases that begin at b end -/
def nb_p (L : List Int32) (b k : Nat) : Prop := b ≤ k ∧ (k ≤ L.length ∨ k = b) ∧ (∀ j, b ≤ j → j < k → ¬ sy_c (L.getD j 0) = -1) ∧ (k < L.length → sy_c (L.getD k 0) = -1)
theorem sy_1 {x : Int32} (h : ¬ sy_c x ≤ 0) : ¬ sy_c x = -1 := fun e => h (by rw [e]; decide)
theorem sy_0 {x : Int32} (h : sy_c x ≤ 0) : sy_c x = -1 := by
  rcases sy_cases x with z | z | z | z | z | z
  · exact z
  all_goals (rw [z] at h; exact absurd h (by decide))

theorem d_Mo_thrown_0 : decode b_Mo_thrown 0 = .ok (.aload_n 0, 1) := by decide +kernel
theorem d_Mo_thrown_1 : decode b_Mo_thrown 1 = .ok (.getfield 80, 3) := by decide +kernel
theorem d_Mo_thrown_4 : decode b_Mo_thrown 4 = .ok (.ireturn, 1) := by decide +kernel
theorem d_Mo_inName_0 : decode b_Mo_inName 0 = .ok (.iload_n 0, 1) := by decide +kernel
theorem d_Mo_inName_1 : decode b_Mo_inName 1 = .ok (.bipush 97, 2) := by decide +kernel
theorem d_Mo_inName_3 : decode b_Mo_inName 3 = .ok (.if_icmp .lt 9, 3) := by decide +kernel
theorem d_Mo_inName_6 : decode b_Mo_inName 6 = .ok (.iload_n 0, 1) := by decide +kernel
theorem d_Mo_inName_7 : decode b_Mo_inName 7 = .ok (.bipush 122, 2) := by decide +kernel
theorem d_Mo_inName_9 : decode b_Mo_inName 9 = .ok (.if_icmp .le 33, 3) := by decide +kernel
theorem d_Mo_inName_12 : decode b_Mo_inName 12 = .ok (.iload_n 0, 1) := by decide +kernel
theorem d_Mo_inName_13 : decode b_Mo_inName 13 = .ok (.bipush 65, 2) := by decide +kernel
theorem d_Mo_inName_15 : decode b_Mo_inName 15 = .ok (.if_icmp .lt 9, 3) := by decide +kernel
theorem d_Mo_inName_18 : decode b_Mo_inName 18 = .ok (.iload_n 0, 1) := by decide +kernel
theorem d_Mo_inName_19 : decode b_Mo_inName 19 = .ok (.bipush 90, 2) := by decide +kernel
theorem d_Mo_inName_21 : decode b_Mo_inName 21 = .ok (.if_icmp .le 21, 3) := by decide +kernel
theorem d_Mo_inName_24 : decode b_Mo_inName 24 = .ok (.iload_n 0, 1) := by decide +kernel
theorem d_Mo_inName_25 : decode b_Mo_inName 25 = .ok (.bipush 48, 2) := by decide +kernel
theorem d_Mo_inName_27 : decode b_Mo_inName 27 = .ok (.if_icmp .lt 9, 3) := by decide +kernel
theorem d_Mo_inName_30 : decode b_Mo_inName 30 = .ok (.iload_n 0, 1) := by decide +kernel
theorem d_Mo_inName_31 : decode b_Mo_inName 31 = .ok (.bipush 57, 2) := by decide +kernel
theorem d_Mo_inName_33 : decode b_Mo_inName 33 = .ok (.if_icmp .le 9, 3) := by decide +kernel
theorem d_Mo_inName_36 : decode b_Mo_inName 36 = .ok (.iload_n 0, 1) := by decide +kernel
theorem d_Mo_inName_37 : decode b_Mo_inName 37 = .ok (.bipush 95, 2) := by decide +kernel
theorem d_Mo_inName_39 : decode b_Mo_inName 39 = .ok (.if_icmp .ne 7, 3) := by decide +kernel
theorem d_Mo_inName_42 : decode b_Mo_inName 42 = .ok (.iconst 1, 1) := by decide +kernel
theorem d_Mo_inName_43 : decode b_Mo_inName 43 = .ok (.goto 4, 3) := by decide +kernel
theorem d_Mo_inName_46 : decode b_Mo_inName 46 = .ok (.iconst 0, 1) := by decide +kernel
theorem d_Mo_inName_47 : decode b_Mo_inName 47 = .ok (.ireturn, 1) := by decide +kernel
theorem d_Mo_symbol_0 : decode b_Mo_symbol 0 = .ok (.iload_n 0, 1) := by decide +kernel
theorem d_Mo_symbol_1 : decode b_Mo_symbol 1 = .ok (.bipush 65, 2) := by decide +kernel
theorem d_Mo_symbol_3 : decode b_Mo_symbol 3 = .ok (.if_icmp .ne 7, 3) := by decide +kernel
theorem d_Mo_symbol_6 : decode b_Mo_symbol 6 = .ok (.iconst 2, 1) := by decide +kernel
theorem d_Mo_symbol_7 : decode b_Mo_symbol 7 = .ok (.goto 45, 3) := by decide +kernel
theorem d_Mo_symbol_10 : decode b_Mo_symbol 10 = .ok (.iload_n 0, 1) := by decide +kernel
theorem d_Mo_symbol_11 : decode b_Mo_symbol 11 = .ok (.bipush 67, 2) := by decide +kernel
theorem d_Mo_symbol_13 : decode b_Mo_symbol 13 = .ok (.if_icmp .ne 7, 3) := by decide +kernel
theorem d_Mo_symbol_16 : decode b_Mo_symbol 16 = .ok (.iconst 3, 1) := by decide +kernel
theorem d_Mo_symbol_17 : decode b_Mo_symbol 17 = .ok (.goto 35, 3) := by decide +kernel
theorem d_Mo_symbol_20 : decode b_Mo_symbol 20 = .ok (.iload_n 0, 1) := by decide +kernel
theorem d_Mo_symbol_21 : decode b_Mo_symbol 21 = .ok (.bipush 71, 2) := by decide +kernel
theorem d_Mo_symbol_23 : decode b_Mo_symbol 23 = .ok (.if_icmp .ne 7, 3) := by decide +kernel
theorem d_Mo_symbol_26 : decode b_Mo_symbol 26 = .ok (.iconst 4, 1) := by decide +kernel
theorem d_Mo_symbol_27 : decode b_Mo_symbol 27 = .ok (.goto 25, 3) := by decide +kernel
theorem d_Mo_symbol_30 : decode b_Mo_symbol 30 = .ok (.iload_n 0, 1) := by decide +kernel
theorem d_Mo_symbol_31 : decode b_Mo_symbol 31 = .ok (.bipush 78, 2) := by decide +kernel
theorem d_Mo_symbol_33 : decode b_Mo_symbol 33 = .ok (.if_icmp .ne 7, 3) := by decide +kernel
theorem d_Mo_symbol_36 : decode b_Mo_symbol 36 = .ok (.iconst 5, 1) := by decide +kernel
theorem d_Mo_symbol_37 : decode b_Mo_symbol 37 = .ok (.goto 15, 3) := by decide +kernel
theorem d_Mo_symbol_40 : decode b_Mo_symbol 40 = .ok (.iload_n 0, 1) := by decide +kernel
theorem d_Mo_symbol_41 : decode b_Mo_symbol 41 = .ok (.bipush 84, 2) := by decide +kernel
theorem d_Mo_symbol_43 : decode b_Mo_symbol 43 = .ok (.if_icmp .ne 8, 3) := by decide +kernel
theorem d_Mo_symbol_46 : decode b_Mo_symbol 46 = .ok (.bipush 6, 2) := by decide +kernel
theorem d_Mo_symbol_48 : decode b_Mo_symbol 48 = .ok (.goto 4, 3) := by decide +kernel
theorem d_Mo_symbol_51 : decode b_Mo_symbol 51 = .ok (.iconst (-1), 1) := by decide +kernel
theorem d_Mo_symbol_52 : decode b_Mo_symbol 52 = .ok (.ireturn, 1) := by decide +kernel
theorem d_Mo_shown_0 : decode b_Mo_shown 0 = .ok (.iload_n 0, 1) := by decide +kernel
theorem d_Mo_shown_1 : decode b_Mo_shown 1 = .ok (.iconst 2, 1) := by decide +kernel
theorem d_Mo_shown_2 : decode b_Mo_shown 2 = .ok (.if_icmp .ne 8, 3) := by decide +kernel
theorem d_Mo_shown_5 : decode b_Mo_shown 5 = .ok (.bipush 65, 2) := by decide +kernel
theorem d_Mo_shown_7 : decode b_Mo_shown 7 = .ok (.goto 46, 3) := by decide +kernel
theorem d_Mo_shown_10 : decode b_Mo_shown 10 = .ok (.iload_n 0, 1) := by decide +kernel
theorem d_Mo_shown_11 : decode b_Mo_shown 11 = .ok (.iconst 3, 1) := by decide +kernel
theorem d_Mo_shown_12 : decode b_Mo_shown 12 = .ok (.if_icmp .ne 8, 3) := by decide +kernel
theorem d_Mo_shown_15 : decode b_Mo_shown 15 = .ok (.bipush 67, 2) := by decide +kernel
theorem d_Mo_shown_17 : decode b_Mo_shown 17 = .ok (.goto 36, 3) := by decide +kernel
theorem d_Mo_shown_20 : decode b_Mo_shown 20 = .ok (.iload_n 0, 1) := by decide +kernel
theorem d_Mo_shown_21 : decode b_Mo_shown 21 = .ok (.iconst 4, 1) := by decide +kernel
theorem d_Mo_shown_22 : decode b_Mo_shown 22 = .ok (.if_icmp .ne 8, 3) := by decide +kernel
theorem d_Mo_shown_25 : decode b_Mo_shown 25 = .ok (.bipush 71, 2) := by decide +kernel
theorem d_Mo_shown_27 : decode b_Mo_shown 27 = .ok (.goto 26, 3) := by decide +kernel
theorem d_Mo_shown_30 : decode b_Mo_shown 30 = .ok (.iload_n 0, 1) := by decide +kernel
theorem d_Mo_shown_31 : decode b_Mo_shown 31 = .ok (.iconst 5, 1) := by decide +kernel
theorem d_Mo_shown_32 : decode b_Mo_shown 32 = .ok (.if_icmp .ne 8, 3) := by decide +kernel
theorem d_Mo_shown_35 : decode b_Mo_shown 35 = .ok (.bipush 78, 2) := by decide +kernel
theorem d_Mo_shown_37 : decode b_Mo_shown 37 = .ok (.goto 16, 3) := by decide +kernel
theorem d_Mo_shown_40 : decode b_Mo_shown 40 = .ok (.iload_n 0, 1) := by decide +kernel
theorem d_Mo_shown_41 : decode b_Mo_shown 41 = .ok (.bipush 6, 2) := by decide +kernel
theorem d_Mo_shown_43 : decode b_Mo_shown 43 = .ok (.if_icmp .ne 8, 3) := by decide +kernel
theorem d_Mo_shown_46 : decode b_Mo_shown 46 = .ok (.bipush 84, 2) := by decide +kernel
theorem d_Mo_shown_48 : decode b_Mo_shown 48 = .ok (.goto 5, 3) := by decide +kernel
theorem d_Mo_shown_51 : decode b_Mo_shown 51 = .ok (.bipush 35, 2) := by decide +kernel
theorem d_Mo_shown_53 : decode b_Mo_shown 53 = .ok (.ireturn, 1) := by decide +kernel
theorem d_Mo_complement_0 : decode b_Mo_complement 0 = .ok (.iload_n 0, 1) := by decide +kernel
theorem d_Mo_complement_1 : decode b_Mo_complement 1 = .ok (.iconst 2, 1) := by decide +kernel
theorem d_Mo_complement_2 : decode b_Mo_complement 2 = .ok (.if_icmp .ne 8, 3) := by decide +kernel
theorem d_Mo_complement_5 : decode b_Mo_complement 5 = .ok (.bipush 6, 2) := by decide +kernel
theorem d_Mo_complement_7 : decode b_Mo_complement 7 = .ok (.goto 32, 3) := by decide +kernel
theorem d_Mo_complement_10 : decode b_Mo_complement 10 = .ok (.iload_n 0, 1) := by decide +kernel
theorem d_Mo_complement_11 : decode b_Mo_complement 11 = .ok (.bipush 6, 2) := by decide +kernel
theorem d_Mo_complement_13 : decode b_Mo_complement 13 = .ok (.if_icmp .ne 7, 3) := by decide +kernel
theorem d_Mo_complement_16 : decode b_Mo_complement 16 = .ok (.iconst 2, 1) := by decide +kernel
theorem d_Mo_complement_17 : decode b_Mo_complement 17 = .ok (.goto 22, 3) := by decide +kernel
theorem d_Mo_complement_20 : decode b_Mo_complement 20 = .ok (.iload_n 0, 1) := by decide +kernel
theorem d_Mo_complement_21 : decode b_Mo_complement 21 = .ok (.iconst 3, 1) := by decide +kernel
theorem d_Mo_complement_22 : decode b_Mo_complement 22 = .ok (.if_icmp .ne 7, 3) := by decide +kernel
theorem d_Mo_complement_25 : decode b_Mo_complement 25 = .ok (.iconst 4, 1) := by decide +kernel
theorem d_Mo_complement_26 : decode b_Mo_complement 26 = .ok (.goto 13, 3) := by decide +kernel
theorem d_Mo_complement_29 : decode b_Mo_complement 29 = .ok (.iload_n 0, 1) := by decide +kernel
theorem d_Mo_complement_30 : decode b_Mo_complement 30 = .ok (.iconst 4, 1) := by decide +kernel
theorem d_Mo_complement_31 : decode b_Mo_complement 31 = .ok (.if_icmp .ne 7, 3) := by decide +kernel
theorem d_Mo_complement_34 : decode b_Mo_complement 34 = .ok (.iconst 3, 1) := by decide +kernel
theorem d_Mo_complement_35 : decode b_Mo_complement 35 = .ok (.goto 4, 3) := by decide +kernel
theorem d_Mo_complement_38 : decode b_Mo_complement 38 = .ok (.iconst 5, 1) := by decide +kernel
theorem d_Mo_complement_39 : decode b_Mo_complement 39 = .ok (.ireturn, 1) := by decide +kernel
theorem d_Mo_forget_0 : decode b_Mo_forget 0 = .ok (.aload_n 0, 1) := by decide +kernel
theorem d_Mo_forget_1 : decode b_Mo_forget 1 = .ok (.iconst 0, 1) := by decide +kernel
theorem d_Mo_forget_2 : decode b_Mo_forget 2 = .ok (.putfield 119, 3) := by decide +kernel
theorem d_Mo_forget_5 : decode b_Mo_forget 5 = .ok (.aload_n 0, 1) := by decide +kernel
theorem d_Mo_forget_6 : decode b_Mo_forget 6 = .ok (.iconst 0, 1) := by decide +kernel
theorem d_Mo_forget_7 : decode b_Mo_forget 7 = .ok (.putfield 122, 3) := by decide +kernel
theorem d_Mo_forget_10 : decode b_Mo_forget 10 = .ok (.aload_n 0, 1) := by decide +kernel
theorem d_Mo_forget_11 : decode b_Mo_forget 11 = .ok (.iconst 0, 1) := by decide +kernel
theorem d_Mo_forget_12 : decode b_Mo_forget 12 = .ok (.putfield 125, 3) := by decide +kernel
theorem d_Mo_forget_15 : decode b_Mo_forget 15 = .ok (.return_, 1) := by decide +kernel
theorem d_Mo_drop_0 : decode b_Mo_drop 0 = .ok (.aload_n 0, 1) := by decide +kernel
theorem d_Mo_drop_1 : decode b_Mo_drop 1 = .ok (.iconst 0, 1) := by decide +kernel
theorem d_Mo_drop_2 : decode b_Mo_drop 2 = .ok (.putfield 80, 3) := by decide +kernel
theorem d_Mo_drop_5 : decode b_Mo_drop 5 = .ok (.aload_n 0, 1) := by decide +kernel
theorem d_Mo_drop_6 : decode b_Mo_drop 6 = .ok (.getfield 112, 3) := by decide +kernel
theorem d_Mo_drop_9 : decode b_Mo_drop 9 = .ok (.istore_n 1, 1) := by decide +kernel
theorem d_Mo_drop_10 : decode b_Mo_drop 10 = .ok (.aload_n 0, 1) := by decide +kernel
theorem d_Mo_drop_11 : decode b_Mo_drop 11 = .ok (.iconst 0, 1) := by decide +kernel
theorem d_Mo_drop_12 : decode b_Mo_drop 12 = .ok (.putfield 112, 3) := by decide +kernel
theorem d_Mo_drop_15 : decode b_Mo_drop 15 = .ok (.iload_n 1, 1) := by decide +kernel
theorem d_Mo_drop_16 : decode b_Mo_drop 16 = .ok (.ifCond .eq 7, 3) := by decide +kernel
theorem d_Mo_drop_19 : decode b_Mo_drop 19 = .ok (.aload_n 0, 1) := by decide +kernel
theorem d_Mo_drop_20 : decode b_Mo_drop 20 = .ok (.invokevirtual 141, 3) := by decide +kernel
theorem d_Mo_drop_23 : decode b_Mo_drop 23 = .ok (.iload_n 1, 1) := by decide +kernel
theorem d_Mo_drop_24 : decode b_Mo_drop 24 = .ok (.ireturn, 1) := by decide +kernel
theorem d_Mo_isEnding_0 : decode b_Mo_isEnding 0 = .ok (.aload_n 0, 1) := by decide +kernel
theorem d_Mo_isEnding_1 : decode b_Mo_isEnding 1 = .ok (.getfield 112, 3) := by decide +kernel
theorem d_Mo_isEnding_4 : decode b_Mo_isEnding 4 = .ok (.ifCond .eq 19, 3) := by decide +kernel
theorem d_Mo_isEnding_7 : decode b_Mo_isEnding 7 = .ok (.iload_n 1, 1) := by decide +kernel
theorem d_Mo_isEnding_8 : decode b_Mo_isEnding 8 = .ok (.ifCond .lt 15, 3) := by decide +kernel
theorem d_Mo_isEnding_11 : decode b_Mo_isEnding 11 = .ok (.iload_n 1, 1) := by decide +kernel
theorem d_Mo_isEnding_12 : decode b_Mo_isEnding 12 = .ok (.aload_n 0, 1) := by decide +kernel
theorem d_Mo_isEnding_13 : decode b_Mo_isEnding 13 = .ok (.getfield 128, 3) := by decide +kernel
theorem d_Mo_isEnding_16 : decode b_Mo_isEnding 16 = .ok (.if_icmp .ge 7, 3) := by decide +kernel
theorem d_Mo_isEnding_19 : decode b_Mo_isEnding 19 = .ok (.iconst 1, 1) := by decide +kernel
theorem d_Mo_isEnding_20 : decode b_Mo_isEnding 20 = .ok (.goto 4, 3) := by decide +kernel
theorem d_Mo_isEnding_23 : decode b_Mo_isEnding 23 = .ok (.iconst 0, 1) := by decide +kernel
theorem d_Mo_isEnding_24 : decode b_Mo_isEnding 24 = .ok (.ireturn, 1) := by decide +kernel
theorem d_Mo_image_0 : decode b_Mo_image 0 = .ok (.aload_n 0, 1) := by decide +kernel
theorem d_Mo_image_1 : decode b_Mo_image 1 = .ok (.iconst 0, 1) := by decide +kernel
theorem d_Mo_image_2 : decode b_Mo_image 2 = .ok (.putfield 80, 3) := by decide +kernel
theorem d_Mo_image_5 : decode b_Mo_image 5 = .ok (.iload_n 1, 1) := by decide +kernel
theorem d_Mo_image_6 : decode b_Mo_image 6 = .ok (.ifCond .lt 20, 3) := by decide +kernel
theorem d_Mo_image_9 : decode b_Mo_image 9 = .ok (.iload_n 1, 1) := by decide +kernel
theorem d_Mo_image_10 : decode b_Mo_image 10 = .ok (.aload_n 0, 1) := by decide +kernel
theorem d_Mo_image_11 : decode b_Mo_image 11 = .ok (.getfield 230, 3) := by decide +kernel
theorem d_Mo_image_14 : decode b_Mo_image 14 = .ok (.if_icmp .ge 12, 3) := by decide +kernel
theorem d_Mo_image_17 : decode b_Mo_image 17 = .ok (.aload_n 0, 1) := by decide +kernel
theorem d_Mo_image_18 : decode b_Mo_image 18 = .ok (.getfield 53, 3) := by decide +kernel
theorem d_Mo_image_21 : decode b_Mo_image 21 = .ok (.iload_n 1, 1) := by decide +kernel
theorem d_Mo_image_22 : decode b_Mo_image 22 = .ok (.iaload, 1) := by decide +kernel
theorem d_Mo_image_23 : decode b_Mo_image 23 = .ok (.goto 4, 3) := by decide +kernel
theorem d_Mo_image_26 : decode b_Mo_image 26 = .ok (.iconst (-1), 1) := by decide +kernel
theorem d_Mo_image_27 : decode b_Mo_image 27 = .ok (.ireturn, 1) := by decide +kernel
theorem d_Mo_at_0 : decode b_Mo_at 0 = .ok (.iload_n 1, 1) := by decide +kernel
theorem d_Mo_at_1 : decode b_Mo_at 1 = .ok (.aload_n 0, 1) := by decide +kernel
theorem d_Mo_at_2 : decode b_Mo_at 2 = .ok (.getfield 230, 3) := by decide +kernel
theorem d_Mo_at_5 : decode b_Mo_at 5 = .ok (.if_icmp .ge 12, 3) := by decide +kernel
theorem d_Mo_at_8 : decode b_Mo_at 8 = .ok (.aload_n 0, 1) := by decide +kernel
theorem d_Mo_at_9 : decode b_Mo_at 9 = .ok (.getfield 53, 3) := by decide +kernel
theorem d_Mo_at_12 : decode b_Mo_at 12 = .ok (.iload_n 1, 1) := by decide +kernel
theorem d_Mo_at_13 : decode b_Mo_at 13 = .ok (.iaload, 1) := by decide +kernel
theorem d_Mo_at_14 : decode b_Mo_at 14 = .ok (.goto 4, 3) := by decide +kernel
theorem d_Mo_at_17 : decode b_Mo_at 17 = .ok (.iconst (-1), 1) := by decide +kernel
theorem d_Mo_at_18 : decode b_Mo_at 18 = .ok (.ireturn, 1) := by decide +kernel
theorem d_Mo_nameLength_0 : decode b_Mo_nameLength 0 = .ok (.iconst 0, 1) := by decide +kernel
theorem d_Mo_nameLength_1 : decode b_Mo_nameLength 1 = .ok (.istore_n 1, 1) := by decide +kernel
theorem d_Mo_nameLength_2 : decode b_Mo_nameLength 2 = .ok (.iload_n 1, 1) := by decide +kernel
theorem d_Mo_nameLength_3 : decode b_Mo_nameLength 3 = .ok (.aload_n 0, 1) := by decide +kernel
theorem d_Mo_nameLength_4 : decode b_Mo_nameLength 4 = .ok (.getfield 86, 3) := by decide +kernel
theorem d_Mo_nameLength_7 : decode b_Mo_nameLength 7 = .ok (.if_icmp .ge 27, 3) := by decide +kernel
theorem d_Mo_nameLength_10 : decode b_Mo_nameLength 10 = .ok (.iload_n 1, 1) := by decide +kernel
theorem d_Mo_nameLength_11 : decode b_Mo_nameLength 11 = .ok (.bipush 9, 2) := by decide +kernel
theorem d_Mo_nameLength_13 : decode b_Mo_nameLength 13 = .ok (.if_icmp .ge 21, 3) := by decide +kernel
theorem d_Mo_nameLength_16 : decode b_Mo_nameLength 16 = .ok (.aload_n 0, 1) := by decide +kernel
theorem d_Mo_nameLength_17 : decode b_Mo_nameLength 17 = .ok (.getfield 7, 3) := by decide +kernel
theorem d_Mo_nameLength_20 : decode b_Mo_nameLength 20 = .ok (.iload_n 1, 1) := by decide +kernel
theorem d_Mo_nameLength_21 : decode b_Mo_nameLength 21 = .ok (.caload, 1) := by decide +kernel
theorem d_Mo_nameLength_22 : decode b_Mo_nameLength 22 = .ok (.invokestatic 89, 3) := by decide +kernel
theorem d_Mo_nameLength_25 : decode b_Mo_nameLength 25 = .ok (.ifCond .eq 9, 3) := by decide +kernel
theorem d_Mo_nameLength_28 : decode b_Mo_nameLength 28 = .ok (.iinc 1 1, 3) := by decide +kernel
theorem d_Mo_nameLength_31 : decode b_Mo_nameLength 31 = .ok (.goto (-29), 3) := by decide +kernel
theorem d_Mo_nameLength_34 : decode b_Mo_nameLength 34 = .ok (.iload_n 1, 1) := by decide +kernel
theorem d_Mo_nameLength_35 : decode b_Mo_nameLength 35 = .ok (.bipush 8, 2) := by decide +kernel
theorem d_Mo_nameLength_37 : decode b_Mo_nameLength 37 = .ok (.if_icmp .gt 26, 3) := by decide +kernel
theorem d_Mo_nameLength_40 : decode b_Mo_nameLength 40 = .ok (.iload_n 1, 1) := by decide +kernel
theorem d_Mo_nameLength_41 : decode b_Mo_nameLength 41 = .ok (.aload_n 0, 1) := by decide +kernel
theorem d_Mo_nameLength_42 : decode b_Mo_nameLength 42 = .ok (.getfield 86, 3) := by decide +kernel
theorem d_Mo_nameLength_45 : decode b_Mo_nameLength 45 = .ok (.if_icmp .ge 18, 3) := by decide +kernel
theorem d_Mo_nameLength_48 : decode b_Mo_nameLength 48 = .ok (.aload_n 0, 1) := by decide +kernel
theorem d_Mo_nameLength_49 : decode b_Mo_nameLength 49 = .ok (.getfield 7, 3) := by decide +kernel
theorem d_Mo_nameLength_52 : decode b_Mo_nameLength 52 = .ok (.iload_n 1, 1) := by decide +kernel
theorem d_Mo_nameLength_53 : decode b_Mo_nameLength 53 = .ok (.caload, 1) := by decide +kernel
theorem d_Mo_nameLength_54 : decode b_Mo_nameLength 54 = .ok (.bipush 58, 2) := by decide +kernel
theorem d_Mo_nameLength_56 : decode b_Mo_nameLength 56 = .ok (.if_icmp .ne 7, 3) := by decide +kernel
theorem d_Mo_nameLength_59 : decode b_Mo_nameLength 59 = .ok (.iload_n 1, 1) := by decide +kernel
theorem d_Mo_nameLength_60 : decode b_Mo_nameLength 60 = .ok (.goto 4, 3) := by decide +kernel
theorem d_Mo_nameLength_63 : decode b_Mo_nameLength 63 = .ok (.iconst 0, 1) := by decide +kernel
theorem d_Mo_nameLength_64 : decode b_Mo_nameLength 64 = .ok (.ireturn, 1) := by decide +kernel
theorem d_Mo_basesEnd_0 : decode b_Mo_basesEnd 0 = .ok (.iload_n 1, 1) := by decide +kernel
theorem d_Mo_basesEnd_1 : decode b_Mo_basesEnd 1 = .ok (.istore_n 2, 1) := by decide +kernel
theorem d_Mo_basesEnd_2 : decode b_Mo_basesEnd 2 = .ok (.iload_n 2, 1) := by decide +kernel
theorem d_Mo_basesEnd_3 : decode b_Mo_basesEnd 3 = .ok (.aload_n 0, 1) := by decide +kernel
theorem d_Mo_basesEnd_4 : decode b_Mo_basesEnd 4 = .ok (.getfield 86, 3) := by decide +kernel
theorem d_Mo_basesEnd_7 : decode b_Mo_basesEnd 7 = .ok (.if_icmp .ge 21, 3) := by decide +kernel
theorem d_Mo_basesEnd_10 : decode b_Mo_basesEnd 10 = .ok (.aload_n 0, 1) := by decide +kernel
theorem d_Mo_basesEnd_11 : decode b_Mo_basesEnd 11 = .ok (.getfield 7, 3) := by decide +kernel
theorem d_Mo_basesEnd_14 : decode b_Mo_basesEnd 14 = .ok (.iload_n 2, 1) := by decide +kernel
theorem d_Mo_basesEnd_15 : decode b_Mo_basesEnd 15 = .ok (.caload, 1) := by decide +kernel
theorem d_Mo_basesEnd_16 : decode b_Mo_basesEnd 16 = .ok (.invokestatic 93, 3) := by decide +kernel
theorem d_Mo_basesEnd_19 : decode b_Mo_basesEnd 19 = .ok (.ifCond .le 9, 3) := by decide +kernel
theorem d_Mo_basesEnd_22 : decode b_Mo_basesEnd 22 = .ok (.iinc 2 1, 3) := by decide +kernel
theorem d_Mo_basesEnd_25 : decode b_Mo_basesEnd 25 = .ok (.goto (-23), 3) := by decide +kernel
theorem d_Mo_basesEnd_28 : decode b_Mo_basesEnd 28 = .ok (.iload_n 2, 1) := by decide +kernel
theorem d_Mo_basesEnd_29 : decode b_Mo_basesEnd 29 = .ok (.ireturn, 1) := by decide +kernel
theorem d_Mo_write_0 : decode b_Mo_write 0 = .ok (.aload_n 0, 1) := by decide +kernel
theorem d_Mo_write_1 : decode b_Mo_write 1 = .ok (.iconst 0, 1) := by decide +kernel
theorem d_Mo_write_2 : decode b_Mo_write 2 = .ok (.putfield 80, 3) := by decide +kernel
theorem d_Mo_write_5 : decode b_Mo_write 5 = .ok (.iconst 0, 1) := by decide +kernel
theorem d_Mo_write_6 : decode b_Mo_write 6 = .ok (.istore_n 3, 1) := by decide +kernel
theorem d_Mo_write_7 : decode b_Mo_write 7 = .ok (.bipush 56, 2) := by decide +kernel
theorem d_Mo_write_9 : decode b_Mo_write 9 = .ok (.istore 4, 2) := by decide +kernel
theorem d_Mo_write_11 : decode b_Mo_write 11 = .ok (.iload 4, 2) := by decide +kernel
theorem d_Mo_write_13 : decode b_Mo_write 13 = .ok (.ifCond .lt 58, 3) := by decide +kernel
theorem d_Mo_write_16 : decode b_Mo_write 16 = .ok (.lload_n 1, 1) := by decide +kernel
theorem d_Mo_write_17 : decode b_Mo_write 17 = .ok (.iload 4, 2) := by decide +kernel
theorem d_Mo_write_19 : decode b_Mo_write 19 = .ok (.lushr, 1) := by decide +kernel
theorem d_Mo_write_20 : decode b_Mo_write 20 = .ok (.ldc2_w 84, 3) := by decide +kernel
theorem d_Mo_write_23 : decode b_Mo_write 23 = .ok (.land, 1) := by decide +kernel
theorem d_Mo_write_24 : decode b_Mo_write 24 = .ok (.l2i, 1) := by decide +kernel
theorem d_Mo_write_25 : decode b_Mo_write 25 = .ok (.istore 5, 2) := by decide +kernel
theorem d_Mo_write_27 : decode b_Mo_write 27 = .ok (.iload 5, 2) := by decide +kernel
theorem d_Mo_write_29 : decode b_Mo_write 29 = .ok (.ifCond .eq 19, 3) := by decide +kernel
theorem d_Mo_write_32 : decode b_Mo_write 32 = .ok (.iload 5, 2) := by decide +kernel
theorem d_Mo_write_34 : decode b_Mo_write 34 = .ok (.bipush 32, 2) := by decide +kernel
theorem d_Mo_write_36 : decode b_Mo_write 36 = .ok (.if_icmp .lt 10, 3) := by decide +kernel
theorem d_Mo_write_39 : decode b_Mo_write 39 = .ok (.iload 5, 2) := by decide +kernel
theorem d_Mo_write_41 : decode b_Mo_write 41 = .ok (.bipush 126, 2) := by decide +kernel
theorem d_Mo_write_43 : decode b_Mo_write 43 = .ok (.if_icmp .le 5, 3) := by decide +kernel
theorem d_Mo_write_46 : decode b_Mo_write 46 = .ok (.iconst 0, 1) := by decide +kernel
theorem d_Mo_write_47 : decode b_Mo_write 47 = .ok (.ireturn, 1) := by decide +kernel
theorem d_Mo_write_48 : decode b_Mo_write 48 = .ok (.iload 5, 2) := by decide +kernel
theorem d_Mo_write_50 : decode b_Mo_write 50 = .ok (.ifCond .eq 9, 3) := by decide +kernel
theorem d_Mo_write_53 : decode b_Mo_write 53 = .ok (.iload_n 3, 1) := by decide +kernel
theorem d_Mo_write_54 : decode b_Mo_write 54 = .ok (.iconst 1, 1) := by decide +kernel
theorem d_Mo_write_55 : decode b_Mo_write 55 = .ok (.iadd, 1) := by decide +kernel
theorem d_Mo_write_56 : decode b_Mo_write 56 = .ok (.goto 4, 3) := by decide +kernel
theorem d_Mo_write_59 : decode b_Mo_write 59 = .ok (.iload_n 3, 1) := by decide +kernel
theorem d_Mo_write_60 : decode b_Mo_write 60 = .ok (.istore_n 3, 1) := by decide +kernel
theorem d_Mo_write_61 : decode b_Mo_write 61 = .ok (.iload 4, 2) := by decide +kernel
theorem d_Mo_write_63 : decode b_Mo_write 63 = .ok (.bipush 8, 2) := by decide +kernel
theorem d_Mo_write_65 : decode b_Mo_write 65 = .ok (.isub, 1) := by decide +kernel
theorem d_Mo_write_66 : decode b_Mo_write 66 = .ok (.istore 4, 2) := by decide +kernel
theorem d_Mo_write_68 : decode b_Mo_write 68 = .ok (.goto (-57), 3) := by decide +kernel
theorem d_Mo_write_71 : decode b_Mo_write 71 = .ok (.aload_n 0, 1) := by decide +kernel
theorem d_Mo_write_72 : decode b_Mo_write 72 = .ok (.getfield 86, 3) := by decide +kernel
theorem d_Mo_write_75 : decode b_Mo_write 75 = .ok (.iload_n 3, 1) := by decide +kernel
theorem d_Mo_write_76 : decode b_Mo_write 76 = .ok (.iadd, 1) := by decide +kernel
theorem d_Mo_write_77 : decode b_Mo_write 77 = .ok (.bipush 72, 2) := by decide +kernel
theorem d_Mo_write_79 : decode b_Mo_write 79 = .ok (.if_icmp .le 5, 3) := by decide +kernel
theorem d_Mo_write_82 : decode b_Mo_write 82 = .ok (.iconst 0, 1) := by decide +kernel
theorem d_Mo_write_83 : decode b_Mo_write 83 = .ok (.ireturn, 1) := by decide +kernel
theorem d_Mo_write_84 : decode b_Mo_write 84 = .ok (.bipush 56, 2) := by decide +kernel
theorem d_Mo_write_86 : decode b_Mo_write 86 = .ok (.istore 4, 2) := by decide +kernel
theorem d_Mo_write_88 : decode b_Mo_write 88 = .ok (.iload 4, 2) := by decide +kernel
theorem d_Mo_write_90 : decode b_Mo_write 90 = .ok (.ifCond .lt 51, 3) := by decide +kernel
theorem d_Mo_write_93 : decode b_Mo_write 93 = .ok (.lload_n 1, 1) := by decide +kernel
theorem d_Mo_write_94 : decode b_Mo_write 94 = .ok (.iload 4, 2) := by decide +kernel
theorem d_Mo_write_96 : decode b_Mo_write 96 = .ok (.lushr, 1) := by decide +kernel
theorem d_Mo_write_97 : decode b_Mo_write 97 = .ok (.ldc2_w 84, 3) := by decide +kernel
theorem d_Mo_write_100 : decode b_Mo_write 100 = .ok (.land, 1) := by decide +kernel
theorem d_Mo_write_101 : decode b_Mo_write 101 = .ok (.l2i, 1) := by decide +kernel
theorem d_Mo_write_102 : decode b_Mo_write 102 = .ok (.istore 5, 2) := by decide +kernel
theorem d_Mo_write_104 : decode b_Mo_write 104 = .ok (.iload 5, 2) := by decide +kernel
theorem d_Mo_write_106 : decode b_Mo_write 106 = .ok (.ifCond .eq 25, 3) := by decide +kernel
theorem d_Mo_write_109 : decode b_Mo_write 109 = .ok (.aload_n 0, 1) := by decide +kernel
theorem d_Mo_write_110 : decode b_Mo_write 110 = .ok (.getfield 7, 3) := by decide +kernel
theorem d_Mo_write_113 : decode b_Mo_write 113 = .ok (.aload_n 0, 1) := by decide +kernel
theorem d_Mo_write_114 : decode b_Mo_write 114 = .ok (.getfield 86, 3) := by decide +kernel
theorem d_Mo_write_117 : decode b_Mo_write 117 = .ok (.iload 5, 2) := by decide +kernel
theorem d_Mo_write_119 : decode b_Mo_write 119 = .ok (.i2c, 1) := by decide +kernel
theorem d_Mo_write_120 : decode b_Mo_write 120 = .ok (.castore, 1) := by decide +kernel
theorem d_Mo_write_121 : decode b_Mo_write 121 = .ok (.aload_n 0, 1) := by decide +kernel
theorem d_Mo_write_122 : decode b_Mo_write 122 = .ok (.dup, 1) := by decide +kernel
theorem d_Mo_write_123 : decode b_Mo_write 123 = .ok (.getfield 86, 3) := by decide +kernel
theorem d_Mo_write_126 : decode b_Mo_write 126 = .ok (.iconst 1, 1) := by decide +kernel
theorem d_Mo_write_127 : decode b_Mo_write 127 = .ok (.iadd, 1) := by decide +kernel
theorem d_Mo_write_128 : decode b_Mo_write 128 = .ok (.putfield 86, 3) := by decide +kernel
theorem d_Mo_write_131 : decode b_Mo_write 131 = .ok (.iload 4, 2) := by decide +kernel
theorem d_Mo_write_133 : decode b_Mo_write 133 = .ok (.bipush 8, 2) := by decide +kernel
theorem d_Mo_write_135 : decode b_Mo_write 135 = .ok (.isub, 1) := by decide +kernel
theorem d_Mo_write_136 : decode b_Mo_write 136 = .ok (.istore 4, 2) := by decide +kernel
theorem d_Mo_write_138 : decode b_Mo_write 138 = .ok (.goto (-50), 3) := by decide +kernel
theorem d_Mo_write_141 : decode b_Mo_write 141 = .ok (.iconst 1, 1) := by decide +kernel
theorem d_Mo_write_142 : decode b_Mo_write 142 = .ok (.ireturn, 1) := by decide +kernel
theorem d_Mo_spoil_0 : decode b_Mo_spoil 0 = .ok (.aload_n 0, 1) := by decide +kernel
theorem d_Mo_spoil_1 : decode b_Mo_spoil 1 = .ok (.iconst 0, 1) := by decide +kernel
theorem d_Mo_spoil_2 : decode b_Mo_spoil 2 = .ok (.putfield 80, 3) := by decide +kernel
theorem d_Mo_spoil_5 : decode b_Mo_spoil 5 = .ok (.iload_n 1, 1) := by decide +kernel
theorem d_Mo_spoil_6 : decode b_Mo_spoil 6 = .ok (.ifCond .lt 19, 3) := by decide +kernel
theorem d_Mo_spoil_9 : decode b_Mo_spoil 9 = .ok (.iload_n 1, 1) := by decide +kernel
theorem d_Mo_spoil_10 : decode b_Mo_spoil 10 = .ok (.aload_n 0, 1) := by decide +kernel
theorem d_Mo_spoil_11 : decode b_Mo_spoil 11 = .ok (.getfield 230, 3) := by decide +kernel
theorem d_Mo_spoil_14 : decode b_Mo_spoil 14 = .ok (.if_icmp .ge 11, 3) := by decide +kernel
theorem d_Mo_spoil_17 : decode b_Mo_spoil 17 = .ok (.iload_n 2, 1) := by decide +kernel
theorem d_Mo_spoil_18 : decode b_Mo_spoil 18 = .ok (.sipush 255, 3) := by decide +kernel
theorem d_Mo_spoil_21 : decode b_Mo_spoil 21 = .ok (.iand, 1) := by decide +kernel
theorem d_Mo_spoil_22 : decode b_Mo_spoil 22 = .ok (.ifCond .ne 5, 3) := by decide +kernel
theorem d_Mo_spoil_25 : decode b_Mo_spoil 25 = .ok (.iconst 0, 1) := by decide +kernel
theorem d_Mo_spoil_26 : decode b_Mo_spoil 26 = .ok (.ireturn, 1) := by decide +kernel
theorem d_Mo_spoil_27 : decode b_Mo_spoil 27 = .ok (.aload_n 0, 1) := by decide +kernel
theorem d_Mo_spoil_28 : decode b_Mo_spoil 28 = .ok (.getfield 53, 3) := by decide +kernel
theorem d_Mo_spoil_31 : decode b_Mo_spoil 31 = .ok (.iload_n 1, 1) := by decide +kernel
theorem d_Mo_spoil_32 : decode b_Mo_spoil 32 = .ok (.aload_n 0, 1) := by decide +kernel
theorem d_Mo_spoil_33 : decode b_Mo_spoil 33 = .ok (.getfield 53, 3) := by decide +kernel
theorem d_Mo_spoil_36 : decode b_Mo_spoil 36 = .ok (.iload_n 1, 1) := by decide +kernel
theorem d_Mo_spoil_37 : decode b_Mo_spoil 37 = .ok (.iaload, 1) := by decide +kernel
theorem d_Mo_spoil_38 : decode b_Mo_spoil 38 = .ok (.iload_n 2, 1) := by decide +kernel
theorem d_Mo_spoil_39 : decode b_Mo_spoil 39 = .ok (.sipush 255, 3) := by decide +kernel
theorem d_Mo_spoil_42 : decode b_Mo_spoil 42 = .ok (.iand, 1) := by decide +kernel
theorem d_Mo_spoil_43 : decode b_Mo_spoil 43 = .ok (.ixor, 1) := by decide +kernel
theorem d_Mo_spoil_44 : decode b_Mo_spoil 44 = .ok (.iastore, 1) := by decide +kernel
theorem d_Mo_spoil_45 : decode b_Mo_spoil 45 = .ok (.iconst 1, 1) := by decide +kernel
theorem d_Mo_spoil_46 : decode b_Mo_spoil 46 = .ok (.ireturn, 1) := by decide +kernel
theorem d_Mo_cut_0 : decode b_Mo_cut 0 = .ok (.aload_n 0, 1) := by decide +kernel
theorem d_Mo_cut_1 : decode b_Mo_cut 1 = .ok (.iconst 0, 1) := by decide +kernel
theorem d_Mo_cut_2 : decode b_Mo_cut 2 = .ok (.putfield 80, 3) := by decide +kernel
theorem d_Mo_cut_5 : decode b_Mo_cut 5 = .ok (.aload_n 0, 1) := by decide +kernel
theorem d_Mo_cut_6 : decode b_Mo_cut 6 = .ok (.getfield 230, 3) := by decide +kernel
theorem d_Mo_cut_9 : decode b_Mo_cut 9 = .ok (.ifCond .ne 5, 3) := by decide +kernel
theorem d_Mo_cut_12 : decode b_Mo_cut 12 = .ok (.iconst 0, 1) := by decide +kernel
theorem d_Mo_cut_13 : decode b_Mo_cut 13 = .ok (.ireturn, 1) := by decide +kernel
theorem d_Mo_cut_14 : decode b_Mo_cut 14 = .ok (.aload_n 0, 1) := by decide +kernel
theorem d_Mo_cut_15 : decode b_Mo_cut 15 = .ok (.dup, 1) := by decide +kernel
theorem d_Mo_cut_16 : decode b_Mo_cut 16 = .ok (.getfield 230, 3) := by decide +kernel
theorem d_Mo_cut_19 : decode b_Mo_cut 19 = .ok (.iconst 1, 1) := by decide +kernel
theorem d_Mo_cut_20 : decode b_Mo_cut 20 = .ok (.isub, 1) := by decide +kernel
theorem d_Mo_cut_21 : decode b_Mo_cut 21 = .ok (.putfield 230, 3) := by decide +kernel
theorem d_Mo_cut_24 : decode b_Mo_cut 24 = .ok (.iconst 1, 1) := by decide +kernel
theorem d_Mo_cut_25 : decode b_Mo_cut 25 = .ok (.ireturn, 1) := by decide +kernel
theorem d_Mo_make_0 : decode b_Mo_make 0 = .ok (.aload_n 0, 1) := by decide +kernel
theorem d_Mo_make_1 : decode b_Mo_make 1 = .ok (.getfield 56, 3) := by decide +kernel
theorem d_Mo_make_4 : decode b_Mo_make 4 = .ok (.aload_n 0, 1) := by decide +kernel
theorem d_Mo_make_5 : decode b_Mo_make 5 = .ok (.getfield 221, 3) := by decide +kernel
theorem d_Mo_make_8 : decode b_Mo_make 8 = .ok (.iload_n 1, 1) := by decide +kernel
theorem d_Mo_make_9 : decode b_Mo_make 9 = .ok (.iastore, 1) := by decide +kernel
theorem d_Mo_make_10 : decode b_Mo_make 10 = .ok (.aload_n 0, 1) := by decide +kernel
theorem d_Mo_make_11 : decode b_Mo_make 11 = .ok (.dup, 1) := by decide +kernel
theorem d_Mo_make_12 : decode b_Mo_make 12 = .ok (.getfield 221, 3) := by decide +kernel
theorem d_Mo_make_15 : decode b_Mo_make 15 = .ok (.iconst 1, 1) := by decide +kernel
theorem d_Mo_make_16 : decode b_Mo_make 16 = .ok (.iadd, 1) := by decide +kernel
theorem d_Mo_make_17 : decode b_Mo_make 17 = .ok (.putfield 221, 3) := by decide +kernel
theorem d_Mo_make_20 : decode b_Mo_make 20 = .ok (.return_, 1) := by decide +kernel
theorem d_Mo_say_0 : decode b_Mo_say 0 = .ok (.aload_n 0, 1) := by decide +kernel
theorem d_Mo_say_1 : decode b_Mo_say 1 = .ok (.getfield 50, 3) := by decide +kernel
theorem d_Mo_say_4 : decode b_Mo_say 4 = .ok (.aload_n 0, 1) := by decide +kernel
theorem d_Mo_say_5 : decode b_Mo_say 5 = .ok (.getfield 153, 3) := by decide +kernel
theorem d_Mo_say_8 : decode b_Mo_say 8 = .ok (.iload_n 1, 1) := by decide +kernel
theorem d_Mo_say_9 : decode b_Mo_say 9 = .ok (.castore, 1) := by decide +kernel
theorem d_Mo_say_10 : decode b_Mo_say 10 = .ok (.aload_n 0, 1) := by decide +kernel
theorem d_Mo_say_11 : decode b_Mo_say 11 = .ok (.dup, 1) := by decide +kernel
theorem d_Mo_say_12 : decode b_Mo_say 12 = .ok (.getfield 153, 3) := by decide +kernel
theorem d_Mo_say_15 : decode b_Mo_say 15 = .ok (.iconst 1, 1) := by decide +kernel
theorem d_Mo_say_16 : decode b_Mo_say 16 = .ok (.iadd, 1) := by decide +kernel
theorem d_Mo_say_17 : decode b_Mo_say 17 = .ok (.putfield 153, 3) := by decide +kernel
theorem d_Mo_say_20 : decode b_Mo_say 20 = .ok (.return_, 1) := by decide +kernel
theorem d_Mo_tab_0 : decode b_Mo_tab 0 = .ok (.aload_n 0, 1) := by decide +kernel
theorem d_Mo_tab_1 : decode b_Mo_tab 1 = .ok (.bipush 9, 2) := by decide +kernel
theorem d_Mo_tab_3 : decode b_Mo_tab 3 = .ok (.invokevirtual 189, 3) := by decide +kernel
theorem d_Mo_tab_6 : decode b_Mo_tab 6 = .ok (.return_, 1) := by decide +kernel
set_option maxHeartbeats 4000000 in
set_option maxRecDepth 100000 in
theorem c_Mo_thrown (l : Launch) (D : va_G) (cA : Nat → ClassId) (K : Nat → Nat) (mo ta aN aS aC aB aR aO aW aD a1 a2 a3 a4 aL aY aM bN bS bC bB bR bO aU : Nat) (rd mp gd : Bool) (zt ir : Int32) (np tot rt pl sg rn rs nh td ms ip it il : Nat) (L J : List Int32) : ck_I l y_Mo_thrown (Cond.code y_Mo_thrown b_Mo_thrown 1 (some .int) :: w_all) 1 D cA K [.ref mo] [(mo, .inr (8, [.int zt, .int (nI L.length), .ref ta, .int (nI np), .ref aN, .ref aS, .ref aC, .int (nI tot), .ref aB, .int (bz_c rd), .int (nI rt), .int (nI pl), .ref aR, .ref aO, .int (nI sg), .ref aW, .int (bz_c mp), .int (nI rn), .int (nI rs), .int (bz_c gd), .ref aD, .int (nI nh), .ref a1, .ref a2, .ref a3, .ref a4, .int (nI td), .ref aL, .int (nI J.length), .ref aY, .int (nI ms), .ref aM, .int (nI ip), .int (nI it), .int ir, .int (nI il), .ref bN, .ref bS, .ref bC, .ref bB, .ref bR, .ref bO, .ref aU]))] (fun (r : Int32) (u : Unit) => r = zt) (fun u => [(mo, .inr (8, [.int zt, .int (nI L.length), .ref ta, .int (nI np), .ref aN, .ref aS, .ref aC, .int (nI tot), .ref aB, .int (bz_c rd), .int (nI rt), .int (nI pl), .ref aR, .ref aO, .int (nI sg), .ref aW, .int (bz_c mp), .int (nI rn), .int (nI rs), .int (bz_c gd), .ref aD, .int (nI nh), .ref a1, .ref a2, .ref a3, .ref a4, .int (nI td), .ref aL, .int (nI J.length), .ref aY, .int (nI ms), .ref aM, .int (nI ip), .int (nI it), .int ir, .int (nI il), .ref bN, .ref bS, .ref bC, .ref bB, .ref bR, .ref bO, .ref aU]))]) := by
  refine ck_mkI (by decide) (fun _ _ _ => rfl) (Nat.le_of_ble_eq_true rfl) ?_
  intro pG eG sG mG argsG belowG methG cG Q A H locs ls hx hb hml hown hts hK hE hA hP hD hS hl hret
  have hl : lv_has ls 1 [(0, .ref mo)] := hl
  refine lv_aload_n hx hb d_Mo_thrown_0 rfl (lv_at hl 0 rfl) ?_
  refine va_get (C := RX8) (T := TX8) (N := 43) hx hb hts inX8 hown hK hP 0 rfl rfl 0 (by decide) (hts _ m_845) (fun _ h9 => h9) rfl d_Mo_thrown_1 ?_
  exact hret zt () _ _ _ 4 d_Mo_thrown_4 rfl hP hD hS
theorem k_Mo_thrown : cf_V y_Mo_thrown b_Mo_thrown 1 (some .int) "ReadMapperModel" 0 := ⟨⟨m_977, m_978, m_9, m_979⟩, by decide +kernel⟩
set_option maxHeartbeats 4000000 in
set_option maxRecDepth 100000 in
theorem c_Mo_inName (l : Launch) (D : va_G) (cA : Nat → ClassId) (K : Nat → Nat) (x : Int32) : ck_I l y_Mo_inName (Cond.code y_Mo_inName b_Mo_inName 1 (some .boolean) :: w_all) 1 D cA K [.int x] [] (fun (r : Int32) (u : Unit) => (r = 1 ∧ nm_c x) ∨ (r = 0 ∧ ¬ nm_c x)) (fun u => []) := by
  refine ck_mkI (by decide) (fun r u h => by rcases h with ⟨rfl, _⟩ | ⟨rfl, _⟩ <;> rfl) (Nat.le_of_ble_eq_true rfl) ?_
  intro pG eG sG mG argsG belowG methG cG Q A H locs ls hx hb hml hown hts hK hE hA hP hD hS hl hret
  have hl : lv_has ls 1 [(0, .int x)] := hl
  refine lv_iload_n hx hb d_Mo_inName_0 rfl (lv_at hl 0 rfl) ?_
  refine lv_bipush (v := 97) hx hb d_Mo_inName_1 (by decide) ?_
  refine lv_icmp_lt (tgt := 12) hx hb d_Mo_inName_3 (by decide) ?_ ?_
  · intro h3
    refine lv_iload_n hx hb d_Mo_inName_12 rfl (lv_at hl 0 rfl) ?_
    refine lv_bipush (v := 65) hx hb d_Mo_inName_13 (by decide) ?_
    refine lv_icmp_lt (tgt := 24) hx hb d_Mo_inName_15 (by decide) ?_ ?_
    · intro h15
      refine lv_iload_n hx hb d_Mo_inName_24 rfl (lv_at hl 0 rfl) ?_
      refine lv_bipush (v := 48) hx hb d_Mo_inName_25 (by decide) ?_
      refine lv_icmp_lt (tgt := 36) hx hb d_Mo_inName_27 (by decide) ?_ ?_
      · intro h27
        refine lv_iload_n hx hb d_Mo_inName_36 rfl (lv_at hl 0 rfl) ?_
        refine lv_bipush (v := 95) hx hb d_Mo_inName_37 (by decide) ?_
        refine lv_icmp_ne (tgt := 46) hx hb d_Mo_inName_39 (by decide) ?_ ?_
        · intro h39
          refine lv_iconst (v := 0) hx hb d_Mo_inName_46 (by decide) ?_
          exact hret 0 () _ _ _ 47 d_Mo_inName_47 (by first | exact Or.inl ⟨rfl, Or.inl ⟨h3, h9⟩⟩ | exact Or.inl ⟨rfl, Or.inr (Or.inl ⟨h15, h21⟩)⟩ | exact Or.inl ⟨rfl, Or.inr (Or.inr (Or.inl ⟨h27, h33⟩))⟩ | exact Or.inl ⟨rfl, Or.inr (Or.inr (Or.inr h39))⟩ | exact Or.inr ⟨rfl, fun z => by rcases z with ⟨a, b⟩ | ⟨a, b⟩ | ⟨a, b⟩ | a <;> first | exact a h3 | exact h9 b | exact a h15 | exact h21 b | exact a h27 | exact h33 b | exact h39 a⟩) hP hD hS
        · intro h39
          refine lv_iconst (v := 1) hx hb d_Mo_inName_42 (by decide) ?_
          refine lv_goto (tgt := 47) hx hb d_Mo_inName_43 (by decide) ?_
          exact hret 1 () _ _ _ 47 d_Mo_inName_47 (by first | exact Or.inl ⟨rfl, Or.inl ⟨h3, h9⟩⟩ | exact Or.inl ⟨rfl, Or.inr (Or.inl ⟨h15, h21⟩)⟩ | exact Or.inl ⟨rfl, Or.inr (Or.inr (Or.inl ⟨h27, h33⟩))⟩ | exact Or.inl ⟨rfl, Or.inr (Or.inr (Or.inr h39))⟩ | exact Or.inr ⟨rfl, fun z => by rcases z with ⟨a, b⟩ | ⟨a, b⟩ | ⟨a, b⟩ | a <;> first | exact a h3 | exact h9 b | exact a h15 | exact h21 b | exact a h27 | exact h33 b | exact h39 a⟩) hP hD hS
      · intro h27
        refine lv_iload_n hx hb d_Mo_inName_30 rfl (lv_at hl 0 rfl) ?_
        refine lv_bipush (v := 57) hx hb d_Mo_inName_31 (by decide) ?_
        refine lv_icmp_le (tgt := 42) hx hb d_Mo_inName_33 (by decide) ?_ ?_
        · intro h33
          refine lv_iconst (v := 1) hx hb d_Mo_inName_42 (by decide) ?_
          refine lv_goto (tgt := 47) hx hb d_Mo_inName_43 (by decide) ?_
          exact hret 1 () _ _ _ 47 d_Mo_inName_47 (by first | exact Or.inl ⟨rfl, Or.inl ⟨h3, h9⟩⟩ | exact Or.inl ⟨rfl, Or.inr (Or.inl ⟨h15, h21⟩)⟩ | exact Or.inl ⟨rfl, Or.inr (Or.inr (Or.inl ⟨h27, h33⟩))⟩ | exact Or.inl ⟨rfl, Or.inr (Or.inr (Or.inr h39))⟩ | exact Or.inr ⟨rfl, fun z => by rcases z with ⟨a, b⟩ | ⟨a, b⟩ | ⟨a, b⟩ | a <;> first | exact a h3 | exact h9 b | exact a h15 | exact h21 b | exact a h27 | exact h33 b | exact h39 a⟩) hP hD hS
        · intro h33
          refine lv_iload_n hx hb d_Mo_inName_36 rfl (lv_at hl 0 rfl) ?_
          refine lv_bipush (v := 95) hx hb d_Mo_inName_37 (by decide) ?_
          refine lv_icmp_ne (tgt := 46) hx hb d_Mo_inName_39 (by decide) ?_ ?_
          · intro h39
            refine lv_iconst (v := 0) hx hb d_Mo_inName_46 (by decide) ?_
            exact hret 0 () _ _ _ 47 d_Mo_inName_47 (by first | exact Or.inl ⟨rfl, Or.inl ⟨h3, h9⟩⟩ | exact Or.inl ⟨rfl, Or.inr (Or.inl ⟨h15, h21⟩)⟩ | exact Or.inl ⟨rfl, Or.inr (Or.inr (Or.inl ⟨h27, h33⟩))⟩ | exact Or.inl ⟨rfl, Or.inr (Or.inr (Or.inr h39))⟩ | exact Or.inr ⟨rfl, fun z => by rcases z with ⟨a, b⟩ | ⟨a, b⟩ | ⟨a, b⟩ | a <;> first | exact a h3 | exact h9 b | exact a h15 | exact h21 b | exact a h27 | exact h33 b | exact h39 a⟩) hP hD hS
          · intro h39
            refine lv_iconst (v := 1) hx hb d_Mo_inName_42 (by decide) ?_
            refine lv_goto (tgt := 47) hx hb d_Mo_inName_43 (by decide) ?_
            exact hret 1 () _ _ _ 47 d_Mo_inName_47 (by first | exact Or.inl ⟨rfl, Or.inl ⟨h3, h9⟩⟩ | exact Or.inl ⟨rfl, Or.inr (Or.inl ⟨h15, h21⟩)⟩ | exact Or.inl ⟨rfl, Or.inr (Or.inr (Or.inl ⟨h27, h33⟩))⟩ | exact Or.inl ⟨rfl, Or.inr (Or.inr (Or.inr h39))⟩ | exact Or.inr ⟨rfl, fun z => by rcases z with ⟨a, b⟩ | ⟨a, b⟩ | ⟨a, b⟩ | a <;> first | exact a h3 | exact h9 b | exact a h15 | exact h21 b | exact a h27 | exact h33 b | exact h39 a⟩) hP hD hS
    · intro h15
      refine lv_iload_n hx hb d_Mo_inName_18 rfl (lv_at hl 0 rfl) ?_
      refine lv_bipush (v := 90) hx hb d_Mo_inName_19 (by decide) ?_
      refine lv_icmp_le (tgt := 42) hx hb d_Mo_inName_21 (by decide) ?_ ?_
      · intro h21
        refine lv_iconst (v := 1) hx hb d_Mo_inName_42 (by decide) ?_
        refine lv_goto (tgt := 47) hx hb d_Mo_inName_43 (by decide) ?_
        exact hret 1 () _ _ _ 47 d_Mo_inName_47 (by first | exact Or.inl ⟨rfl, Or.inl ⟨h3, h9⟩⟩ | exact Or.inl ⟨rfl, Or.inr (Or.inl ⟨h15, h21⟩)⟩ | exact Or.inl ⟨rfl, Or.inr (Or.inr (Or.inl ⟨h27, h33⟩))⟩ | exact Or.inl ⟨rfl, Or.inr (Or.inr (Or.inr h39))⟩ | exact Or.inr ⟨rfl, fun z => by rcases z with ⟨a, b⟩ | ⟨a, b⟩ | ⟨a, b⟩ | a <;> first | exact a h3 | exact h9 b | exact a h15 | exact h21 b | exact a h27 | exact h33 b | exact h39 a⟩) hP hD hS
      · intro h21
        refine lv_iload_n hx hb d_Mo_inName_24 rfl (lv_at hl 0 rfl) ?_
        refine lv_bipush (v := 48) hx hb d_Mo_inName_25 (by decide) ?_
        refine lv_icmp_lt (tgt := 36) hx hb d_Mo_inName_27 (by decide) ?_ ?_
        · intro h27
          refine lv_iload_n hx hb d_Mo_inName_36 rfl (lv_at hl 0 rfl) ?_
          refine lv_bipush (v := 95) hx hb d_Mo_inName_37 (by decide) ?_
          refine lv_icmp_ne (tgt := 46) hx hb d_Mo_inName_39 (by decide) ?_ ?_
          · intro h39
            refine lv_iconst (v := 0) hx hb d_Mo_inName_46 (by decide) ?_
            exact hret 0 () _ _ _ 47 d_Mo_inName_47 (by first | exact Or.inl ⟨rfl, Or.inl ⟨h3, h9⟩⟩ | exact Or.inl ⟨rfl, Or.inr (Or.inl ⟨h15, h21⟩)⟩ | exact Or.inl ⟨rfl, Or.inr (Or.inr (Or.inl ⟨h27, h33⟩))⟩ | exact Or.inl ⟨rfl, Or.inr (Or.inr (Or.inr h39))⟩ | exact Or.inr ⟨rfl, fun z => by rcases z with ⟨a, b⟩ | ⟨a, b⟩ | ⟨a, b⟩ | a <;> first | exact a h3 | exact h9 b | exact a h15 | exact h21 b | exact a h27 | exact h33 b | exact h39 a⟩) hP hD hS
          · intro h39
            refine lv_iconst (v := 1) hx hb d_Mo_inName_42 (by decide) ?_
            refine lv_goto (tgt := 47) hx hb d_Mo_inName_43 (by decide) ?_
            exact hret 1 () _ _ _ 47 d_Mo_inName_47 (by first | exact Or.inl ⟨rfl, Or.inl ⟨h3, h9⟩⟩ | exact Or.inl ⟨rfl, Or.inr (Or.inl ⟨h15, h21⟩)⟩ | exact Or.inl ⟨rfl, Or.inr (Or.inr (Or.inl ⟨h27, h33⟩))⟩ | exact Or.inl ⟨rfl, Or.inr (Or.inr (Or.inr h39))⟩ | exact Or.inr ⟨rfl, fun z => by rcases z with ⟨a, b⟩ | ⟨a, b⟩ | ⟨a, b⟩ | a <;> first | exact a h3 | exact h9 b | exact a h15 | exact h21 b | exact a h27 | exact h33 b | exact h39 a⟩) hP hD hS
        · intro h27
          refine lv_iload_n hx hb d_Mo_inName_30 rfl (lv_at hl 0 rfl) ?_
          refine lv_bipush (v := 57) hx hb d_Mo_inName_31 (by decide) ?_
          refine lv_icmp_le (tgt := 42) hx hb d_Mo_inName_33 (by decide) ?_ ?_
          · intro h33
            refine lv_iconst (v := 1) hx hb d_Mo_inName_42 (by decide) ?_
            refine lv_goto (tgt := 47) hx hb d_Mo_inName_43 (by decide) ?_
            exact hret 1 () _ _ _ 47 d_Mo_inName_47 (by first | exact Or.inl ⟨rfl, Or.inl ⟨h3, h9⟩⟩ | exact Or.inl ⟨rfl, Or.inr (Or.inl ⟨h15, h21⟩)⟩ | exact Or.inl ⟨rfl, Or.inr (Or.inr (Or.inl ⟨h27, h33⟩))⟩ | exact Or.inl ⟨rfl, Or.inr (Or.inr (Or.inr h39))⟩ | exact Or.inr ⟨rfl, fun z => by rcases z with ⟨a, b⟩ | ⟨a, b⟩ | ⟨a, b⟩ | a <;> first | exact a h3 | exact h9 b | exact a h15 | exact h21 b | exact a h27 | exact h33 b | exact h39 a⟩) hP hD hS
          · intro h33
            refine lv_iload_n hx hb d_Mo_inName_36 rfl (lv_at hl 0 rfl) ?_
            refine lv_bipush (v := 95) hx hb d_Mo_inName_37 (by decide) ?_
            refine lv_icmp_ne (tgt := 46) hx hb d_Mo_inName_39 (by decide) ?_ ?_
            · intro h39
              refine lv_iconst (v := 0) hx hb d_Mo_inName_46 (by decide) ?_
              exact hret 0 () _ _ _ 47 d_Mo_inName_47 (by first | exact Or.inl ⟨rfl, Or.inl ⟨h3, h9⟩⟩ | exact Or.inl ⟨rfl, Or.inr (Or.inl ⟨h15, h21⟩)⟩ | exact Or.inl ⟨rfl, Or.inr (Or.inr (Or.inl ⟨h27, h33⟩))⟩ | exact Or.inl ⟨rfl, Or.inr (Or.inr (Or.inr h39))⟩ | exact Or.inr ⟨rfl, fun z => by rcases z with ⟨a, b⟩ | ⟨a, b⟩ | ⟨a, b⟩ | a <;> first | exact a h3 | exact h9 b | exact a h15 | exact h21 b | exact a h27 | exact h33 b | exact h39 a⟩) hP hD hS
            · intro h39
              refine lv_iconst (v := 1) hx hb d_Mo_inName_42 (by decide) ?_
              refine lv_goto (tgt := 47) hx hb d_Mo_inName_43 (by decide) ?_
              exact hret 1 () _ _ _ 47 d_Mo_inName_47 (by first | exact Or.inl ⟨rfl, Or.inl ⟨h3, h9⟩⟩ | exact Or.inl ⟨rfl, Or.inr (Or.inl ⟨h15, h21⟩)⟩ | exact Or.inl ⟨rfl, Or.inr (Or.inr (Or.inl ⟨h27, h33⟩))⟩ | exact Or.inl ⟨rfl, Or.inr (Or.inr (Or.inr h39))⟩ | exact Or.inr ⟨rfl, fun z => by rcases z with ⟨a, b⟩ | ⟨a, b⟩ | ⟨a, b⟩ | a <;> first | exact a h3 | exact h9 b | exact a h15 | exact h21 b | exact a h27 | exact h33 b | exact h39 a⟩) hP hD hS
  · intro h3
    refine lv_iload_n hx hb d_Mo_inName_6 rfl (lv_at hl 0 rfl) ?_
    refine lv_bipush (v := 122) hx hb d_Mo_inName_7 (by decide) ?_
    refine lv_icmp_le (tgt := 42) hx hb d_Mo_inName_9 (by decide) ?_ ?_
    · intro h9
      refine lv_iconst (v := 1) hx hb d_Mo_inName_42 (by decide) ?_
      refine lv_goto (tgt := 47) hx hb d_Mo_inName_43 (by decide) ?_
      exact hret 1 () _ _ _ 47 d_Mo_inName_47 (by first | exact Or.inl ⟨rfl, Or.inl ⟨h3, h9⟩⟩ | exact Or.inl ⟨rfl, Or.inr (Or.inl ⟨h15, h21⟩)⟩ | exact Or.inl ⟨rfl, Or.inr (Or.inr (Or.inl ⟨h27, h33⟩))⟩ | exact Or.inl ⟨rfl, Or.inr (Or.inr (Or.inr h39))⟩ | exact Or.inr ⟨rfl, fun z => by rcases z with ⟨a, b⟩ | ⟨a, b⟩ | ⟨a, b⟩ | a <;> first | exact a h3 | exact h9 b | exact a h15 | exact h21 b | exact a h27 | exact h33 b | exact h39 a⟩) hP hD hS
    · intro h9
      refine lv_iload_n hx hb d_Mo_inName_12 rfl (lv_at hl 0 rfl) ?_
      refine lv_bipush (v := 65) hx hb d_Mo_inName_13 (by decide) ?_
      refine lv_icmp_lt (tgt := 24) hx hb d_Mo_inName_15 (by decide) ?_ ?_
      · intro h15
        refine lv_iload_n hx hb d_Mo_inName_24 rfl (lv_at hl 0 rfl) ?_
        refine lv_bipush (v := 48) hx hb d_Mo_inName_25 (by decide) ?_
        refine lv_icmp_lt (tgt := 36) hx hb d_Mo_inName_27 (by decide) ?_ ?_
        · intro h27
          refine lv_iload_n hx hb d_Mo_inName_36 rfl (lv_at hl 0 rfl) ?_
          refine lv_bipush (v := 95) hx hb d_Mo_inName_37 (by decide) ?_
          refine lv_icmp_ne (tgt := 46) hx hb d_Mo_inName_39 (by decide) ?_ ?_
          · intro h39
            refine lv_iconst (v := 0) hx hb d_Mo_inName_46 (by decide) ?_
            exact hret 0 () _ _ _ 47 d_Mo_inName_47 (by first | exact Or.inl ⟨rfl, Or.inl ⟨h3, h9⟩⟩ | exact Or.inl ⟨rfl, Or.inr (Or.inl ⟨h15, h21⟩)⟩ | exact Or.inl ⟨rfl, Or.inr (Or.inr (Or.inl ⟨h27, h33⟩))⟩ | exact Or.inl ⟨rfl, Or.inr (Or.inr (Or.inr h39))⟩ | exact Or.inr ⟨rfl, fun z => by rcases z with ⟨a, b⟩ | ⟨a, b⟩ | ⟨a, b⟩ | a <;> first | exact a h3 | exact h9 b | exact a h15 | exact h21 b | exact a h27 | exact h33 b | exact h39 a⟩) hP hD hS
          · intro h39
            refine lv_iconst (v := 1) hx hb d_Mo_inName_42 (by decide) ?_
            refine lv_goto (tgt := 47) hx hb d_Mo_inName_43 (by decide) ?_
            exact hret 1 () _ _ _ 47 d_Mo_inName_47 (by first | exact Or.inl ⟨rfl, Or.inl ⟨h3, h9⟩⟩ | exact Or.inl ⟨rfl, Or.inr (Or.inl ⟨h15, h21⟩)⟩ | exact Or.inl ⟨rfl, Or.inr (Or.inr (Or.inl ⟨h27, h33⟩))⟩ | exact Or.inl ⟨rfl, Or.inr (Or.inr (Or.inr h39))⟩ | exact Or.inr ⟨rfl, fun z => by rcases z with ⟨a, b⟩ | ⟨a, b⟩ | ⟨a, b⟩ | a <;> first | exact a h3 | exact h9 b | exact a h15 | exact h21 b | exact a h27 | exact h33 b | exact h39 a⟩) hP hD hS
        · intro h27
          refine lv_iload_n hx hb d_Mo_inName_30 rfl (lv_at hl 0 rfl) ?_
          refine lv_bipush (v := 57) hx hb d_Mo_inName_31 (by decide) ?_
          refine lv_icmp_le (tgt := 42) hx hb d_Mo_inName_33 (by decide) ?_ ?_
          · intro h33
            refine lv_iconst (v := 1) hx hb d_Mo_inName_42 (by decide) ?_
            refine lv_goto (tgt := 47) hx hb d_Mo_inName_43 (by decide) ?_
            exact hret 1 () _ _ _ 47 d_Mo_inName_47 (by first | exact Or.inl ⟨rfl, Or.inl ⟨h3, h9⟩⟩ | exact Or.inl ⟨rfl, Or.inr (Or.inl ⟨h15, h21⟩)⟩ | exact Or.inl ⟨rfl, Or.inr (Or.inr (Or.inl ⟨h27, h33⟩))⟩ | exact Or.inl ⟨rfl, Or.inr (Or.inr (Or.inr h39))⟩ | exact Or.inr ⟨rfl, fun z => by rcases z with ⟨a, b⟩ | ⟨a, b⟩ | ⟨a, b⟩ | a <;> first | exact a h3 | exact h9 b | exact a h15 | exact h21 b | exact a h27 | exact h33 b | exact h39 a⟩) hP hD hS
          · intro h33
            refine lv_iload_n hx hb d_Mo_inName_36 rfl (lv_at hl 0 rfl) ?_
            refine lv_bipush (v := 95) hx hb d_Mo_inName_37 (by decide) ?_
            refine lv_icmp_ne (tgt := 46) hx hb d_Mo_inName_39 (by decide) ?_ ?_
            · intro h39
              refine lv_iconst (v := 0) hx hb d_Mo_inName_46 (by decide) ?_
              exact hret 0 () _ _ _ 47 d_Mo_inName_47 (by first | exact Or.inl ⟨rfl, Or.inl ⟨h3, h9⟩⟩ | exact Or.inl ⟨rfl, Or.inr (Or.inl ⟨h15, h21⟩)⟩ | exact Or.inl ⟨rfl, Or.inr (Or.inr (Or.inl ⟨h27, h33⟩))⟩ | exact Or.inl ⟨rfl, Or.inr (Or.inr (Or.inr h39))⟩ | exact Or.inr ⟨rfl, fun z => by rcases z with ⟨a, b⟩ | ⟨a, b⟩ | ⟨a, b⟩ | a <;> first | exact a h3 | exact h9 b | exact a h15 | exact h21 b | exact a h27 | exact h33 b | exact h39 a⟩) hP hD hS
            · intro h39
              refine lv_iconst (v := 1) hx hb d_Mo_inName_42 (by decide) ?_
              refine lv_goto (tgt := 47) hx hb d_Mo_inName_43 (by decide) ?_
              exact hret 1 () _ _ _ 47 d_Mo_inName_47 (by first | exact Or.inl ⟨rfl, Or.inl ⟨h3, h9⟩⟩ | exact Or.inl ⟨rfl, Or.inr (Or.inl ⟨h15, h21⟩)⟩ | exact Or.inl ⟨rfl, Or.inr (Or.inr (Or.inl ⟨h27, h33⟩))⟩ | exact Or.inl ⟨rfl, Or.inr (Or.inr (Or.inr h39))⟩ | exact Or.inr ⟨rfl, fun z => by rcases z with ⟨a, b⟩ | ⟨a, b⟩ | ⟨a, b⟩ | a <;> first | exact a h3 | exact h9 b | exact a h15 | exact h21 b | exact a h27 | exact h33 b | exact h39 a⟩) hP hD hS
      · intro h15
        refine lv_iload_n hx hb d_Mo_inName_18 rfl (lv_at hl 0 rfl) ?_
        refine lv_bipush (v := 90) hx hb d_Mo_inName_19 (by decide) ?_
        refine lv_icmp_le (tgt := 42) hx hb d_Mo_inName_21 (by decide) ?_ ?_
        · intro h21
          refine lv_iconst (v := 1) hx hb d_Mo_inName_42 (by decide) ?_
          refine lv_goto (tgt := 47) hx hb d_Mo_inName_43 (by decide) ?_
          exact hret 1 () _ _ _ 47 d_Mo_inName_47 (by first | exact Or.inl ⟨rfl, Or.inl ⟨h3, h9⟩⟩ | exact Or.inl ⟨rfl, Or.inr (Or.inl ⟨h15, h21⟩)⟩ | exact Or.inl ⟨rfl, Or.inr (Or.inr (Or.inl ⟨h27, h33⟩))⟩ | exact Or.inl ⟨rfl, Or.inr (Or.inr (Or.inr h39))⟩ | exact Or.inr ⟨rfl, fun z => by rcases z with ⟨a, b⟩ | ⟨a, b⟩ | ⟨a, b⟩ | a <;> first | exact a h3 | exact h9 b | exact a h15 | exact h21 b | exact a h27 | exact h33 b | exact h39 a⟩) hP hD hS
        · intro h21
          refine lv_iload_n hx hb d_Mo_inName_24 rfl (lv_at hl 0 rfl) ?_
          refine lv_bipush (v := 48) hx hb d_Mo_inName_25 (by decide) ?_
          refine lv_icmp_lt (tgt := 36) hx hb d_Mo_inName_27 (by decide) ?_ ?_
          · intro h27
            refine lv_iload_n hx hb d_Mo_inName_36 rfl (lv_at hl 0 rfl) ?_
            refine lv_bipush (v := 95) hx hb d_Mo_inName_37 (by decide) ?_
            refine lv_icmp_ne (tgt := 46) hx hb d_Mo_inName_39 (by decide) ?_ ?_
            · intro h39
              refine lv_iconst (v := 0) hx hb d_Mo_inName_46 (by decide) ?_
              exact hret 0 () _ _ _ 47 d_Mo_inName_47 (by first | exact Or.inl ⟨rfl, Or.inl ⟨h3, h9⟩⟩ | exact Or.inl ⟨rfl, Or.inr (Or.inl ⟨h15, h21⟩)⟩ | exact Or.inl ⟨rfl, Or.inr (Or.inr (Or.inl ⟨h27, h33⟩))⟩ | exact Or.inl ⟨rfl, Or.inr (Or.inr (Or.inr h39))⟩ | exact Or.inr ⟨rfl, fun z => by rcases z with ⟨a, b⟩ | ⟨a, b⟩ | ⟨a, b⟩ | a <;> first | exact a h3 | exact h9 b | exact a h15 | exact h21 b | exact a h27 | exact h33 b | exact h39 a⟩) hP hD hS
            · intro h39
              refine lv_iconst (v := 1) hx hb d_Mo_inName_42 (by decide) ?_
              refine lv_goto (tgt := 47) hx hb d_Mo_inName_43 (by decide) ?_
              exact hret 1 () _ _ _ 47 d_Mo_inName_47 (by first | exact Or.inl ⟨rfl, Or.inl ⟨h3, h9⟩⟩ | exact Or.inl ⟨rfl, Or.inr (Or.inl ⟨h15, h21⟩)⟩ | exact Or.inl ⟨rfl, Or.inr (Or.inr (Or.inl ⟨h27, h33⟩))⟩ | exact Or.inl ⟨rfl, Or.inr (Or.inr (Or.inr h39))⟩ | exact Or.inr ⟨rfl, fun z => by rcases z with ⟨a, b⟩ | ⟨a, b⟩ | ⟨a, b⟩ | a <;> first | exact a h3 | exact h9 b | exact a h15 | exact h21 b | exact a h27 | exact h33 b | exact h39 a⟩) hP hD hS
          · intro h27
            refine lv_iload_n hx hb d_Mo_inName_30 rfl (lv_at hl 0 rfl) ?_
            refine lv_bipush (v := 57) hx hb d_Mo_inName_31 (by decide) ?_
            refine lv_icmp_le (tgt := 42) hx hb d_Mo_inName_33 (by decide) ?_ ?_
            · intro h33
              refine lv_iconst (v := 1) hx hb d_Mo_inName_42 (by decide) ?_
              refine lv_goto (tgt := 47) hx hb d_Mo_inName_43 (by decide) ?_
              exact hret 1 () _ _ _ 47 d_Mo_inName_47 (by first | exact Or.inl ⟨rfl, Or.inl ⟨h3, h9⟩⟩ | exact Or.inl ⟨rfl, Or.inr (Or.inl ⟨h15, h21⟩)⟩ | exact Or.inl ⟨rfl, Or.inr (Or.inr (Or.inl ⟨h27, h33⟩))⟩ | exact Or.inl ⟨rfl, Or.inr (Or.inr (Or.inr h39))⟩ | exact Or.inr ⟨rfl, fun z => by rcases z with ⟨a, b⟩ | ⟨a, b⟩ | ⟨a, b⟩ | a <;> first | exact a h3 | exact h9 b | exact a h15 | exact h21 b | exact a h27 | exact h33 b | exact h39 a⟩) hP hD hS
            · intro h33
              refine lv_iload_n hx hb d_Mo_inName_36 rfl (lv_at hl 0 rfl) ?_
              refine lv_bipush (v := 95) hx hb d_Mo_inName_37 (by decide) ?_
              refine lv_icmp_ne (tgt := 46) hx hb d_Mo_inName_39 (by decide) ?_ ?_
              · intro h39
                refine lv_iconst (v := 0) hx hb d_Mo_inName_46 (by decide) ?_
                exact hret 0 () _ _ _ 47 d_Mo_inName_47 (by first | exact Or.inl ⟨rfl, Or.inl ⟨h3, h9⟩⟩ | exact Or.inl ⟨rfl, Or.inr (Or.inl ⟨h15, h21⟩)⟩ | exact Or.inl ⟨rfl, Or.inr (Or.inr (Or.inl ⟨h27, h33⟩))⟩ | exact Or.inl ⟨rfl, Or.inr (Or.inr (Or.inr h39))⟩ | exact Or.inr ⟨rfl, fun z => by rcases z with ⟨a, b⟩ | ⟨a, b⟩ | ⟨a, b⟩ | a <;> first | exact a h3 | exact h9 b | exact a h15 | exact h21 b | exact a h27 | exact h33 b | exact h39 a⟩) hP hD hS
              · intro h39
                refine lv_iconst (v := 1) hx hb d_Mo_inName_42 (by decide) ?_
                refine lv_goto (tgt := 47) hx hb d_Mo_inName_43 (by decide) ?_
                exact hret 1 () _ _ _ 47 d_Mo_inName_47 (by first | exact Or.inl ⟨rfl, Or.inl ⟨h3, h9⟩⟩ | exact Or.inl ⟨rfl, Or.inr (Or.inl ⟨h15, h21⟩)⟩ | exact Or.inl ⟨rfl, Or.inr (Or.inr (Or.inl ⟨h27, h33⟩))⟩ | exact Or.inl ⟨rfl, Or.inr (Or.inr (Or.inr h39))⟩ | exact Or.inr ⟨rfl, fun z => by rcases z with ⟨a, b⟩ | ⟨a, b⟩ | ⟨a, b⟩ | a <;> first | exact a h3 | exact h9 b | exact a h15 | exact h21 b | exact a h27 | exact h33 b | exact h39 a⟩) hP hD hS
theorem k_Mo_inName : cf_S y_Mo_inName b_Mo_inName 1 (some .boolean) 1 := ⟨⟨m_994, m_9, m_995⟩, by decide +kernel⟩
set_option maxHeartbeats 4000000 in
set_option maxRecDepth 100000 in
theorem c_Mo_symbol (l : Launch) (D : va_G) (cA : Nat → ClassId) (K : Nat → Nat) (x : Int32) : ck_I l y_Mo_symbol (Cond.code y_Mo_symbol b_Mo_symbol 1 (some .int) :: w_all) 1 D cA K [.int x] [] (fun (r : Int32) (u : Unit) => r = sy_c x) (fun u => []) := by
  refine ck_mkI (by decide) (fun _ _ _ => rfl) (Nat.le_of_ble_eq_true rfl) ?_
  intro pG eG sG mG argsG belowG methG cG Q A H locs ls hx hb hml hown hts hK hE hA hP hD hS hl hret
  have hl : lv_has ls 1 [(0, .int x)] := hl
  refine lv_iload_n hx hb d_Mo_symbol_0 rfl (lv_at hl 0 rfl) ?_
  refine lv_bipush (v := 65) hx hb d_Mo_symbol_1 (by decide) ?_
  refine lv_icmp_ne (tgt := 10) hx hb d_Mo_symbol_3 (by decide) ?_ ?_
  · intro h3
    refine lv_iload_n hx hb d_Mo_symbol_10 rfl (lv_at hl 0 rfl) ?_
    refine lv_bipush (v := 67) hx hb d_Mo_symbol_11 (by decide) ?_
    refine lv_icmp_ne (tgt := 20) hx hb d_Mo_symbol_13 (by decide) ?_ ?_
    · intro h13
      refine lv_iload_n hx hb d_Mo_symbol_20 rfl (lv_at hl 0 rfl) ?_
      refine lv_bipush (v := 71) hx hb d_Mo_symbol_21 (by decide) ?_
      refine lv_icmp_ne (tgt := 30) hx hb d_Mo_symbol_23 (by decide) ?_ ?_
      · intro h23
        refine lv_iload_n hx hb d_Mo_symbol_30 rfl (lv_at hl 0 rfl) ?_
        refine lv_bipush (v := 78) hx hb d_Mo_symbol_31 (by decide) ?_
        refine lv_icmp_ne (tgt := 40) hx hb d_Mo_symbol_33 (by decide) ?_ ?_
        · intro h33
          refine lv_iload_n hx hb d_Mo_symbol_40 rfl (lv_at hl 0 rfl) ?_
          refine lv_bipush (v := 84) hx hb d_Mo_symbol_41 (by decide) ?_
          refine lv_icmp_ne (tgt := 51) hx hb d_Mo_symbol_43 (by decide) ?_ ?_
          · intro h43
            refine lv_iconst (v := (-1)) hx hb d_Mo_symbol_51 (by decide) ?_
            exact hret (-1) () _ _ _ 52 d_Mo_symbol_52 (by first | (unfold sy_c; rw [if_pos h3.symm]) | (unfold sy_c; rw [if_neg (fun e => h3 e.symm), if_pos h13.symm]) | (unfold sy_c; rw [if_neg (fun e => h3 e.symm), if_neg (fun e => h13 e.symm), if_pos h23.symm]) | (unfold sy_c; rw [if_neg (fun e => h3 e.symm), if_neg (fun e => h13 e.symm), if_neg (fun e => h23 e.symm), if_pos h33.symm]) | (unfold sy_c; rw [if_neg (fun e => h3 e.symm), if_neg (fun e => h13 e.symm), if_neg (fun e => h23 e.symm), if_neg (fun e => h33 e.symm), if_pos h43.symm]) | (unfold sy_c; rw [if_neg (fun e => h3 e.symm), if_neg (fun e => h13 e.symm), if_neg (fun e => h23 e.symm), if_neg (fun e => h33 e.symm), if_neg (fun e => h43 e.symm)])) hP hD hS
          · intro h43
            refine lv_bipush (v := 6) hx hb d_Mo_symbol_46 (by decide) ?_
            refine lv_goto (tgt := 52) hx hb d_Mo_symbol_48 (by decide) ?_
            exact hret 6 () _ _ _ 52 d_Mo_symbol_52 (by first | (unfold sy_c; rw [if_pos h3.symm]) | (unfold sy_c; rw [if_neg (fun e => h3 e.symm), if_pos h13.symm]) | (unfold sy_c; rw [if_neg (fun e => h3 e.symm), if_neg (fun e => h13 e.symm), if_pos h23.symm]) | (unfold sy_c; rw [if_neg (fun e => h3 e.symm), if_neg (fun e => h13 e.symm), if_neg (fun e => h23 e.symm), if_pos h33.symm]) | (unfold sy_c; rw [if_neg (fun e => h3 e.symm), if_neg (fun e => h13 e.symm), if_neg (fun e => h23 e.symm), if_neg (fun e => h33 e.symm), if_pos h43.symm]) | (unfold sy_c; rw [if_neg (fun e => h3 e.symm), if_neg (fun e => h13 e.symm), if_neg (fun e => h23 e.symm), if_neg (fun e => h33 e.symm), if_neg (fun e => h43 e.symm)])) hP hD hS
        · intro h33
          refine lv_iconst (v := 5) hx hb d_Mo_symbol_36 (by decide) ?_
          refine lv_goto (tgt := 52) hx hb d_Mo_symbol_37 (by decide) ?_
          exact hret 5 () _ _ _ 52 d_Mo_symbol_52 (by first | (unfold sy_c; rw [if_pos h3.symm]) | (unfold sy_c; rw [if_neg (fun e => h3 e.symm), if_pos h13.symm]) | (unfold sy_c; rw [if_neg (fun e => h3 e.symm), if_neg (fun e => h13 e.symm), if_pos h23.symm]) | (unfold sy_c; rw [if_neg (fun e => h3 e.symm), if_neg (fun e => h13 e.symm), if_neg (fun e => h23 e.symm), if_pos h33.symm]) | (unfold sy_c; rw [if_neg (fun e => h3 e.symm), if_neg (fun e => h13 e.symm), if_neg (fun e => h23 e.symm), if_neg (fun e => h33 e.symm), if_pos h43.symm]) | (unfold sy_c; rw [if_neg (fun e => h3 e.symm), if_neg (fun e => h13 e.symm), if_neg (fun e => h23 e.symm), if_neg (fun e => h33 e.symm), if_neg (fun e => h43 e.symm)])) hP hD hS
      · intro h23
        refine lv_iconst (v := 4) hx hb d_Mo_symbol_26 (by decide) ?_
        refine lv_goto (tgt := 52) hx hb d_Mo_symbol_27 (by decide) ?_
        exact hret 4 () _ _ _ 52 d_Mo_symbol_52 (by first | (unfold sy_c; rw [if_pos h3.symm]) | (unfold sy_c; rw [if_neg (fun e => h3 e.symm), if_pos h13.symm]) | (unfold sy_c; rw [if_neg (fun e => h3 e.symm), if_neg (fun e => h13 e.symm), if_pos h23.symm]) | (unfold sy_c; rw [if_neg (fun e => h3 e.symm), if_neg (fun e => h13 e.symm), if_neg (fun e => h23 e.symm), if_pos h33.symm]) | (unfold sy_c; rw [if_neg (fun e => h3 e.symm), if_neg (fun e => h13 e.symm), if_neg (fun e => h23 e.symm), if_neg (fun e => h33 e.symm), if_pos h43.symm]) | (unfold sy_c; rw [if_neg (fun e => h3 e.symm), if_neg (fun e => h13 e.symm), if_neg (fun e => h23 e.symm), if_neg (fun e => h33 e.symm), if_neg (fun e => h43 e.symm)])) hP hD hS
    · intro h13
      refine lv_iconst (v := 3) hx hb d_Mo_symbol_16 (by decide) ?_
      refine lv_goto (tgt := 52) hx hb d_Mo_symbol_17 (by decide) ?_
      exact hret 3 () _ _ _ 52 d_Mo_symbol_52 (by first | (unfold sy_c; rw [if_pos h3.symm]) | (unfold sy_c; rw [if_neg (fun e => h3 e.symm), if_pos h13.symm]) | (unfold sy_c; rw [if_neg (fun e => h3 e.symm), if_neg (fun e => h13 e.symm), if_pos h23.symm]) | (unfold sy_c; rw [if_neg (fun e => h3 e.symm), if_neg (fun e => h13 e.symm), if_neg (fun e => h23 e.symm), if_pos h33.symm]) | (unfold sy_c; rw [if_neg (fun e => h3 e.symm), if_neg (fun e => h13 e.symm), if_neg (fun e => h23 e.symm), if_neg (fun e => h33 e.symm), if_pos h43.symm]) | (unfold sy_c; rw [if_neg (fun e => h3 e.symm), if_neg (fun e => h13 e.symm), if_neg (fun e => h23 e.symm), if_neg (fun e => h33 e.symm), if_neg (fun e => h43 e.symm)])) hP hD hS
  · intro h3
    refine lv_iconst (v := 2) hx hb d_Mo_symbol_6 (by decide) ?_
    refine lv_goto (tgt := 52) hx hb d_Mo_symbol_7 (by decide) ?_
    exact hret 2 () _ _ _ 52 d_Mo_symbol_52 (by first | (unfold sy_c; rw [if_pos h3.symm]) | (unfold sy_c; rw [if_neg (fun e => h3 e.symm), if_pos h13.symm]) | (unfold sy_c; rw [if_neg (fun e => h3 e.symm), if_neg (fun e => h13 e.symm), if_pos h23.symm]) | (unfold sy_c; rw [if_neg (fun e => h3 e.symm), if_neg (fun e => h13 e.symm), if_neg (fun e => h23 e.symm), if_pos h33.symm]) | (unfold sy_c; rw [if_neg (fun e => h3 e.symm), if_neg (fun e => h13 e.symm), if_neg (fun e => h23 e.symm), if_neg (fun e => h33 e.symm), if_pos h43.symm]) | (unfold sy_c; rw [if_neg (fun e => h3 e.symm), if_neg (fun e => h13 e.symm), if_neg (fun e => h23 e.symm), if_neg (fun e => h33 e.symm), if_neg (fun e => h43 e.symm)])) hP hD hS
theorem k_Mo_symbol : cf_S y_Mo_symbol b_Mo_symbol 1 (some .int) 1 := ⟨⟨m_1001, m_9, m_1002⟩, by decide +kernel⟩
set_option maxHeartbeats 4000000 in
set_option maxRecDepth 100000 in
theorem c_Mo_shown (l : Launch) (D : va_G) (cA : Nat → ClassId) (K : Nat → Nat) (x : Int32) : ck_I l y_Mo_shown (Cond.code y_Mo_shown b_Mo_shown 1 (some .char) :: w_all) 1 D cA K [.int x] [] (fun (r : Int32) (u : Unit) => r = lt_c x) (fun u => []) := by
  refine ck_mkI (by decide) (fun r u h => by subst h; exact lt_fit _) (Nat.le_of_ble_eq_true rfl) ?_
  intro pG eG sG mG argsG belowG methG cG Q A H locs ls hx hb hml hown hts hK hE hA hP hD hS hl hret
  have hl : lv_has ls 1 [(0, .int x)] := hl
  refine lv_iload_n hx hb d_Mo_shown_0 rfl (lv_at hl 0 rfl) ?_
  refine lv_iconst (v := 2) hx hb d_Mo_shown_1 (by decide) ?_
  refine lv_icmp_ne (tgt := 10) hx hb d_Mo_shown_2 (by decide) ?_ ?_
  · intro h2
    refine lv_iload_n hx hb d_Mo_shown_10 rfl (lv_at hl 0 rfl) ?_
    refine lv_iconst (v := 3) hx hb d_Mo_shown_11 (by decide) ?_
    refine lv_icmp_ne (tgt := 20) hx hb d_Mo_shown_12 (by decide) ?_ ?_
    · intro h12
      refine lv_iload_n hx hb d_Mo_shown_20 rfl (lv_at hl 0 rfl) ?_
      refine lv_iconst (v := 4) hx hb d_Mo_shown_21 (by decide) ?_
      refine lv_icmp_ne (tgt := 30) hx hb d_Mo_shown_22 (by decide) ?_ ?_
      · intro h22
        refine lv_iload_n hx hb d_Mo_shown_30 rfl (lv_at hl 0 rfl) ?_
        refine lv_iconst (v := 5) hx hb d_Mo_shown_31 (by decide) ?_
        refine lv_icmp_ne (tgt := 40) hx hb d_Mo_shown_32 (by decide) ?_ ?_
        · intro h32
          refine lv_iload_n hx hb d_Mo_shown_40 rfl (lv_at hl 0 rfl) ?_
          refine lv_bipush (v := 6) hx hb d_Mo_shown_41 (by decide) ?_
          refine lv_icmp_ne (tgt := 51) hx hb d_Mo_shown_43 (by decide) ?_ ?_
          · intro h43
            refine lv_bipush (v := 35) hx hb d_Mo_shown_51 (by decide) ?_
            exact hret 35 () _ _ _ 53 d_Mo_shown_53 (by first | (unfold lt_c; rw [if_pos h2]) | (unfold lt_c; rw [if_neg h2, if_pos h12]) | (unfold lt_c; rw [if_neg h2, if_neg h12, if_pos h22]) | (unfold lt_c; rw [if_neg h2, if_neg h12, if_neg h22, if_pos h32]) | (unfold lt_c; rw [if_neg h2, if_neg h12, if_neg h22, if_neg h32, if_pos h43]) | (unfold lt_c; rw [if_neg h2, if_neg h12, if_neg h22, if_neg h32, if_neg h43])) hP hD hS
          · intro h43
            refine lv_bipush (v := 84) hx hb d_Mo_shown_46 (by decide) ?_
            refine lv_goto (tgt := 53) hx hb d_Mo_shown_48 (by decide) ?_
            exact hret 84 () _ _ _ 53 d_Mo_shown_53 (by first | (unfold lt_c; rw [if_pos h2]) | (unfold lt_c; rw [if_neg h2, if_pos h12]) | (unfold lt_c; rw [if_neg h2, if_neg h12, if_pos h22]) | (unfold lt_c; rw [if_neg h2, if_neg h12, if_neg h22, if_pos h32]) | (unfold lt_c; rw [if_neg h2, if_neg h12, if_neg h22, if_neg h32, if_pos h43]) | (unfold lt_c; rw [if_neg h2, if_neg h12, if_neg h22, if_neg h32, if_neg h43])) hP hD hS
        · intro h32
          refine lv_bipush (v := 78) hx hb d_Mo_shown_35 (by decide) ?_
          refine lv_goto (tgt := 53) hx hb d_Mo_shown_37 (by decide) ?_
          exact hret 78 () _ _ _ 53 d_Mo_shown_53 (by first | (unfold lt_c; rw [if_pos h2]) | (unfold lt_c; rw [if_neg h2, if_pos h12]) | (unfold lt_c; rw [if_neg h2, if_neg h12, if_pos h22]) | (unfold lt_c; rw [if_neg h2, if_neg h12, if_neg h22, if_pos h32]) | (unfold lt_c; rw [if_neg h2, if_neg h12, if_neg h22, if_neg h32, if_pos h43]) | (unfold lt_c; rw [if_neg h2, if_neg h12, if_neg h22, if_neg h32, if_neg h43])) hP hD hS
      · intro h22
        refine lv_bipush (v := 71) hx hb d_Mo_shown_25 (by decide) ?_
        refine lv_goto (tgt := 53) hx hb d_Mo_shown_27 (by decide) ?_
        exact hret 71 () _ _ _ 53 d_Mo_shown_53 (by first | (unfold lt_c; rw [if_pos h2]) | (unfold lt_c; rw [if_neg h2, if_pos h12]) | (unfold lt_c; rw [if_neg h2, if_neg h12, if_pos h22]) | (unfold lt_c; rw [if_neg h2, if_neg h12, if_neg h22, if_pos h32]) | (unfold lt_c; rw [if_neg h2, if_neg h12, if_neg h22, if_neg h32, if_pos h43]) | (unfold lt_c; rw [if_neg h2, if_neg h12, if_neg h22, if_neg h32, if_neg h43])) hP hD hS
    · intro h12
      refine lv_bipush (v := 67) hx hb d_Mo_shown_15 (by decide) ?_
      refine lv_goto (tgt := 53) hx hb d_Mo_shown_17 (by decide) ?_
      exact hret 67 () _ _ _ 53 d_Mo_shown_53 (by first | (unfold lt_c; rw [if_pos h2]) | (unfold lt_c; rw [if_neg h2, if_pos h12]) | (unfold lt_c; rw [if_neg h2, if_neg h12, if_pos h22]) | (unfold lt_c; rw [if_neg h2, if_neg h12, if_neg h22, if_pos h32]) | (unfold lt_c; rw [if_neg h2, if_neg h12, if_neg h22, if_neg h32, if_pos h43]) | (unfold lt_c; rw [if_neg h2, if_neg h12, if_neg h22, if_neg h32, if_neg h43])) hP hD hS
  · intro h2
    refine lv_bipush (v := 65) hx hb d_Mo_shown_5 (by decide) ?_
    refine lv_goto (tgt := 53) hx hb d_Mo_shown_7 (by decide) ?_
    exact hret 65 () _ _ _ 53 d_Mo_shown_53 (by first | (unfold lt_c; rw [if_pos h2]) | (unfold lt_c; rw [if_neg h2, if_pos h12]) | (unfold lt_c; rw [if_neg h2, if_neg h12, if_pos h22]) | (unfold lt_c; rw [if_neg h2, if_neg h12, if_neg h22, if_pos h32]) | (unfold lt_c; rw [if_neg h2, if_neg h12, if_neg h22, if_neg h32, if_pos h43]) | (unfold lt_c; rw [if_neg h2, if_neg h12, if_neg h22, if_neg h32, if_neg h43])) hP hD hS
theorem k_Mo_shown : cf_S y_Mo_shown b_Mo_shown 1 (some .char) 1 := ⟨⟨m_1135, m_9, m_1136⟩, by decide +kernel⟩
set_option maxHeartbeats 4000000 in
set_option maxRecDepth 100000 in
theorem c_Mo_complement (l : Launch) (D : va_G) (cA : Nat → ClassId) (K : Nat → Nat) (x : Int32) : ck_I l y_Mo_complement (Cond.code y_Mo_complement b_Mo_complement 1 (some .int) :: w_all) 1 D cA K [.int x] [] (fun (r : Int32) (u : Unit) => r = cp_c x) (fun u => []) := by
  refine ck_mkI (by decide) (fun _ _ _ => rfl) (Nat.le_of_ble_eq_true rfl) ?_
  intro pG eG sG mG argsG belowG methG cG Q A H locs ls hx hb hml hown hts hK hE hA hP hD hS hl hret
  have hl : lv_has ls 1 [(0, .int x)] := hl
  refine lv_iload_n hx hb d_Mo_complement_0 rfl (lv_at hl 0 rfl) ?_
  refine lv_iconst (v := 2) hx hb d_Mo_complement_1 (by decide) ?_
  refine lv_icmp_ne (tgt := 10) hx hb d_Mo_complement_2 (by decide) ?_ ?_
  · intro h2
    refine lv_iload_n hx hb d_Mo_complement_10 rfl (lv_at hl 0 rfl) ?_
    refine lv_bipush (v := 6) hx hb d_Mo_complement_11 (by decide) ?_
    refine lv_icmp_ne (tgt := 20) hx hb d_Mo_complement_13 (by decide) ?_ ?_
    · intro h13
      refine lv_iload_n hx hb d_Mo_complement_20 rfl (lv_at hl 0 rfl) ?_
      refine lv_iconst (v := 3) hx hb d_Mo_complement_21 (by decide) ?_
      refine lv_icmp_ne (tgt := 29) hx hb d_Mo_complement_22 (by decide) ?_ ?_
      · intro h22
        refine lv_iload_n hx hb d_Mo_complement_29 rfl (lv_at hl 0 rfl) ?_
        refine lv_iconst (v := 4) hx hb d_Mo_complement_30 (by decide) ?_
        refine lv_icmp_ne (tgt := 38) hx hb d_Mo_complement_31 (by decide) ?_ ?_
        · intro h31
          refine lv_iconst (v := 5) hx hb d_Mo_complement_38 (by decide) ?_
          exact hret 5 () _ _ _ 39 d_Mo_complement_39 (by first | (unfold cp_c; rw [if_pos h2]) | (unfold cp_c; rw [if_neg h2, if_pos h13]) | (unfold cp_c; rw [if_neg h2, if_neg h13, if_pos h22]) | (unfold cp_c; rw [if_neg h2, if_neg h13, if_neg h22, if_pos h31]) | (unfold cp_c; rw [if_neg h2, if_neg h13, if_neg h22, if_neg h31])) hP hD hS
        · intro h31
          refine lv_iconst (v := 3) hx hb d_Mo_complement_34 (by decide) ?_
          refine lv_goto (tgt := 39) hx hb d_Mo_complement_35 (by decide) ?_
          exact hret 3 () _ _ _ 39 d_Mo_complement_39 (by first | (unfold cp_c; rw [if_pos h2]) | (unfold cp_c; rw [if_neg h2, if_pos h13]) | (unfold cp_c; rw [if_neg h2, if_neg h13, if_pos h22]) | (unfold cp_c; rw [if_neg h2, if_neg h13, if_neg h22, if_pos h31]) | (unfold cp_c; rw [if_neg h2, if_neg h13, if_neg h22, if_neg h31])) hP hD hS
      · intro h22
        refine lv_iconst (v := 4) hx hb d_Mo_complement_25 (by decide) ?_
        refine lv_goto (tgt := 39) hx hb d_Mo_complement_26 (by decide) ?_
        exact hret 4 () _ _ _ 39 d_Mo_complement_39 (by first | (unfold cp_c; rw [if_pos h2]) | (unfold cp_c; rw [if_neg h2, if_pos h13]) | (unfold cp_c; rw [if_neg h2, if_neg h13, if_pos h22]) | (unfold cp_c; rw [if_neg h2, if_neg h13, if_neg h22, if_pos h31]) | (unfold cp_c; rw [if_neg h2, if_neg h13, if_neg h22, if_neg h31])) hP hD hS
    · intro h13
      refine lv_iconst (v := 2) hx hb d_Mo_complement_16 (by decide) ?_
      refine lv_goto (tgt := 39) hx hb d_Mo_complement_17 (by decide) ?_
      exact hret 2 () _ _ _ 39 d_Mo_complement_39 (by first | (unfold cp_c; rw [if_pos h2]) | (unfold cp_c; rw [if_neg h2, if_pos h13]) | (unfold cp_c; rw [if_neg h2, if_neg h13, if_pos h22]) | (unfold cp_c; rw [if_neg h2, if_neg h13, if_neg h22, if_pos h31]) | (unfold cp_c; rw [if_neg h2, if_neg h13, if_neg h22, if_neg h31])) hP hD hS
  · intro h2
    refine lv_bipush (v := 6) hx hb d_Mo_complement_5 (by decide) ?_
    refine lv_goto (tgt := 39) hx hb d_Mo_complement_7 (by decide) ?_
    exact hret 6 () _ _ _ 39 d_Mo_complement_39 (by first | (unfold cp_c; rw [if_pos h2]) | (unfold cp_c; rw [if_neg h2, if_pos h13]) | (unfold cp_c; rw [if_neg h2, if_neg h13, if_pos h22]) | (unfold cp_c; rw [if_neg h2, if_neg h13, if_neg h22, if_pos h31]) | (unfold cp_c; rw [if_neg h2, if_neg h13, if_neg h22, if_neg h31])) hP hD hS
theorem k_Mo_complement : cf_S y_Mo_complement b_Mo_complement 1 (some .int) 1 := ⟨⟨m_1084, m_9, m_1085⟩, by decide +kernel⟩
set_option maxHeartbeats 4000000 in
set_option maxRecDepth 100000 in
theorem c_Mo_forget (l : Launch) (D : va_G) (cA : Nat → ClassId) (K : Nat → Nat) (mo ta aN aS aC aB aR aO aW aD a1 a2 a3 a4 aL aY aM bN bS bC bB bR bO aU : Nat) (rd mp gd : Bool) (zt ir : Int32) (np tot rt pl sg rn rs nh td ms ip it il : Nat) (L J : List Int32) : ck_V l y_Mo_forget (Cond.code y_Mo_forget b_Mo_forget 1 none :: w_all) 1 D cA K [.ref mo] [(mo, .inr (8, [.int zt, .int (nI L.length), .ref ta, .int (nI np), .ref aN, .ref aS, .ref aC, .int (nI tot), .ref aB, .int (bz_c rd), .int (nI rt), .int (nI pl), .ref aR, .ref aO, .int (nI sg), .ref aW, .int (bz_c mp), .int (nI rn), .int (nI rs), .int (bz_c gd), .ref aD, .int (nI nh), .ref a1, .ref a2, .ref a3, .ref a4, .int (nI td), .ref aL, .int (nI J.length), .ref aY, .int (nI ms), .ref aM, .int (nI ip), .int (nI it), .int ir, .int (nI il), .ref bN, .ref bS, .ref bC, .ref bB, .ref bR, .ref bO, .ref aU]))] (fun (u : Unit) => True) (fun u => [(mo, .inr (8, [.int zt, .int (nI L.length), .ref ta, .int (nI np), .ref aN, .ref aS, .ref aC, .int (nI tot), .ref aB, .int (bz_c rd), .int (nI rt), .int (nI pl), .ref aR, .ref aO, .int (nI 0), .ref aW, .int (bz_c false), .int (nI rn), .int (nI rs), .int (bz_c gd), .ref aD, .int (nI 0), .ref a1, .ref a2, .ref a3, .ref a4, .int (nI td), .ref aL, .int (nI J.length), .ref aY, .int (nI ms), .ref aM, .int (nI ip), .int (nI it), .int ir, .int (nI il), .ref bN, .ref bS, .ref bC, .ref bB, .ref bR, .ref bO, .ref aU]))]) := by
  refine ck_mkV (by decide) (Nat.le_of_ble_eq_true rfl) ?_
  intro pG eG sG mG argsG belowG methG cG Q A H locs ls hx hb hml hown hts hK hE hA hP hD hS hl hret
  have hl : lv_has ls 1 [(0, .ref mo)] := hl
  refine lv_aload_n hx hb d_Mo_forget_0 rfl (lv_at hl 0 rfl) ?_
  refine lv_iconst (v := nI 0) hx hb d_Mo_forget_1 (by decide) ?_
  refine va_put (D := D) (ci := 8) (v := .int (nI 0)) (ty := .int) (C := RX8) (T := TX8) (N := 43) hx hb hts inX8 tyX8 tyX8_ok nmX8 hown hK hP hD hS 0 rfl rfl 14 (by decide) (hts _ m_859) (fun _ h9 => h9) rfl (by decide +kernel) rfl rfl (Nat.le_of_ble_eq_true rfl) d_Mo_forget_2 (fun H locs hP hD hS => ?_)
  have hP : va_P D vwCl [(mo, .inr (8, [.int zt, .int (nI L.length), .ref ta, .int (nI np), .ref aN, .ref aS, .ref aC, .int (nI tot), .ref aB, .int (bz_c rd), .int (nI rt), .int (nI pl), .ref aR, .ref aO, .int (nI 0), .ref aW, .int (bz_c mp), .int (nI rn), .int (nI rs), .int (bz_c gd), .ref aD, .int (nI nh), .ref a1, .ref a2, .ref a3, .ref a4, .int (nI td), .ref aL, .int (nI J.length), .ref aY, .int (nI ms), .ref aM, .int (nI ip), .int (nI it), .int ir, .int (nI il), .ref bN, .ref bS, .ref bC, .ref bB, .ref bR, .ref bO, .ref aU]))] H := hP
  have hD : va_D A [(mo, .inr (8, [.int zt, .int (nI L.length), .ref ta, .int (nI np), .ref aN, .ref aS, .ref aC, .int (nI tot), .ref aB, .int (bz_c rd), .int (nI rt), .int (nI pl), .ref aR, .ref aO, .int (nI 0), .ref aW, .int (bz_c mp), .int (nI rn), .int (nI rs), .int (bz_c gd), .ref aD, .int (nI nh), .ref a1, .ref a2, .ref a3, .ref a4, .int (nI td), .ref aL, .int (nI J.length), .ref aY, .int (nI ms), .ref aM, .int (nI ip), .int (nI it), .int ir, .int (nI il), .ref bN, .ref bS, .ref bC, .ref bB, .ref bR, .ref bO, .ref aU]))] := hD
  refine lv_aload_n hx hb d_Mo_forget_5 rfl (lv_at hl 0 rfl) ?_
  refine lv_iconst (v := 0) hx hb d_Mo_forget_6 (by decide) ?_
  refine va_put (D := D) (ci := 8) (v := .int 0) (ty := .boolean) (C := RX8) (T := TX8) (N := 43) hx hb hts inX8 tyX8 tyX8_ok nmX8 hown hK hP hD hS 0 rfl rfl 16 (by decide) (hts _ m_861) (fun _ h9 => h9) rfl (by decide +kernel) rfl rfl (Nat.le_of_ble_eq_true rfl) d_Mo_forget_7 (fun H locs hP hD hS => ?_)
  have hP : va_P D vwCl [(mo, .inr (8, [.int zt, .int (nI L.length), .ref ta, .int (nI np), .ref aN, .ref aS, .ref aC, .int (nI tot), .ref aB, .int (bz_c rd), .int (nI rt), .int (nI pl), .ref aR, .ref aO, .int (nI 0), .ref aW, .int 0, .int (nI rn), .int (nI rs), .int (bz_c gd), .ref aD, .int (nI nh), .ref a1, .ref a2, .ref a3, .ref a4, .int (nI td), .ref aL, .int (nI J.length), .ref aY, .int (nI ms), .ref aM, .int (nI ip), .int (nI it), .int ir, .int (nI il), .ref bN, .ref bS, .ref bC, .ref bB, .ref bR, .ref bO, .ref aU]))] H := hP
  have hD : va_D A [(mo, .inr (8, [.int zt, .int (nI L.length), .ref ta, .int (nI np), .ref aN, .ref aS, .ref aC, .int (nI tot), .ref aB, .int (bz_c rd), .int (nI rt), .int (nI pl), .ref aR, .ref aO, .int (nI 0), .ref aW, .int 0, .int (nI rn), .int (nI rs), .int (bz_c gd), .ref aD, .int (nI nh), .ref a1, .ref a2, .ref a3, .ref a4, .int (nI td), .ref aL, .int (nI J.length), .ref aY, .int (nI ms), .ref aM, .int (nI ip), .int (nI it), .int ir, .int (nI il), .ref bN, .ref bS, .ref bC, .ref bB, .ref bR, .ref bO, .ref aU]))] := hD
  have hP : va_P D vwCl [(mo, .inr (8, [.int zt, .int (nI L.length), .ref ta, .int (nI np), .ref aN, .ref aS, .ref aC, .int (nI tot), .ref aB, .int (bz_c rd), .int (nI rt), .int (nI pl), .ref aR, .ref aO, .int (nI 0), .ref aW, .int (bz_c false), .int (nI rn), .int (nI rs), .int (bz_c gd), .ref aD, .int (nI nh), .ref a1, .ref a2, .ref a3, .ref a4, .int (nI td), .ref aL, .int (nI J.length), .ref aY, .int (nI ms), .ref aM, .int (nI ip), .int (nI it), .int ir, .int (nI il), .ref bN, .ref bS, .ref bC, .ref bB, .ref bR, .ref bO, .ref aU]))] H := id hP
  have hD : va_D A [(mo, .inr (8, [.int zt, .int (nI L.length), .ref ta, .int (nI np), .ref aN, .ref aS, .ref aC, .int (nI tot), .ref aB, .int (bz_c rd), .int (nI rt), .int (nI pl), .ref aR, .ref aO, .int (nI 0), .ref aW, .int (bz_c false), .int (nI rn), .int (nI rs), .int (bz_c gd), .ref aD, .int (nI nh), .ref a1, .ref a2, .ref a3, .ref a4, .int (nI td), .ref aL, .int (nI J.length), .ref aY, .int (nI ms), .ref aM, .int (nI ip), .int (nI it), .int ir, .int (nI il), .ref bN, .ref bS, .ref bC, .ref bB, .ref bR, .ref bO, .ref aU]))] := id hD
  refine lv_aload_n hx hb d_Mo_forget_10 rfl (lv_at hl 0 rfl) ?_
  refine lv_iconst (v := nI 0) hx hb d_Mo_forget_11 (by decide) ?_
  refine va_put (D := D) (ci := 8) (v := .int (nI 0)) (ty := .int) (C := RX8) (T := TX8) (N := 43) hx hb hts inX8 tyX8 tyX8_ok nmX8 hown hK hP hD hS 0 rfl rfl 21 (by decide) (hts _ m_866) (fun _ h9 => h9) rfl (by decide +kernel) rfl rfl (Nat.le_of_ble_eq_true rfl) d_Mo_forget_12 (fun H locs hP hD hS => ?_)
  have hP : va_P D vwCl [(mo, .inr (8, [.int zt, .int (nI L.length), .ref ta, .int (nI np), .ref aN, .ref aS, .ref aC, .int (nI tot), .ref aB, .int (bz_c rd), .int (nI rt), .int (nI pl), .ref aR, .ref aO, .int (nI 0), .ref aW, .int (bz_c false), .int (nI rn), .int (nI rs), .int (bz_c gd), .ref aD, .int (nI 0), .ref a1, .ref a2, .ref a3, .ref a4, .int (nI td), .ref aL, .int (nI J.length), .ref aY, .int (nI ms), .ref aM, .int (nI ip), .int (nI it), .int ir, .int (nI il), .ref bN, .ref bS, .ref bC, .ref bB, .ref bR, .ref bO, .ref aU]))] H := hP
  have hD : va_D A [(mo, .inr (8, [.int zt, .int (nI L.length), .ref ta, .int (nI np), .ref aN, .ref aS, .ref aC, .int (nI tot), .ref aB, .int (bz_c rd), .int (nI rt), .int (nI pl), .ref aR, .ref aO, .int (nI 0), .ref aW, .int (bz_c false), .int (nI rn), .int (nI rs), .int (bz_c gd), .ref aD, .int (nI 0), .ref a1, .ref a2, .ref a3, .ref a4, .int (nI td), .ref aL, .int (nI J.length), .ref aY, .int (nI ms), .ref aM, .int (nI ip), .int (nI it), .int ir, .int (nI il), .ref bN, .ref bS, .ref bC, .ref bB, .ref bR, .ref bO, .ref aU]))] := hD
  exact hret () _ _ _ 15 d_Mo_forget_15 trivial hP hD hS
theorem k_Mo_forget : cf_V y_Mo_forget b_Mo_forget 1 none "ReadMapperModel" 0 := ⟨⟨m_1021, (wm_s (q := (y_Mo_forget, 43)) (by decide +kernel)), m_9, m_1022⟩, by decide +kernel⟩
set_option maxHeartbeats 4000000 in
set_option maxRecDepth 100000 in
theorem c_Mo_drop (l : Launch) (D : va_G) (cA : Nat → ClassId) (K : Nat → Nat) (mo ta aN aS aC aB aR aO aW aD a1 a2 a3 a4 aL aY aM bN bS bC bB bR bO aU : Nat) (rd mp gd : Bool) (zt ir : Int32) (np tot rt pl sg rn rs nh td ms ip it il : Nat) (L J : List Int32) : ck_I l y_Mo_drop (Cond.code y_Mo_drop b_Mo_drop 2 (some .boolean) :: w_all) 2 D cA K [.ref mo] [(mo, .inr (8, [.int zt, .int (nI L.length), .ref ta, .int (nI np), .ref aN, .ref aS, .ref aC, .int (nI tot), .ref aB, .int (bz_c rd), .int (nI rt), .int (nI pl), .ref aR, .ref aO, .int (nI sg), .ref aW, .int (bz_c mp), .int (nI rn), .int (nI rs), .int (bz_c gd), .ref aD, .int (nI nh), .ref a1, .ref a2, .ref a3, .ref a4, .int (nI td), .ref aL, .int (nI J.length), .ref aY, .int (nI ms), .ref aM, .int (nI ip), .int (nI it), .int ir, .int (nI il), .ref bN, .ref bS, .ref bC, .ref bB, .ref bR, .ref bO, .ref aU]))] (fun (r : Int32) (u : (Nat) × (Bool) × (Nat)) => (r = 1 ∧ rd = true ∧ u.1 = 0 ∧ u.2.1 = false ∧ u.2.2 = 0) ∨ (r = 0 ∧ rd = false ∧ u.1 = sg ∧ u.2.1 = mp ∧ u.2.2 = nh)) (fun u => [(mo, .inr (8, [.int (nI 0), .int (nI L.length), .ref ta, .int (nI np), .ref aN, .ref aS, .ref aC, .int (nI tot), .ref aB, .int (bz_c false), .int (nI rt), .int (nI pl), .ref aR, .ref aO, .int (nI u.1), .ref aW, .int (bz_c u.2.1), .int (nI rn), .int (nI rs), .int (bz_c gd), .ref aD, .int (nI u.2.2), .ref a1, .ref a2, .ref a3, .ref a4, .int (nI td), .ref aL, .int (nI J.length), .ref aY, .int (nI ms), .ref aM, .int (nI ip), .int (nI it), .int ir, .int (nI il), .ref bN, .ref bS, .ref bC, .ref bB, .ref bR, .ref bO, .ref aU]))]) := by
  refine ck_mkI (by decide) (fun r u h => by rcases h with ⟨rfl, _⟩ | ⟨rfl, _⟩ <;> rfl) (Nat.le_of_ble_eq_true rfl) ?_
  intro pG eG sG mG argsG belowG methG cG Q A H locs ls hx hb hml hown hts hK hE hA hP hD hS hl hret
  have hl : lv_has ls 2 [(0, .ref mo)] := hl
  refine lv_aload_n hx hb d_Mo_drop_0 rfl (lv_at hl 0 rfl) ?_
  refine lv_iconst (v := nI 0) hx hb d_Mo_drop_1 (by decide) ?_
  refine va_put (D := D) (ci := 8) (v := .int (nI 0)) (ty := .int) (C := RX8) (T := TX8) (N := 43) hx hb hts inX8 tyX8 tyX8_ok nmX8 hown hK hP hD hS 0 rfl rfl 0 (by decide) (hts _ m_845) (fun _ h9 => h9) rfl (by decide +kernel) rfl rfl (Nat.le_of_ble_eq_true rfl) d_Mo_drop_2 (fun H locs hP hD hS => ?_)
  have hP : va_P D vwCl [(mo, .inr (8, [.int (nI 0), .int (nI L.length), .ref ta, .int (nI np), .ref aN, .ref aS, .ref aC, .int (nI tot), .ref aB, .int (bz_c rd), .int (nI rt), .int (nI pl), .ref aR, .ref aO, .int (nI sg), .ref aW, .int (bz_c mp), .int (nI rn), .int (nI rs), .int (bz_c gd), .ref aD, .int (nI nh), .ref a1, .ref a2, .ref a3, .ref a4, .int (nI td), .ref aL, .int (nI J.length), .ref aY, .int (nI ms), .ref aM, .int (nI ip), .int (nI it), .int ir, .int (nI il), .ref bN, .ref bS, .ref bC, .ref bB, .ref bR, .ref bO, .ref aU]))] H := hP
  have hD : va_D A [(mo, .inr (8, [.int (nI 0), .int (nI L.length), .ref ta, .int (nI np), .ref aN, .ref aS, .ref aC, .int (nI tot), .ref aB, .int (bz_c rd), .int (nI rt), .int (nI pl), .ref aR, .ref aO, .int (nI sg), .ref aW, .int (bz_c mp), .int (nI rn), .int (nI rs), .int (bz_c gd), .ref aD, .int (nI nh), .ref a1, .ref a2, .ref a3, .ref a4, .int (nI td), .ref aL, .int (nI J.length), .ref aY, .int (nI ms), .ref aM, .int (nI ip), .int (nI it), .int ir, .int (nI il), .ref bN, .ref bS, .ref bC, .ref bB, .ref bR, .ref bO, .ref aU]))] := hD
  refine lv_aload_n hx hb d_Mo_drop_5 rfl (lv_at hl 0 rfl) ?_
  refine va_get (C := RX8) (T := TX8) (N := 43) hx hb hts inX8 hown hK hP 0 rfl rfl 9 (by decide) (hts _ m_854) (fun _ h9 => h9) rfl d_Mo_drop_6 ?_
  refine lv_istore_n (lv' := [(1, .int (bz_c rd)), (0, .ref mo)]) hx hb d_Mo_drop_9 rfl hl (by decide) rfl (fun ls hl => ?_)
  refine lv_aload_n hx hb d_Mo_drop_10 rfl (lv_at hl 1 rfl) ?_
  refine lv_iconst (v := 0) hx hb d_Mo_drop_11 (by decide) ?_
  refine va_put (D := D) (ci := 8) (v := .int 0) (ty := .boolean) (C := RX8) (T := TX8) (N := 43) hx hb hts inX8 tyX8 tyX8_ok nmX8 hown hK hP hD hS 0 rfl rfl 9 (by decide) (hts _ m_854) (fun _ h9 => h9) rfl (by decide +kernel) rfl rfl (Nat.le_of_ble_eq_true rfl) d_Mo_drop_12 (fun H locs hP hD hS => ?_)
  have hP : va_P D vwCl [(mo, .inr (8, [.int (nI 0), .int (nI L.length), .ref ta, .int (nI np), .ref aN, .ref aS, .ref aC, .int (nI tot), .ref aB, .int 0, .int (nI rt), .int (nI pl), .ref aR, .ref aO, .int (nI sg), .ref aW, .int (bz_c mp), .int (nI rn), .int (nI rs), .int (bz_c gd), .ref aD, .int (nI nh), .ref a1, .ref a2, .ref a3, .ref a4, .int (nI td), .ref aL, .int (nI J.length), .ref aY, .int (nI ms), .ref aM, .int (nI ip), .int (nI it), .int ir, .int (nI il), .ref bN, .ref bS, .ref bC, .ref bB, .ref bR, .ref bO, .ref aU]))] H := hP
  have hD : va_D A [(mo, .inr (8, [.int (nI 0), .int (nI L.length), .ref ta, .int (nI np), .ref aN, .ref aS, .ref aC, .int (nI tot), .ref aB, .int 0, .int (nI rt), .int (nI pl), .ref aR, .ref aO, .int (nI sg), .ref aW, .int (bz_c mp), .int (nI rn), .int (nI rs), .int (bz_c gd), .ref aD, .int (nI nh), .ref a1, .ref a2, .ref a3, .ref a4, .int (nI td), .ref aL, .int (nI J.length), .ref aY, .int (nI ms), .ref aM, .int (nI ip), .int (nI it), .int ir, .int (nI il), .ref bN, .ref bS, .ref bC, .ref bB, .ref bR, .ref bO, .ref aU]))] := hD
  have hP : va_P D vwCl [(mo, .inr (8, [.int (nI 0), .int (nI L.length), .ref ta, .int (nI np), .ref aN, .ref aS, .ref aC, .int (nI tot), .ref aB, .int (bz_c false), .int (nI rt), .int (nI pl), .ref aR, .ref aO, .int (nI sg), .ref aW, .int (bz_c mp), .int (nI rn), .int (nI rs), .int (bz_c gd), .ref aD, .int (nI nh), .ref a1, .ref a2, .ref a3, .ref a4, .int (nI td), .ref aL, .int (nI J.length), .ref aY, .int (nI ms), .ref aM, .int (nI ip), .int (nI it), .int ir, .int (nI il), .ref bN, .ref bS, .ref bC, .ref bB, .ref bR, .ref bO, .ref aU]))] H := id hP
  have hD : va_D A [(mo, .inr (8, [.int (nI 0), .int (nI L.length), .ref ta, .int (nI np), .ref aN, .ref aS, .ref aC, .int (nI tot), .ref aB, .int (bz_c false), .int (nI rt), .int (nI pl), .ref aR, .ref aO, .int (nI sg), .ref aW, .int (bz_c mp), .int (nI rn), .int (nI rs), .int (bz_c gd), .ref aD, .int (nI nh), .ref a1, .ref a2, .ref a3, .ref a4, .int (nI td), .ref aL, .int (nI J.length), .ref aY, .int (nI ms), .ref aM, .int (nI ip), .int (nI it), .int ir, .int (nI il), .ref bN, .ref bS, .ref bC, .ref bB, .ref bR, .ref bO, .ref aU]))] := id hD
  refine lv_iload_n hx hb d_Mo_drop_15 rfl (lv_at hl 0 rfl) ?_
  refine lv_if_eq (tgt := 23) hx hb d_Mo_drop_16 (by decide) ?_ ?_
  · intro h16
    refine lv_iload_n hx hb d_Mo_drop_23 rfl (lv_at hl 0 rfl) ?_
    exact hret (bz_c rd) (sg, mp, nh) _ _ _ 24 d_Mo_drop_24 (by first | exact Or.inr ⟨by rw [bz_0 h16]; rfl, bz_0 h16, rfl, rfl, rfl⟩ | exact Or.inl ⟨by rw [bz_1 h16]; rfl, bz_1 h16, rfl, rfl, rfl⟩) hP hD hS
  · intro h16
    refine lv_aload_n hx hb d_Mo_drop_19 rfl (lv_at hl 1 rfl) ?_
    refine ck_cVv (C := "ReadMapperModel") (ci := 8) (rest := []) (wr := []) (ws2 := fun u => [(mo, .inr (8, [.int (nI 0), .int (nI L.length), .ref ta, .int (nI np), .ref aN, .ref aS, .ref aC, .int (nI tot), .ref aB, .int (bz_c false), .int (nI rt), .int (nI pl), .ref aR, .ref aO, .int (nI 0), .ref aW, .int (bz_c false), .int (nI rn), .int (nI rs), .int (bz_c gd), .ref aD, .int (nI 0), .ref a1, .ref a2, .ref a3, .ref a4, .int (nI td), .ref aL, .int (nI J.length), .ref aY, .int (nI ms), .ref aM, .int (nI ip), .int (nI it), .int ir, .int (nI il), .ref bN, .ref bS, .ref bC, .ref bB, .ref bR, .ref bO, .ref aU]))]) (c_Mo_forget l D cA K mo ta aN aS aC aB aR aO aW aD a1 a2 a3 a4 aL aY aM bN bS bC bB bR bO aU false mp gd (nI 0) ir np tot rt pl sg rn rs nh td ms ip it il L J ) hx hb hml hown hts hK hE hA hP hD hS k_Mo_forget m_1019 (by decide) 0 rfl rfl rfl hl.1 rfl (Nat.le_of_ble_eq_true rfl) d_Mo_drop_20  [0] [] [0] rfl rfl (by decide) (fun _ => rfl) (fun u20 H locs hq20 hP hD hS => ?_)
    try dsimp only at hq20
    have hP : va_P D vwCl [(mo, .inr (8, [.int (nI 0), .int (nI L.length), .ref ta, .int (nI np), .ref aN, .ref aS, .ref aC, .int (nI tot), .ref aB, .int (bz_c false), .int (nI rt), .int (nI pl), .ref aR, .ref aO, .int (nI 0), .ref aW, .int (bz_c false), .int (nI rn), .int (nI rs), .int (bz_c gd), .ref aD, .int (nI 0), .ref a1, .ref a2, .ref a3, .ref a4, .int (nI td), .ref aL, .int (nI J.length), .ref aY, .int (nI ms), .ref aM, .int (nI ip), .int (nI it), .int ir, .int (nI il), .ref bN, .ref bS, .ref bC, .ref bB, .ref bR, .ref bO, .ref aU]))] H := hP
    have hD : va_D A [(mo, .inr (8, [.int (nI 0), .int (nI L.length), .ref ta, .int (nI np), .ref aN, .ref aS, .ref aC, .int (nI tot), .ref aB, .int (bz_c false), .int (nI rt), .int (nI pl), .ref aR, .ref aO, .int (nI 0), .ref aW, .int (bz_c false), .int (nI rn), .int (nI rs), .int (bz_c gd), .ref aD, .int (nI 0), .ref a1, .ref a2, .ref a3, .ref a4, .int (nI td), .ref aL, .int (nI J.length), .ref aY, .int (nI ms), .ref aM, .int (nI ip), .int (nI it), .int ir, .int (nI il), .ref bN, .ref bS, .ref bC, .ref bB, .ref bR, .ref bO, .ref aU]))] := hD
    refine lv_iload_n hx hb d_Mo_drop_23 rfl (lv_at hl 0 rfl) ?_
    exact hret (bz_c rd) (0, false, 0) _ _ _ 24 d_Mo_drop_24 (by first | exact Or.inr ⟨by rw [bz_0 h16]; rfl, bz_0 h16, rfl, rfl, rfl⟩ | exact Or.inl ⟨by rw [bz_1 h16]; rfl, bz_1 h16, rfl, rfl, rfl⟩) hP hD hS
theorem k_Mo_drop : cf_V y_Mo_drop b_Mo_drop 2 (some .boolean) "ReadMapperModel" 0 := ⟨⟨m_1024, m_1025, m_9, m_1026⟩, by decide +kernel⟩
set_option maxHeartbeats 4000000 in
set_option maxRecDepth 100000 in
theorem c_Mo_isEnding (l : Launch) (D : va_G) (cA : Nat → ClassId) (K : Nat → Nat) (mo ta aN aS aC aB aR aO aW aD a1 a2 a3 a4 aL aY aM bN bS bC bB bR bO aU : Nat) (rd mp gd : Bool) (zt ir : Int32) (np tot rt pl sg rn rs nh td ms ip it il : Nat) (L J : List Int32) (i : Int32) : ck_I l y_Mo_isEnding (Cond.code y_Mo_isEnding b_Mo_isEnding 2 (some .boolean) :: w_all) 1 D cA K [.ref mo, .int i] [(mo, .inr (8, [.int zt, .int (nI L.length), .ref ta, .int (nI np), .ref aN, .ref aS, .ref aC, .int (nI tot), .ref aB, .int (bz_c rd), .int (nI rt), .int (nI pl), .ref aR, .ref aO, .int (nI sg), .ref aW, .int (bz_c mp), .int (nI rn), .int (nI rs), .int (bz_c gd), .ref aD, .int (nI nh), .ref a1, .ref a2, .ref a3, .ref a4, .int (nI td), .ref aL, .int (nI J.length), .ref aY, .int (nI ms), .ref aM, .int (nI ip), .int (nI it), .int ir, .int (nI il), .ref bN, .ref bS, .ref bC, .ref bB, .ref bR, .ref bO, .ref aU]))] (fun (r : Int32) (u : Unit) => (r = 1 ∧ rd = true ∧ ¬ i < 0 ∧ ¬ nI pl ≤ i) ∨ (r = 0 ∧ ¬ (rd = true ∧ ¬ i < 0 ∧ ¬ nI pl ≤ i))) (fun u => [(mo, .inr (8, [.int zt, .int (nI L.length), .ref ta, .int (nI np), .ref aN, .ref aS, .ref aC, .int (nI tot), .ref aB, .int (bz_c rd), .int (nI rt), .int (nI pl), .ref aR, .ref aO, .int (nI sg), .ref aW, .int (bz_c mp), .int (nI rn), .int (nI rs), .int (bz_c gd), .ref aD, .int (nI nh), .ref a1, .ref a2, .ref a3, .ref a4, .int (nI td), .ref aL, .int (nI J.length), .ref aY, .int (nI ms), .ref aM, .int (nI ip), .int (nI it), .int ir, .int (nI il), .ref bN, .ref bS, .ref bC, .ref bB, .ref bR, .ref bO, .ref aU]))]) := by
  refine ck_mkI (by decide) (fun r u h => by rcases h with ⟨rfl, _⟩ | ⟨rfl, _⟩ <;> rfl) (Nat.le_of_ble_eq_true rfl) ?_
  intro pG eG sG mG argsG belowG methG cG Q A H locs ls hx hb hml hown hts hK hE hA hP hD hS hl hret
  have hl : lv_has ls 2 [(0, .ref mo), (1, .int i)] := hl
  refine lv_aload_n hx hb d_Mo_isEnding_0 rfl (lv_at hl 0 rfl) ?_
  refine va_get (C := RX8) (T := TX8) (N := 43) hx hb hts inX8 hown hK hP 0 rfl rfl 9 (by decide) (hts _ m_854) (fun _ h9 => h9) rfl d_Mo_isEnding_1 ?_
  refine lv_if_eq (tgt := 23) hx hb d_Mo_isEnding_4 (by decide) ?_ ?_
  · intro h4
    refine lv_iconst (v := 0) hx hb d_Mo_isEnding_23 (by decide) ?_
    exact hret 0 () _ _ _ 24 d_Mo_isEnding_24 (by first | exact Or.inl ⟨rfl, bz_1 h4, h8, h16⟩ | exact Or.inr ⟨rfl, fun z => bz_n h4 z.1⟩ | exact Or.inr ⟨rfl, fun z => z.2.1 h8⟩ | exact Or.inr ⟨rfl, fun z => z.2.2 h16⟩) hP hD hS
  · intro h4
    refine lv_iload_n hx hb d_Mo_isEnding_7 rfl (lv_at hl 1 rfl) ?_
    refine lv_if_lt (tgt := 23) hx hb d_Mo_isEnding_8 (by decide) ?_ ?_
    · intro h8
      refine lv_iconst (v := 0) hx hb d_Mo_isEnding_23 (by decide) ?_
      exact hret 0 () _ _ _ 24 d_Mo_isEnding_24 (by first | exact Or.inl ⟨rfl, bz_1 h4, h8, h16⟩ | exact Or.inr ⟨rfl, fun z => bz_n h4 z.1⟩ | exact Or.inr ⟨rfl, fun z => z.2.1 h8⟩ | exact Or.inr ⟨rfl, fun z => z.2.2 h16⟩) hP hD hS
    · intro h8
      refine lv_iload_n hx hb d_Mo_isEnding_11 rfl (lv_at hl 1 rfl) ?_
      refine lv_aload_n hx hb d_Mo_isEnding_12 rfl (lv_at hl 0 rfl) ?_
      refine va_get (C := RX8) (T := TX8) (N := 43) hx hb hts inX8 hown hK hP 0 rfl rfl 11 (by decide) (hts _ m_856) (fun _ h9 => h9) rfl d_Mo_isEnding_13 ?_
      refine lv_icmp_ge (tgt := 23) hx hb d_Mo_isEnding_16 (by decide) ?_ ?_
      · intro h16
        refine lv_iconst (v := 0) hx hb d_Mo_isEnding_23 (by decide) ?_
        exact hret 0 () _ _ _ 24 d_Mo_isEnding_24 (by first | exact Or.inl ⟨rfl, bz_1 h4, h8, h16⟩ | exact Or.inr ⟨rfl, fun z => bz_n h4 z.1⟩ | exact Or.inr ⟨rfl, fun z => z.2.1 h8⟩ | exact Or.inr ⟨rfl, fun z => z.2.2 h16⟩) hP hD hS
      · intro h16
        refine lv_iconst (v := 1) hx hb d_Mo_isEnding_19 (by decide) ?_
        refine lv_goto (tgt := 24) hx hb d_Mo_isEnding_20 (by decide) ?_
        exact hret 1 () _ _ _ 24 d_Mo_isEnding_24 (by first | exact Or.inl ⟨rfl, bz_1 h4, h8, h16⟩ | exact Or.inr ⟨rfl, fun z => bz_n h4 z.1⟩ | exact Or.inr ⟨rfl, fun z => z.2.1 h8⟩ | exact Or.inr ⟨rfl, fun z => z.2.2 h16⟩) hP hD hS
theorem k_Mo_isEnding : cf_V y_Mo_isEnding b_Mo_isEnding 2 (some .boolean) "ReadMapperModel" 1 := ⟨⟨m_1033, (wm_s (q := (y_Mo_isEnding, 43)) (by decide +kernel)), m_9, m_1034⟩, by decide +kernel⟩
set_option maxHeartbeats 4000000 in
set_option maxRecDepth 100000 in
theorem c_Mo_image (l : Launch) (D : va_G) (cA : Nat → ClassId) (K : Nat → Nat) (mo ta aN aS aC aB aR aO aW aD a1 a2 a3 a4 aL aY aM bN bS bC bB bR bO aU : Nat) (rd mp gd : Bool) (zt ir : Int32) (np tot rt pl sg rn rs nh td ms ip it il : Nat) (L J : List Int32) (yf : Nat → Int32) (i : Int32) (hj : cd_r 200 yf J) : ck_I l y_Mo_image (Cond.code y_Mo_image b_Mo_image 2 (some .int) :: w_all) 1 D cA K [.ref mo, .int i] [(mo, .inr (8, [.int zt, .int (nI L.length), .ref ta, .int (nI np), .ref aN, .ref aS, .ref aC, .int (nI tot), .ref aB, .int (bz_c rd), .int (nI rt), .int (nI pl), .ref aR, .ref aO, .int (nI sg), .ref aW, .int (bz_c mp), .int (nI rn), .int (nI rs), .int (bz_c gd), .ref aD, .int (nI nh), .ref a1, .ref a2, .ref a3, .ref a4, .int (nI td), .ref aL, .int (nI J.length), .ref aY, .int (nI ms), .ref aM, .int (nI ip), .int (nI it), .int ir, .int (nI il), .ref bN, .ref bS, .ref bC, .ref bB, .ref bR, .ref bO, .ref aU])), (aY, .inl (cA 0, 200, .inl yf))] (fun (r : Int32) (u : Unit) => r = at_c J i) (fun u => [(mo, .inr (8, [.int (nI 0), .int (nI L.length), .ref ta, .int (nI np), .ref aN, .ref aS, .ref aC, .int (nI tot), .ref aB, .int (bz_c rd), .int (nI rt), .int (nI pl), .ref aR, .ref aO, .int (nI sg), .ref aW, .int (bz_c mp), .int (nI rn), .int (nI rs), .int (bz_c gd), .ref aD, .int (nI nh), .ref a1, .ref a2, .ref a3, .ref a4, .int (nI td), .ref aL, .int (nI J.length), .ref aY, .int (nI ms), .ref aM, .int (nI ip), .int (nI it), .int ir, .int (nI il), .ref bN, .ref bS, .ref bC, .ref bB, .ref bR, .ref bO, .ref aU])), (aY, .inl (cA 0, 200, .inl yf))]) := by
  refine ck_mkI (by decide) (fun _ _ _ => rfl) (Nat.le_of_ble_eq_true rfl) ?_
  intro pG eG sG mG argsG belowG methG cG Q A H locs ls hx hb hml hown hts hK hE hA hP hD hS hl hret
  have hl : lv_has ls 2 [(0, .ref mo), (1, .int i)] := hl
  have hl1 := cd_len hj
  have hl0 := hj.1
  refine lv_aload_n hx hb d_Mo_image_0 rfl (lv_at hl 0 rfl) ?_
  refine lv_iconst (v := nI 0) hx hb d_Mo_image_1 (by decide) ?_
  refine va_put (D := D) (ci := 8) (v := .int (nI 0)) (ty := .int) (C := RX8) (T := TX8) (N := 43) hx hb hts inX8 tyX8 tyX8_ok nmX8 hown hK hP hD hS 0 rfl rfl 0 (by decide) (hts _ m_845) (fun _ h9 => h9) rfl (by decide +kernel) rfl rfl (Nat.le_of_ble_eq_true rfl) d_Mo_image_2 (fun H locs hP hD hS => ?_)
  have hP : va_P D vwCl [(mo, .inr (8, [.int (nI 0), .int (nI L.length), .ref ta, .int (nI np), .ref aN, .ref aS, .ref aC, .int (nI tot), .ref aB, .int (bz_c rd), .int (nI rt), .int (nI pl), .ref aR, .ref aO, .int (nI sg), .ref aW, .int (bz_c mp), .int (nI rn), .int (nI rs), .int (bz_c gd), .ref aD, .int (nI nh), .ref a1, .ref a2, .ref a3, .ref a4, .int (nI td), .ref aL, .int (nI J.length), .ref aY, .int (nI ms), .ref aM, .int (nI ip), .int (nI it), .int ir, .int (nI il), .ref bN, .ref bS, .ref bC, .ref bB, .ref bR, .ref bO, .ref aU])), (aY, .inl (cA 0, 200, .inl yf))] H := hP
  have hD : va_D A [(mo, .inr (8, [.int (nI 0), .int (nI L.length), .ref ta, .int (nI np), .ref aN, .ref aS, .ref aC, .int (nI tot), .ref aB, .int (bz_c rd), .int (nI rt), .int (nI pl), .ref aR, .ref aO, .int (nI sg), .ref aW, .int (bz_c mp), .int (nI rn), .int (nI rs), .int (bz_c gd), .ref aD, .int (nI nh), .ref a1, .ref a2, .ref a3, .ref a4, .int (nI td), .ref aL, .int (nI J.length), .ref aY, .int (nI ms), .ref aM, .int (nI ip), .int (nI it), .int ir, .int (nI il), .ref bN, .ref bS, .ref bC, .ref bB, .ref bR, .ref bO, .ref aU])), (aY, .inl (cA 0, 200, .inl yf))] := hD
  refine lv_iload_n hx hb d_Mo_image_5 rfl (lv_at hl 1 rfl) ?_
  refine lv_if_lt (tgt := 26) hx hb d_Mo_image_6 (by decide) ?_ ?_
  · intro h6
    refine lv_iconst (v := (-1)) hx hb d_Mo_image_26 (by decide) ?_
    exact hret (-1) () _ _ _ 27 d_Mo_image_27 (by first | exact at_in hj h6 h14 | exact (at_neg h6).symm | exact (at_big h14).symm) hP hD hS
  · intro h6
    refine lv_iload_n hx hb d_Mo_image_9 rfl (lv_at hl 1 rfl) ?_
    refine lv_aload_n hx hb d_Mo_image_10 rfl (lv_at hl 0 rfl) ?_
    refine va_get (C := RX8) (T := TX8) (N := 43) hx hb hts inX8 hown hK hP 0 rfl rfl 28 (by decide) (hts _ m_873) (fun _ h9 => h9) rfl d_Mo_image_11 ?_
    refine lv_icmp_ge (tgt := 26) hx hb d_Mo_image_14 (by decide) ?_ ?_
    · intro h14
      refine lv_iconst (v := (-1)) hx hb d_Mo_image_26 (by decide) ?_
      exact hret (-1) () _ _ _ 27 d_Mo_image_27 (by first | exact at_in hj h6 h14 | exact (at_neg h6).symm | exact (at_big h14).symm) hP hD hS
    · intro h14
      refine lv_aload_n hx hb d_Mo_image_17 rfl (lv_at hl 0 rfl) ?_
      refine va_get (C := RX8) (T := TX8) (N := 43) hx hb hts inX8 hown hK hP 0 rfl rfl 29 (by decide) (hts _ m_874) (fun _ h9 => h9) rfl d_Mo_image_18 ?_
      refine lv_iload_n hx hb d_Mo_image_21 rfl (lv_at hl 1 rfl) ?_
      refine va_iald hx hb hK hP 1 0 rfl rfl (cd_vin hj h6 h14) d_Mo_image_22 ?_
      refine lv_goto (tgt := 27) hx hb d_Mo_image_23 (by decide) ?_
      exact hret (yf (i).toNatClampNeg) () _ _ _ 27 d_Mo_image_27 (by first | exact at_in hj h6 h14 | exact (at_neg h6).symm | exact (at_big h14).symm) hP hD hS
theorem k_Mo_image : cf_V y_Mo_image b_Mo_image 2 (some .int) "ReadMapperModel" 1 := ⟨⟨m_1158, m_1159, m_9, m_1160⟩, by decide +kernel⟩
set_option maxHeartbeats 4000000 in
set_option maxRecDepth 100000 in
theorem c_Mo_at (l : Launch) (D : va_G) (cA : Nat → ClassId) (K : Nat → Nat) (mo ta aN aS aC aB aR aO aW aD a1 a2 a3 a4 aL aY aM bN bS bC bB bR bO aU : Nat) (rd mp gd : Bool) (zt ir : Int32) (np tot rt pl sg rn rs nh td ms ip it il : Nat) (L J : List Int32) (yf : Nat → Int32) (i : Nat) (hj : cd_r 200 yf J) (hi : i ≤ 2000) : ck_I l y_Mo_at (Cond.code y_Mo_at b_Mo_at 2 (some .int) :: w_all) 1 D cA K [.ref mo, .int (nI i)] [(mo, .inr (8, [.int zt, .int (nI L.length), .ref ta, .int (nI np), .ref aN, .ref aS, .ref aC, .int (nI tot), .ref aB, .int (bz_c rd), .int (nI rt), .int (nI pl), .ref aR, .ref aO, .int (nI sg), .ref aW, .int (bz_c mp), .int (nI rn), .int (nI rs), .int (bz_c gd), .ref aD, .int (nI nh), .ref a1, .ref a2, .ref a3, .ref a4, .int (nI td), .ref aL, .int (nI J.length), .ref aY, .int (nI ms), .ref aM, .int (nI ip), .int (nI it), .int ir, .int (nI il), .ref bN, .ref bS, .ref bC, .ref bB, .ref bR, .ref bO, .ref aU])), (aY, .inl (cA 0, 200, .inl yf))] (fun (r : Int32) (u : Unit) => r = at_c J (nI i)) (fun u => [(mo, .inr (8, [.int zt, .int (nI L.length), .ref ta, .int (nI np), .ref aN, .ref aS, .ref aC, .int (nI tot), .ref aB, .int (bz_c rd), .int (nI rt), .int (nI pl), .ref aR, .ref aO, .int (nI sg), .ref aW, .int (bz_c mp), .int (nI rn), .int (nI rs), .int (bz_c gd), .ref aD, .int (nI nh), .ref a1, .ref a2, .ref a3, .ref a4, .int (nI td), .ref aL, .int (nI J.length), .ref aY, .int (nI ms), .ref aM, .int (nI ip), .int (nI it), .int ir, .int (nI il), .ref bN, .ref bS, .ref bC, .ref bB, .ref bR, .ref bO, .ref aU])), (aY, .inl (cA 0, 200, .inl yf))]) := by
  refine ck_mkI (by decide) (fun _ _ _ => rfl) (Nat.le_of_ble_eq_true rfl) ?_
  intro pG eG sG mG argsG belowG methG cG Q A H locs ls hx hb hml hown hts hK hE hA hP hD hS hl hret
  have hl : lv_has ls 2 [(0, .ref mo), (1, .int (nI i))] := hl
  have hl1 := cd_len hj
  have hl0 := hj.1
  refine lv_iload_n hx hb d_Mo_at_0 rfl (lv_at hl 1 rfl) ?_
  refine lv_aload_n hx hb d_Mo_at_1 rfl (lv_at hl 0 rfl) ?_
  refine va_get (C := RX8) (T := TX8) (N := 43) hx hb hts inX8 hown hK hP 0 rfl rfl 28 (by decide) (hts _ m_873) (fun _ h9 => h9) rfl d_Mo_at_2 ?_
  refine wn_icmp_ge (by omega) (by omega) (tgt := 17) hx hb d_Mo_at_5 (by decide) ?_ ?_
  · intro h5
    refine lv_iconst (v := (-1)) hx hb d_Mo_at_17 (by decide) ?_
    exact hret (-1) () _ _ _ 18 d_Mo_at_18 (by first | (rw [at_n (by omega) (by omega)]; exact hj.2.2 i (by omega)) | exact (at_o (by omega) (by omega)).symm) hP hD hS
  · intro h5
    refine lv_aload_n hx hb d_Mo_at_8 rfl (lv_at hl 0 rfl) ?_
    refine va_get (C := RX8) (T := TX8) (N := 43) hx hb hts inX8 hown hK hP 0 rfl rfl 29 (by decide) (hts _ m_874) (fun _ h9 => h9) rfl d_Mo_at_9 ?_
    refine lv_iload_n hx hb d_Mo_at_12 rfl (lv_at hl 1 rfl) ?_
    refine wn_iald hx hb hK hP 1 0 rfl rfl (by omega) (by omega) d_Mo_at_13 ?_
    refine lv_goto (tgt := 18) hx hb d_Mo_at_14 (by decide) ?_
    exact hret (yf i) () _ _ _ 18 d_Mo_at_18 (by first | (rw [at_n (by omega) (by omega)]; exact hj.2.2 i (by omega)) | exact (at_o (by omega) (by omega)).symm) hP hD hS
theorem k_Mo_at : cf_V y_Mo_at b_Mo_at 2 (some .int) "ReadMapperModel" 1 := ⟨⟨m_1187, (wm_s (q := (y_Mo_at, 43)) (by decide +kernel)), m_9, m_1188⟩, by decide +kernel⟩
set_option maxHeartbeats 4000000 in
set_option maxRecDepth 100000 in
theorem c_Mo_nameLength (l : Launch) (D : va_G) (cA : Nat → ClassId) (K : Nat → Nat) (mo ta aN aS aC aB aR aO aW aD a1 a2 a3 a4 aL aY aM bN bS bC bB bR bO aU : Nat) (rd mp gd : Bool) (zt ir : Int32) (np tot rt pl sg rn rs nh td ms ip it il : Nat) (L J : List Int32) (tf : Nat → Int32) (hc : cd_r 72 tf L) : ck_I l y_Mo_nameLength (Cond.code y_Mo_nameLength b_Mo_nameLength 2 (some .int) :: w_all) 2 D cA K [.ref mo] [(mo, .inr (8, [.int zt, .int (nI L.length), .ref ta, .int (nI np), .ref aN, .ref aS, .ref aC, .int (nI tot), .ref aB, .int (bz_c rd), .int (nI rt), .int (nI pl), .ref aR, .ref aO, .int (nI sg), .ref aW, .int (bz_c mp), .int (nI rn), .int (nI rs), .int (bz_c gd), .ref aD, .int (nI nh), .ref a1, .ref a2, .ref a3, .ref a4, .int (nI td), .ref aL, .int (nI J.length), .ref aY, .int (nI ms), .ref aM, .int (nI ip), .int (nI it), .int ir, .int (nI il), .ref bN, .ref bS, .ref bC, .ref bB, .ref bR, .ref bO, .ref aU])), (ta, .inl (cA 1, 72, .inl tf))] (fun (r : Int32) (u : Unit) => ∃ k, r = nI k ∧ nl_p L k) (fun u => [(mo, .inr (8, [.int zt, .int (nI L.length), .ref ta, .int (nI np), .ref aN, .ref aS, .ref aC, .int (nI tot), .ref aB, .int (bz_c rd), .int (nI rt), .int (nI pl), .ref aR, .ref aO, .int (nI sg), .ref aW, .int (bz_c mp), .int (nI rn), .int (nI rs), .int (bz_c gd), .ref aD, .int (nI nh), .ref a1, .ref a2, .ref a3, .ref a4, .int (nI td), .ref aL, .int (nI J.length), .ref aY, .int (nI ms), .ref aM, .int (nI ip), .int (nI it), .int ir, .int (nI il), .ref bN, .ref bS, .ref bC, .ref bB, .ref bR, .ref bO, .ref aU])), (ta, .inl (cA 1, 72, .inl tf))]) := by
  refine ck_mkI (by decide) (fun _ _ _ => rfl) (Nat.le_of_ble_eq_true rfl) ?_
  intro pG eG sG mG argsG belowG methG cG Q A H locs ls hx hb hml hown hts hK hE hA hP hD hS hl hret
  have hl : lv_has ls 2 [(0, .ref mo)] := hl
  have hl1 := cd_len hc
  have hl0 := hc.1
  have L34 : ∀ (n : Nat) (H : Heap) (locs : List Loc) (ls : Array Slot), (n ≤ 9) → (n ≤ L.length) → (∀ j, j < n → nm_c (L.getD j 0)) → (L.length ≤ n ∨ 9 ≤ n ∨ ¬ nm_c (L.getD n 0)) →  va_P D vwCl [(mo, .inr (8, [.int zt, .int (nI L.length), .ref ta, .int (nI np), .ref aN, .ref aS, .ref aC, .int (nI tot), .ref aB, .int (bz_c rd), .int (nI rt), .int (nI pl), .ref aR, .ref aO, .int (nI sg), .ref aW, .int (bz_c mp), .int (nI rn), .int (nI rs), .int (bz_c gd), .ref aD, .int (nI nh), .ref a1, .ref a2, .ref a3, .ref a4, .int (nI td), .ref aL, .int (nI J.length), .ref aY, .int (nI ms), .ref aM, .int (nI ip), .int (nI it), .int ir, .int (nI il), .ref bN, .ref bS, .ref bC, .ref bB, .ref bR, .ref bO, .ref aU])), (ta, .inl (cA 1, 72, .inl tf))] H → va_D A [(mo, .inr (8, [.int zt, .int (nI L.length), .ref ta, .int (nI np), .ref aN, .ref aS, .ref aC, .int (nI tot), .ref aB, .int (bz_c rd), .int (nI rt), .int (nI pl), .ref aR, .ref aO, .int (nI sg), .ref aW, .int (bz_c mp), .int (nI rn), .int (nI rs), .int (bz_c gd), .ref aD, .int (nI nh), .ref a1, .ref a2, .ref a3, .ref a4, .int (nI td), .ref aL, .int (nI J.length), .ref aY, .int (nI ms), .ref aM, .int (nI ip), .int (nI it), .int ir, .int (nI il), .ref bN, .ref bS, .ref bC, .ref bB, .ref bR, .ref bO, .ref aU])), (ta, .inl (cA 1, 72, .inl tf))] → va_S A sG.heap H locs → lv_has ls 2 [(0, .ref mo), (1, .int (nI n))] → W pG l eG (rm_d 2) sG mG argsG belowG methG cG H locs 0 0 Q (F0 mG 34 ls []) := by
    intro n H locs ls hn9 hnl hs he hP hD hS hl
    refine lv_iload_n hx hb d_Mo_nameLength_34 rfl (lv_at hl 1 rfl) ?_
    refine lv_bipush (v := nI 8) hx hb d_Mo_nameLength_35 (by decide) ?_
    refine wn_icmp_gt (by omega) (by omega) (tgt := 63) hx hb d_Mo_nameLength_37 (by decide) ?_ ?_
    · intro h37
      refine lv_iconst (v := nI 0) hx hb d_Mo_nameLength_63 (by decide) ?_
      exact hret (nI 0) () _ _ _ 64 d_Mo_nameLength_64 (by first | exact ⟨n, rfl, nl_i h37 h45 h56 hs⟩ | exact ⟨0, rfl, nl_o hs he (fun z => by first | omega | exact h56 z.2.2)⟩) hP hD hS
    · intro h37
      refine lv_iload_n hx hb d_Mo_nameLength_40 rfl (lv_at hl 1 rfl) ?_
      refine lv_aload_n hx hb d_Mo_nameLength_41 rfl (lv_at hl 0 rfl) ?_
      refine va_get (C := RX8) (T := TX8) (N := 43) hx hb hts inX8 hown hK hP 0 rfl rfl 1 (by decide) (hts _ m_846) (fun _ h9 => h9) rfl d_Mo_nameLength_42 ?_
      refine wn_icmp_ge (by omega) (by omega) (tgt := 63) hx hb d_Mo_nameLength_45 (by decide) ?_ ?_
      · intro h45
        refine lv_iconst (v := nI 0) hx hb d_Mo_nameLength_63 (by decide) ?_
        exact hret (nI 0) () _ _ _ 64 d_Mo_nameLength_64 (by first | exact ⟨n, rfl, nl_i h37 h45 h56 hs⟩ | exact ⟨0, rfl, nl_o hs he (fun z => by first | omega | exact h56 z.2.2)⟩) hP hD hS
      · intro h45
        refine lv_aload_n hx hb d_Mo_nameLength_48 rfl (lv_at hl 0 rfl) ?_
        refine va_get (C := RX8) (T := TX8) (N := 43) hx hb hts inX8 hown hK hP 0 rfl rfl 2 (by decide) (hts _ m_847) (fun _ h9 => h9) rfl d_Mo_nameLength_49 ?_
        refine lv_iload_n hx hb d_Mo_nameLength_52 rfl (lv_at hl 1 rfl) ?_
        refine wn_cald hx hb hK hP 1 1 rfl rfl (by omega) (by omega) d_Mo_nameLength_53 ?_
        refine wn_eq (y := L.getD n 0) (hc.2.2 n (by omega)) ?_
        refine lv_bipush (v := 58) hx hb d_Mo_nameLength_54 (by decide) ?_
        refine lv_icmp_ne (tgt := 63) hx hb d_Mo_nameLength_56 (by decide) ?_ ?_
        · intro h56
          refine lv_iconst (v := nI 0) hx hb d_Mo_nameLength_63 (by decide) ?_
          exact hret (nI 0) () _ _ _ 64 d_Mo_nameLength_64 (by first | exact ⟨n, rfl, nl_i h37 h45 h56 hs⟩ | exact ⟨0, rfl, nl_o hs he (fun z => by first | omega | exact h56 z.2.2)⟩) hP hD hS
        · intro h56
          refine lv_iload_n hx hb d_Mo_nameLength_59 rfl (lv_at hl 1 rfl) ?_
          refine lv_goto (tgt := 64) hx hb d_Mo_nameLength_60 (by decide) ?_
          exact hret (nI n) () _ _ _ 64 d_Mo_nameLength_64 (by first | exact ⟨n, rfl, nl_i h37 h45 h56 hs⟩ | exact ⟨0, rfl, nl_o hs he (fun z => by first | omega | exact h56 z.2.2)⟩) hP hD hS
  refine lv_iconst (v := nI 0) hx hb d_Mo_nameLength_0 (by decide) ?_
  refine lv_istore_n (lv' := [(1, .int (nI 0)), (0, .ref mo)]) hx hb d_Mo_nameLength_1 rfl hl (by decide) rfl (fun ls hl => ?_)
  have L2 : ∀ (nG : Nat) (n : Nat) (H : Heap) (locs : List Loc) (ls : Array Slot), 9 - n = nG → (n ≤ 9) → (n ≤ L.length) → (∀ j, j < n → nm_c (L.getD j 0)) →  va_P D vwCl [(mo, .inr (8, [.int zt, .int (nI L.length), .ref ta, .int (nI np), .ref aN, .ref aS, .ref aC, .int (nI tot), .ref aB, .int (bz_c rd), .int (nI rt), .int (nI pl), .ref aR, .ref aO, .int (nI sg), .ref aW, .int (bz_c mp), .int (nI rn), .int (nI rs), .int (bz_c gd), .ref aD, .int (nI nh), .ref a1, .ref a2, .ref a3, .ref a4, .int (nI td), .ref aL, .int (nI J.length), .ref aY, .int (nI ms), .ref aM, .int (nI ip), .int (nI it), .int ir, .int (nI il), .ref bN, .ref bS, .ref bC, .ref bB, .ref bR, .ref bO, .ref aU])), (ta, .inl (cA 1, 72, .inl tf))] H → va_D A [(mo, .inr (8, [.int zt, .int (nI L.length), .ref ta, .int (nI np), .ref aN, .ref aS, .ref aC, .int (nI tot), .ref aB, .int (bz_c rd), .int (nI rt), .int (nI pl), .ref aR, .ref aO, .int (nI sg), .ref aW, .int (bz_c mp), .int (nI rn), .int (nI rs), .int (bz_c gd), .ref aD, .int (nI nh), .ref a1, .ref a2, .ref a3, .ref a4, .int (nI td), .ref aL, .int (nI J.length), .ref aY, .int (nI ms), .ref aM, .int (nI ip), .int (nI it), .int ir, .int (nI il), .ref bN, .ref bS, .ref bC, .ref bB, .ref bR, .ref bO, .ref aU])), (ta, .inl (cA 1, 72, .inl tf))] → va_S A sG.heap H locs → lv_has ls 2 [(0, .ref mo), (1, .int (nI n))] → W pG l eG (rm_d 2) sG mG argsG belowG methG cG H locs 0 0 Q (F0 mG 2 ls []) := by
    intro nG
    induction nG using Nat.strongRecOn with
    | ind nG ih2 =>
      intro n H locs ls hn2 hn9 hnl hs hP hD hS hl
      refine lv_iload_n hx hb d_Mo_nameLength_2 rfl (lv_at hl 1 rfl) ?_
      refine lv_aload_n hx hb d_Mo_nameLength_3 rfl (lv_at hl 0 rfl) ?_
      refine va_get (C := RX8) (T := TX8) (N := 43) hx hb hts inX8 hown hK hP 0 rfl rfl 1 (by decide) (hts _ m_846) (fun _ h9 => h9) rfl d_Mo_nameLength_4 ?_
      refine wn_icmp_ge (by omega) (by omega) (tgt := 34) hx hb d_Mo_nameLength_7 (by decide) ?_ ?_
      · intro h7
        exact L34 n _ _ _ (by first | assumption | omega) (by first | assumption | omega) (by first | assumption | omega) (by first | exact Or.inl h7 | exact Or.inr (Or.inl h13) | exact Or.inr (Or.inr hq22)) hP hD hS (lv_sub hl [0, 1] rfl)
      · intro h7
        refine lv_iload_n hx hb d_Mo_nameLength_10 rfl (lv_at hl 1 rfl) ?_
        refine lv_bipush (v := nI 9) hx hb d_Mo_nameLength_11 (by decide) ?_
        refine wn_icmp_ge (by omega) (by omega) (tgt := 34) hx hb d_Mo_nameLength_13 (by decide) ?_ ?_
        · intro h13
          exact L34 n _ _ _ (by first | assumption | omega) (by first | assumption | omega) (by first | assumption | omega) (by first | exact Or.inl h7 | exact Or.inr (Or.inl h13) | exact Or.inr (Or.inr hq22)) hP hD hS (lv_sub hl [0, 1] rfl)
        · intro h13
          refine lv_aload_n hx hb d_Mo_nameLength_16 rfl (lv_at hl 0 rfl) ?_
          refine va_get (C := RX8) (T := TX8) (N := 43) hx hb hts inX8 hown hK hP 0 rfl rfl 2 (by decide) (hts _ m_847) (fun _ h9 => h9) rfl d_Mo_nameLength_17 ?_
          refine lv_iload_n hx hb d_Mo_nameLength_20 rfl (lv_at hl 1 rfl) ?_
          refine wn_cald hx hb hK hP 1 1 rfl rfl (by omega) (by omega) d_Mo_nameLength_21 ?_
          refine wn_eq (y := L.getD n 0) (hc.2.2 n (by omega)) ?_
          refine ck_cS (rest := []) (wr := [(mo, .inr (8, [.int zt, .int (nI L.length), .ref ta, .int (nI np), .ref aN, .ref aS, .ref aC, .int (nI tot), .ref aB, .int (bz_c rd), .int (nI rt), .int (nI pl), .ref aR, .ref aO, .int (nI sg), .ref aW, .int (bz_c mp), .int (nI rn), .int (nI rs), .int (bz_c gd), .ref aD, .int (nI nh), .ref a1, .ref a2, .ref a3, .ref a4, .int (nI td), .ref aL, .int (nI J.length), .ref aY, .int (nI ms), .ref aM, .int (nI ip), .int (nI it), .int ir, .int (nI il), .ref bN, .ref bS, .ref bC, .ref bB, .ref bR, .ref bO, .ref aU])), (ta, .inl (cA 1, 72, .inl tf))]) (ws2 := fun u => [(mo, .inr (8, [.int zt, .int (nI L.length), .ref ta, .int (nI np), .ref aN, .ref aS, .ref aC, .int (nI tot), .ref aB, .int (bz_c rd), .int (nI rt), .int (nI pl), .ref aR, .ref aO, .int (nI sg), .ref aW, .int (bz_c mp), .int (nI rn), .int (nI rs), .int (bz_c gd), .ref aD, .int (nI nh), .ref a1, .ref a2, .ref a3, .ref a4, .int (nI td), .ref aL, .int (nI J.length), .ref aY, .int (nI ms), .ref aM, .int (nI ip), .int (nI it), .int ir, .int (nI il), .ref bN, .ref bS, .ref bC, .ref bB, .ref bR, .ref bO, .ref aU])), (ta, .inl (cA 1, 72, .inl tf))]) (c_Mo_inName l D cA K (L.getD n 0) ) hx hb hml hown hts hK hE hA hP hD hS k_Mo_inName m_993 (by decide) rfl hl.1 rfl (Nat.le_of_ble_eq_true rfl) d_Mo_nameLength_22 [] [0, 1] [0, 1] rfl rfl (by decide) (fun _ => rfl) (fun r22 u22 H locs hq22 hP hD hS => ?_)
          try dsimp only at hq22
          have hP : va_P D vwCl [(mo, .inr (8, [.int zt, .int (nI L.length), .ref ta, .int (nI np), .ref aN, .ref aS, .ref aC, .int (nI tot), .ref aB, .int (bz_c rd), .int (nI rt), .int (nI pl), .ref aR, .ref aO, .int (nI sg), .ref aW, .int (bz_c mp), .int (nI rn), .int (nI rs), .int (bz_c gd), .ref aD, .int (nI nh), .ref a1, .ref a2, .ref a3, .ref a4, .int (nI td), .ref aL, .int (nI J.length), .ref aY, .int (nI ms), .ref aM, .int (nI ip), .int (nI it), .int ir, .int (nI il), .ref bN, .ref bS, .ref bC, .ref bB, .ref bR, .ref bO, .ref aU])), (ta, .inl (cA 1, 72, .inl tf))] H := hP
          have hD : va_D A [(mo, .inr (8, [.int zt, .int (nI L.length), .ref ta, .int (nI np), .ref aN, .ref aS, .ref aC, .int (nI tot), .ref aB, .int (bz_c rd), .int (nI rt), .int (nI pl), .ref aR, .ref aO, .int (nI sg), .ref aW, .int (bz_c mp), .int (nI rn), .int (nI rs), .int (bz_c gd), .ref aD, .int (nI nh), .ref a1, .ref a2, .ref a3, .ref a4, .int (nI td), .ref aL, .int (nI J.length), .ref aY, .int (nI ms), .ref aM, .int (nI ip), .int (nI it), .int ir, .int (nI il), .ref bN, .ref bS, .ref bC, .ref bB, .ref bR, .ref bO, .ref aU])), (ta, .inl (cA 1, 72, .inl tf))] := hD
          rcases hq22 with ⟨rfl, hq22⟩ | ⟨rfl, hq22⟩
          ·
            refine lv_if_eq (tgt := 34) hx hb d_Mo_nameLength_25 (by decide) (fun h9 => absurd h9 (by decide)) (fun _ => ?_)
            refine lv_iinc (k := 1) (v := nI (n + 1)) (lv' := [(1, .int (nI (n + 1))), (0, .ref mo)]) hx hb d_Mo_nameLength_28 hl rfl (wi_inc1 _) (by decide) rfl (fun ls hl => ?_)
            refine lv_goto (tgt := 2) hx hb d_Mo_nameLength_31 (by decide) ?_
            exact ih2 _ (by omega) (n + 1) _ _ _ rfl (by first | assumption | omega) (by first | assumption | omega) (lt_s hs hq22) hP hD hS (lv_sub hl [1, 0] rfl)
          ·
            refine lv_if_eq (tgt := 34) hx hb d_Mo_nameLength_25 (by decide) (fun _ => ?_) (fun h9 => absurd h9 (by decide))
            exact L34 n _ _ _ (by first | assumption | omega) (by first | assumption | omega) (by first | assumption | omega) (by first | exact Or.inl h7 | exact Or.inr (Or.inl h13) | exact Or.inr (Or.inr hq22)) hP hD hS (lv_sub hl [0, 1] rfl)
  exact L2 _ 0 _ _ _ rfl (by first | assumption | omega) (by first | assumption | omega) (fun j hj => absurd hj (Nat.not_lt_zero j)) hP hD hS (lv_sub hl [1, 0] rfl)
theorem k_Mo_nameLength : cf_V y_Mo_nameLength b_Mo_nameLength 2 (some .int) "ReadMapperModel" 0 := ⟨⟨m_991, (wm_s (q := (y_Mo_nameLength, 43)) (by decide +kernel)), m_9, m_992⟩, by decide +kernel⟩
set_option maxHeartbeats 4000000 in
set_option maxRecDepth 100000 in
theorem c_Mo_basesEnd (l : Launch) (D : va_G) (cA : Nat → ClassId) (K : Nat → Nat) (mo ta aN aS aC aB aR aO aW aD a1 a2 a3 a4 aL aY aM bN bS bC bB bR bO aU : Nat) (rd mp gd : Bool) (zt ir : Int32) (np tot rt pl sg rn rs nh td ms ip it il : Nat) (L J : List Int32) (tf : Nat → Int32) (b : Nat) (hc : cd_r 72 tf L) (hb1 : b ≤ 1000) : ck_I l y_Mo_basesEnd (Cond.code y_Mo_basesEnd b_Mo_basesEnd 3 (some .int) :: w_all) 2 D cA K [.ref mo, .int (nI b)] [(mo, .inr (8, [.int zt, .int (nI L.length), .ref ta, .int (nI np), .ref aN, .ref aS, .ref aC, .int (nI tot), .ref aB, .int (bz_c rd), .int (nI rt), .int (nI pl), .ref aR, .ref aO, .int (nI sg), .ref aW, .int (bz_c mp), .int (nI rn), .int (nI rs), .int (bz_c gd), .ref aD, .int (nI nh), .ref a1, .ref a2, .ref a3, .ref a4, .int (nI td), .ref aL, .int (nI J.length), .ref aY, .int (nI ms), .ref aM, .int (nI ip), .int (nI it), .int ir, .int (nI il), .ref bN, .ref bS, .ref bC, .ref bB, .ref bR, .ref bO, .ref aU])), (ta, .inl (cA 1, 72, .inl tf))] (fun (r : Int32) (u : Unit) => ∃ k, r = nI k ∧ nb_p L b k) (fun u => [(mo, .inr (8, [.int zt, .int (nI L.length), .ref ta, .int (nI np), .ref aN, .ref aS, .ref aC, .int (nI tot), .ref aB, .int (bz_c rd), .int (nI rt), .int (nI pl), .ref aR, .ref aO, .int (nI sg), .ref aW, .int (bz_c mp), .int (nI rn), .int (nI rs), .int (bz_c gd), .ref aD, .int (nI nh), .ref a1, .ref a2, .ref a3, .ref a4, .int (nI td), .ref aL, .int (nI J.length), .ref aY, .int (nI ms), .ref aM, .int (nI ip), .int (nI it), .int ir, .int (nI il), .ref bN, .ref bS, .ref bC, .ref bB, .ref bR, .ref bO, .ref aU])), (ta, .inl (cA 1, 72, .inl tf))]) := by
  refine ck_mkI (by decide) (fun _ _ _ => rfl) (Nat.le_of_ble_eq_true rfl) ?_
  intro pG eG sG mG argsG belowG methG cG Q A H locs ls hx hb hml hown hts hK hE hA hP hD hS hl hret
  have hl : lv_has ls 3 [(0, .ref mo), (1, .int (nI b))] := hl
  have hl1 := cd_len hc
  have hl0 := hc.1
  refine lv_iload_n hx hb d_Mo_basesEnd_0 rfl (lv_at hl 1 rfl) ?_
  refine lv_istore_n (lv' := [(2, .int (nI b)), (0, .ref mo), (1, .int (nI b))]) hx hb d_Mo_basesEnd_1 rfl hl (by decide) rfl (fun ls hl => ?_)
  have L2 : ∀ (nG : Nat) (i : Nat) (H : Heap) (locs : List Loc) (ls : Array Slot), L.length - i = nG → (b ≤ i) → (i ≤ L.length ∨ i = b) → (∀ j, b ≤ j → j < i → ¬ sy_c (L.getD j 0) = -1) →  va_P D vwCl [(mo, .inr (8, [.int zt, .int (nI L.length), .ref ta, .int (nI np), .ref aN, .ref aS, .ref aC, .int (nI tot), .ref aB, .int (bz_c rd), .int (nI rt), .int (nI pl), .ref aR, .ref aO, .int (nI sg), .ref aW, .int (bz_c mp), .int (nI rn), .int (nI rs), .int (bz_c gd), .ref aD, .int (nI nh), .ref a1, .ref a2, .ref a3, .ref a4, .int (nI td), .ref aL, .int (nI J.length), .ref aY, .int (nI ms), .ref aM, .int (nI ip), .int (nI it), .int ir, .int (nI il), .ref bN, .ref bS, .ref bC, .ref bB, .ref bR, .ref bO, .ref aU])), (ta, .inl (cA 1, 72, .inl tf))] H → va_D A [(mo, .inr (8, [.int zt, .int (nI L.length), .ref ta, .int (nI np), .ref aN, .ref aS, .ref aC, .int (nI tot), .ref aB, .int (bz_c rd), .int (nI rt), .int (nI pl), .ref aR, .ref aO, .int (nI sg), .ref aW, .int (bz_c mp), .int (nI rn), .int (nI rs), .int (bz_c gd), .ref aD, .int (nI nh), .ref a1, .ref a2, .ref a3, .ref a4, .int (nI td), .ref aL, .int (nI J.length), .ref aY, .int (nI ms), .ref aM, .int (nI ip), .int (nI it), .int ir, .int (nI il), .ref bN, .ref bS, .ref bC, .ref bB, .ref bR, .ref bO, .ref aU])), (ta, .inl (cA 1, 72, .inl tf))] → va_S A sG.heap H locs → lv_has ls 3 [(0, .ref mo), (2, .int (nI i))] → W pG l eG (rm_d 2) sG mG argsG belowG methG cG H locs 0 0 Q (F0 mG 2 ls []) := by
    intro nG
    induction nG using Nat.strongRecOn with
    | ind nG ih2 =>
      intro i H locs ls hn2 hbi hil hs hP hD hS hl
      refine lv_iload_n hx hb d_Mo_basesEnd_2 rfl (lv_at hl 1 rfl) ?_
      refine lv_aload_n hx hb d_Mo_basesEnd_3 rfl (lv_at hl 0 rfl) ?_
      refine va_get (C := RX8) (T := TX8) (N := 43) hx hb hts inX8 hown hK hP 0 rfl rfl 1 (by decide) (hts _ m_846) (fun _ h9 => h9) rfl d_Mo_basesEnd_4 ?_
      refine wn_icmp_ge (by omega) (by omega) (tgt := 28) hx hb d_Mo_basesEnd_7 (by decide) ?_ ?_
      · intro h7
        refine lv_iload_n hx hb d_Mo_basesEnd_28 rfl (lv_at hl 1 rfl) ?_
        exact hret (nI i) () _ _ _ 29 d_Mo_basesEnd_29 (by first | exact ⟨i, rfl, hbi, hil, hs, fun z => by omega⟩ | exact ⟨i, rfl, hbi, hil, hs, fun z => sy_0 h19⟩) hP hD hS
      · intro h7
        refine lv_aload_n hx hb d_Mo_basesEnd_10 rfl (lv_at hl 0 rfl) ?_
        refine va_get (C := RX8) (T := TX8) (N := 43) hx hb hts inX8 hown hK hP 0 rfl rfl 2 (by decide) (hts _ m_847) (fun _ h9 => h9) rfl d_Mo_basesEnd_11 ?_
        refine lv_iload_n hx hb d_Mo_basesEnd_14 rfl (lv_at hl 1 rfl) ?_
        refine wn_cald hx hb hK hP 1 1 rfl rfl (by omega) (by omega) d_Mo_basesEnd_15 ?_
        refine wn_eq (y := L.getD i 0) (hc.2.2 i (by omega)) ?_
        refine ck_cS (rest := []) (wr := [(mo, .inr (8, [.int zt, .int (nI L.length), .ref ta, .int (nI np), .ref aN, .ref aS, .ref aC, .int (nI tot), .ref aB, .int (bz_c rd), .int (nI rt), .int (nI pl), .ref aR, .ref aO, .int (nI sg), .ref aW, .int (bz_c mp), .int (nI rn), .int (nI rs), .int (bz_c gd), .ref aD, .int (nI nh), .ref a1, .ref a2, .ref a3, .ref a4, .int (nI td), .ref aL, .int (nI J.length), .ref aY, .int (nI ms), .ref aM, .int (nI ip), .int (nI it), .int ir, .int (nI il), .ref bN, .ref bS, .ref bC, .ref bB, .ref bR, .ref bO, .ref aU])), (ta, .inl (cA 1, 72, .inl tf))]) (ws2 := fun u => [(mo, .inr (8, [.int zt, .int (nI L.length), .ref ta, .int (nI np), .ref aN, .ref aS, .ref aC, .int (nI tot), .ref aB, .int (bz_c rd), .int (nI rt), .int (nI pl), .ref aR, .ref aO, .int (nI sg), .ref aW, .int (bz_c mp), .int (nI rn), .int (nI rs), .int (bz_c gd), .ref aD, .int (nI nh), .ref a1, .ref a2, .ref a3, .ref a4, .int (nI td), .ref aL, .int (nI J.length), .ref aY, .int (nI ms), .ref aM, .int (nI ip), .int (nI it), .int ir, .int (nI il), .ref bN, .ref bS, .ref bC, .ref bB, .ref bR, .ref bO, .ref aU])), (ta, .inl (cA 1, 72, .inl tf))]) (c_Mo_symbol l D cA K (L.getD i 0) ) hx hb hml hown hts hK hE hA hP hD hS k_Mo_symbol m_1000 (by decide) rfl hl.1 rfl (Nat.le_of_ble_eq_true rfl) d_Mo_basesEnd_16 [] [0, 1] [0, 1] rfl rfl (by decide) (fun _ => rfl) (fun r16 u16 H locs hq16 hP hD hS => ?_)
        try dsimp only at hq16
        have hP : va_P D vwCl [(mo, .inr (8, [.int zt, .int (nI L.length), .ref ta, .int (nI np), .ref aN, .ref aS, .ref aC, .int (nI tot), .ref aB, .int (bz_c rd), .int (nI rt), .int (nI pl), .ref aR, .ref aO, .int (nI sg), .ref aW, .int (bz_c mp), .int (nI rn), .int (nI rs), .int (bz_c gd), .ref aD, .int (nI nh), .ref a1, .ref a2, .ref a3, .ref a4, .int (nI td), .ref aL, .int (nI J.length), .ref aY, .int (nI ms), .ref aM, .int (nI ip), .int (nI it), .int ir, .int (nI il), .ref bN, .ref bS, .ref bC, .ref bB, .ref bR, .ref bO, .ref aU])), (ta, .inl (cA 1, 72, .inl tf))] H := hP
        have hD : va_D A [(mo, .inr (8, [.int zt, .int (nI L.length), .ref ta, .int (nI np), .ref aN, .ref aS, .ref aC, .int (nI tot), .ref aB, .int (bz_c rd), .int (nI rt), .int (nI pl), .ref aR, .ref aO, .int (nI sg), .ref aW, .int (bz_c mp), .int (nI rn), .int (nI rs), .int (bz_c gd), .ref aD, .int (nI nh), .ref a1, .ref a2, .ref a3, .ref a4, .int (nI td), .ref aL, .int (nI J.length), .ref aY, .int (nI ms), .ref aM, .int (nI ip), .int (nI it), .int ir, .int (nI il), .ref bN, .ref bS, .ref bC, .ref bB, .ref bR, .ref bO, .ref aU])), (ta, .inl (cA 1, 72, .inl tf))] := hD
        subst r16
        refine lv_if_le (tgt := 28) hx hb d_Mo_basesEnd_19 (by decide) ?_ ?_
        · intro h19
          refine lv_iload_n hx hb d_Mo_basesEnd_28 rfl (lv_at hl 1 rfl) ?_
          exact hret (nI i) () _ _ _ 29 d_Mo_basesEnd_29 (by first | exact ⟨i, rfl, hbi, hil, hs, fun z => by omega⟩ | exact ⟨i, rfl, hbi, hil, hs, fun z => sy_0 h19⟩) hP hD hS
        · intro h19
          refine lv_iinc (k := 1) (v := nI (i + 1)) (lv' := [(2, .int (nI (i + 1))), (0, .ref mo)]) hx hb d_Mo_basesEnd_22 hl rfl (wi_inc1 _) (by decide) rfl (fun ls hl => ?_)
          refine lv_goto (tgt := 2) hx hb d_Mo_basesEnd_25 (by decide) ?_
          exact ih2 _ (by omega) (i + 1) _ _ _ rfl (by first | assumption | omega) (by first | assumption | omega) (fun j h1 h2 => if e : j = i then by subst e; exact sy_1 h19 else hs j h1 (by omega)) hP hD hS (lv_sub hl [1, 0] rfl)
  exact L2 _ b _ _ _ rfl (by first | assumption | omega) (by first | assumption | omega) (fun j h1 h2 => by omega) hP hD hS (lv_sub hl [1, 0] rfl)
theorem k_Mo_basesEnd : cf_V y_Mo_basesEnd b_Mo_basesEnd 3 (some .int) "ReadMapperModel" 1 := ⟨⟨m_998, (wm_s (q := (y_Mo_basesEnd, 43)) (by decide +kernel)), m_9, m_999⟩, by decide +kernel⟩
set_option maxHeartbeats 4000000 in
set_option maxRecDepth 100000 in
theorem c_Mo_write (l : Launch) (D : va_G) (cA : Nat → ClassId) (K : Nat → Nat) (mo ta aN aS aC aB aR aO aW aD a1 a2 a3 a4 aL aY aM bN bS bC bB bR bO aU : Nat) (rd mp gd : Bool) (zt ir : Int32) (np tot rt pl sg rn rs nh td ms ip it il : Nat) (L J : List Int32) (tf : Nat → Int32) (w : Int64) (hc : cd_r 72 tf L) : ck_I l y_Mo_write (Cond.code y_Mo_write b_Mo_write 6 (some .boolean) :: w_all) 1 D cA K [.ref mo, .long w] [(mo, .inr (8, [.int zt, .int (nI L.length), .ref ta, .int (nI np), .ref aN, .ref aS, .ref aC, .int (nI tot), .ref aB, .int (bz_c rd), .int (nI rt), .int (nI pl), .ref aR, .ref aO, .int (nI sg), .ref aW, .int (bz_c mp), .int (nI rn), .int (nI rs), .int (bz_c gd), .ref aD, .int (nI nh), .ref a1, .ref a2, .ref a3, .ref a4, .int (nI td), .ref aL, .int (nI J.length), .ref aY, .int (nI ms), .ref aM, .int (nI ip), .int (nI it), .int ir, .int (nI il), .ref bN, .ref bS, .ref bC, .ref bB, .ref bR, .ref bO, .ref aU])), (ta, .inl (cA 1, 72, .inl tf))] (fun (r : Int32) (u : (Nat → Int32) × (List Int32)) => (r = 1 ∧ cd_r 72 u.1 u.2 ∧ (∀ i, i < 8 → wb_p w i) ∧ L.length + (wb_c w 8).length ≤ 72 ∧ u.2 = L ++ wb_c w 8) ∨ (r = 0 ∧ cd_r 72 u.1 u.2 ∧ ¬ ((∀ i, i < 8 → wb_p w i) ∧ L.length + (wb_c w 8).length ≤ 72) ∧ u.2 = L)) (fun u => [(mo, .inr (8, [.int (nI 0), .int (nI u.2.length), .ref ta, .int (nI np), .ref aN, .ref aS, .ref aC, .int (nI tot), .ref aB, .int (bz_c rd), .int (nI rt), .int (nI pl), .ref aR, .ref aO, .int (nI sg), .ref aW, .int (bz_c mp), .int (nI rn), .int (nI rs), .int (bz_c gd), .ref aD, .int (nI nh), .ref a1, .ref a2, .ref a3, .ref a4, .int (nI td), .ref aL, .int (nI J.length), .ref aY, .int (nI ms), .ref aM, .int (nI ip), .int (nI it), .int ir, .int (nI il), .ref bN, .ref bS, .ref bC, .ref bB, .ref bR, .ref bO, .ref aU])), (ta, .inl (cA 1, 72, .inl u.1))]) := by
  refine ck_mkI (by decide) (fun r u h => by rcases h with ⟨rfl, _⟩ | ⟨rfl, _⟩ <;> rfl) (Nat.le_of_ble_eq_true rfl) ?_
  intro pG eG sG mG argsG belowG methG cG Q A H locs ls hx hb hml hown hts hK hE hA hP hD hS hl hret
  have hl : lv_has ls 6 [(0, .ref mo), (1, .long w)] := hl
  have hl1 := cd_len hc
  have hl0 := hc.1
  refine lv_aload_n hx hb d_Mo_write_0 rfl (lv_at hl 0 rfl) ?_
  refine lv_iconst (v := nI 0) hx hb d_Mo_write_1 (by decide) ?_
  refine va_put (D := D) (ci := 8) (v := .int (nI 0)) (ty := .int) (C := RX8) (T := TX8) (N := 43) hx hb hts inX8 tyX8 tyX8_ok nmX8 hown hK hP hD hS 0 rfl rfl 0 (by decide) (hts _ m_845) (fun _ h9 => h9) rfl (by decide +kernel) rfl rfl (Nat.le_of_ble_eq_true rfl) d_Mo_write_2 (fun H locs hP hD hS => ?_)
  have hP : va_P D vwCl [(mo, .inr (8, [.int (nI 0), .int (nI L.length), .ref ta, .int (nI np), .ref aN, .ref aS, .ref aC, .int (nI tot), .ref aB, .int (bz_c rd), .int (nI rt), .int (nI pl), .ref aR, .ref aO, .int (nI sg), .ref aW, .int (bz_c mp), .int (nI rn), .int (nI rs), .int (bz_c gd), .ref aD, .int (nI nh), .ref a1, .ref a2, .ref a3, .ref a4, .int (nI td), .ref aL, .int (nI J.length), .ref aY, .int (nI ms), .ref aM, .int (nI ip), .int (nI it), .int ir, .int (nI il), .ref bN, .ref bS, .ref bC, .ref bB, .ref bR, .ref bO, .ref aU])), (ta, .inl (cA 1, 72, .inl tf))] H := hP
  have hD : va_D A [(mo, .inr (8, [.int (nI 0), .int (nI L.length), .ref ta, .int (nI np), .ref aN, .ref aS, .ref aC, .int (nI tot), .ref aB, .int (bz_c rd), .int (nI rt), .int (nI pl), .ref aR, .ref aO, .int (nI sg), .ref aW, .int (bz_c mp), .int (nI rn), .int (nI rs), .int (bz_c gd), .ref aD, .int (nI nh), .ref a1, .ref a2, .ref a3, .ref a4, .int (nI td), .ref aL, .int (nI J.length), .ref aY, .int (nI ms), .ref aM, .int (nI ip), .int (nI it), .int ir, .int (nI il), .ref bN, .ref bS, .ref bC, .ref bB, .ref bR, .ref bO, .ref aU])), (ta, .inl (cA 1, 72, .inl tf))] := hD
  refine lv_iconst (v := nI 0) hx hb d_Mo_write_5 (by decide) ?_
  refine lv_istore_n (lv' := [(3, .int (nI 0)), (0, .ref mo), (1, .long w)]) hx hb d_Mo_write_6 rfl hl (by decide) rfl (fun ls hl => ?_)
  refine lv_bipush (v := nI 56) hx hb d_Mo_write_7 (by decide) ?_
  refine wn_eq (y := nI (8 * (8 - 0)) - 8) (by decide) ?_
  refine lv_istore (lv' := [(4, .int (nI (8 * (8 - 0)) - 8)), (3, .int (nI 0)), (0, .ref mo), (1, .long w)]) hx hb d_Mo_write_9 hl (by decide) rfl (fun ls hl => ?_)
  have L11 : ∀ (nG : Nat) (n i : Nat) (H : Heap) (locs : List Loc) (ls : Array Slot), 8 - i = nG → (i ≤ 8) → (n = (wb_c w i).length) → (∀ j, j < i → wb_p w j) →  va_P D vwCl [(mo, .inr (8, [.int (nI 0), .int (nI L.length), .ref ta, .int (nI np), .ref aN, .ref aS, .ref aC, .int (nI tot), .ref aB, .int (bz_c rd), .int (nI rt), .int (nI pl), .ref aR, .ref aO, .int (nI sg), .ref aW, .int (bz_c mp), .int (nI rn), .int (nI rs), .int (bz_c gd), .ref aD, .int (nI nh), .ref a1, .ref a2, .ref a3, .ref a4, .int (nI td), .ref aL, .int (nI J.length), .ref aY, .int (nI ms), .ref aM, .int (nI ip), .int (nI it), .int ir, .int (nI il), .ref bN, .ref bS, .ref bC, .ref bB, .ref bR, .ref bO, .ref aU])), (ta, .inl (cA 1, 72, .inl tf))] H → va_D A [(mo, .inr (8, [.int (nI 0), .int (nI L.length), .ref ta, .int (nI np), .ref aN, .ref aS, .ref aC, .int (nI tot), .ref aB, .int (bz_c rd), .int (nI rt), .int (nI pl), .ref aR, .ref aO, .int (nI sg), .ref aW, .int (bz_c mp), .int (nI rn), .int (nI rs), .int (bz_c gd), .ref aD, .int (nI nh), .ref a1, .ref a2, .ref a3, .ref a4, .int (nI td), .ref aL, .int (nI J.length), .ref aY, .int (nI ms), .ref aM, .int (nI ip), .int (nI it), .int ir, .int (nI il), .ref bN, .ref bS, .ref bC, .ref bB, .ref bR, .ref bO, .ref aU])), (ta, .inl (cA 1, 72, .inl tf))] → va_S A sG.heap H locs → lv_has ls 6 [(0, .ref mo), (1, .long w), (3, .int (nI n)), (4, .int (nI (8 * (8 - i)) - 8))] → W pG l eG (rm_d 1) sG mG argsG belowG methG cG H locs 0 0 Q (F0 mG 11 ls []) := by
    intro nG
    induction nG using Nat.strongRecOn with
    | ind nG ih11 =>
      intro n i H locs ls hn11 hi hn hs hP hD hS hl
      have hwl := wb_len w i
      rw [← hn] at hwl
      refine lv_iload hx hb d_Mo_write_11 (lv_at hl 3 rfl) ?_
      refine lv_if_lt (tgt := 71) hx hb d_Mo_write_13 (by decide) ?_ ?_
      · intro h13
        have hi8 := wb_8 hi h13
        subst hi8
        refine lv_aload_n hx hb d_Mo_write_71 rfl (lv_at hl 0 rfl) ?_
        refine va_get (C := RX8) (T := TX8) (N := 43) hx hb hts inX8 hown hK hP 0 rfl rfl 1 (by decide) (hts _ m_846) (fun _ h9 => h9) rfl d_Mo_write_72 ?_
        refine lv_iload_n hx hb d_Mo_write_75 rfl (lv_at hl 2 rfl) ?_
        refine wn_iadd hx hb d_Mo_write_76 ?_
        refine lv_bipush (v := nI 72) hx hb d_Mo_write_77 (by decide) ?_
        refine wn_icmp_le (by omega) (by omega) (tgt := 84) hx hb d_Mo_write_79 (by decide) ?_ ?_
        · intro h79
          have hs8 := hs
          refine lv_bipush (v := nI 56) hx hb d_Mo_write_84 (by decide) ?_
          refine wn_eq (y := nI (8 * (8 - 0)) - 8) (by decide) ?_
          refine lv_istore (lv' := [(4, .int (nI (8 * (8 - 0)) - 8)), (0, .ref mo), (1, .long w), (3, .int (nI n))]) hx hb d_Mo_write_86 hl (by decide) rfl (fun ls hl => ?_)
          have L88 : ∀ (nG : Nat) (i : Nat) (L1 : List Int32) (tf1 : Nat → Int32) (H : Heap) (locs : List Loc) (ls : Array Slot), 8 - i = nG → (i ≤ 8) → (L1 = L ++ wb_c w i) → (cd_r 72 tf1 L1) →  va_P D vwCl [(mo, .inr (8, [.int (nI 0), .int (nI L1.length), .ref ta, .int (nI np), .ref aN, .ref aS, .ref aC, .int (nI tot), .ref aB, .int (bz_c rd), .int (nI rt), .int (nI pl), .ref aR, .ref aO, .int (nI sg), .ref aW, .int (bz_c mp), .int (nI rn), .int (nI rs), .int (bz_c gd), .ref aD, .int (nI nh), .ref a1, .ref a2, .ref a3, .ref a4, .int (nI td), .ref aL, .int (nI J.length), .ref aY, .int (nI ms), .ref aM, .int (nI ip), .int (nI it), .int ir, .int (nI il), .ref bN, .ref bS, .ref bC, .ref bB, .ref bR, .ref bO, .ref aU])), (ta, .inl (cA 1, 72, .inl tf1))] H → va_D A [(mo, .inr (8, [.int (nI 0), .int (nI L1.length), .ref ta, .int (nI np), .ref aN, .ref aS, .ref aC, .int (nI tot), .ref aB, .int (bz_c rd), .int (nI rt), .int (nI pl), .ref aR, .ref aO, .int (nI sg), .ref aW, .int (bz_c mp), .int (nI rn), .int (nI rs), .int (bz_c gd), .ref aD, .int (nI nh), .ref a1, .ref a2, .ref a3, .ref a4, .int (nI td), .ref aL, .int (nI J.length), .ref aY, .int (nI ms), .ref aM, .int (nI ip), .int (nI it), .int ir, .int (nI il), .ref bN, .ref bS, .ref bC, .ref bB, .ref bR, .ref bO, .ref aU])), (ta, .inl (cA 1, 72, .inl tf1))] → va_S A sG.heap H locs → lv_has ls 6 [(0, .ref mo), (1, .long w), (4, .int (nI (8 * (8 - i)) - 8))] → W pG l eG (rm_d 1) sG mG argsG belowG methG cG H locs 0 0 Q (F0 mG 88 ls []) := by
            intro nG
            induction nG using Nat.strongRecOn with
            | ind nG ih88 =>
              intro i L1 tf1 H locs ls hn88 hi hM hf1 hP hD hS hl
              have hml9 := congrArg List.length hM
              rw [List.length_append] at hml9
              have hwm := wb_mono w hi
              refine lv_iload hx hb d_Mo_write_88 (lv_at hl 2 rfl) ?_
              refine lv_if_lt (tgt := 141) hx hb d_Mo_write_90 (by decide) ?_ ?_
              · intro h90
                refine lv_iconst (v := 1) hx hb d_Mo_write_141 (by decide) ?_
                exact hret 1 (tf1, L1) _ _ _ 142 d_Mo_write_142 (by have hi8 := wb_8 hi h90; subst hi8; exact Or.inl ⟨rfl, hf1, hs8, by omega, hM⟩) hP hD hS
              · intro h90
                have hi8 := wb_lt hi h90
                have hl : lv_has ls 6 [(0, .ref mo), (1, .long w), (4, .int (nI (8 * (7 - i))))] := by rw [wb_e hi8] at hl; exact hl
                refine lv_lload_n hx hb d_Mo_write_93 rfl (lv_at hl 1 rfl) ?_
                refine lv_iload hx hb d_Mo_write_94 (lv_at hl 2 rfl) ?_
                refine lv_lushr hx hb d_Mo_write_96 rfl ?_
                refine lv_ldc2 hx hb hown (hts _ m_984) d_Mo_write_97 ?_
                refine lv_land hx hb d_Mo_write_100 ?_
                refine lv_l2i hx hb d_Mo_write_101 rfl ?_
                refine wn_eq (y := by_c w (8 * (7 - i))) (by_and _) ?_
                refine lv_istore (lv' := [(5, .int (by_c w (8 * (7 - i)))), (0, .ref mo), (1, .long w), (4, .int (nI (8 * (7 - i))))]) hx hb d_Mo_write_102 hl (by decide) rfl (fun ls hl => ?_)
                refine lv_iload hx hb d_Mo_write_104 (lv_at hl 0 rfl) ?_
                refine lv_if_eq (tgt := 131) hx hb d_Mo_write_106 (by decide) ?_ ?_
                · intro h106
                  refine lv_iload hx hb d_Mo_write_131 (lv_at hl 3 rfl) ?_
                  refine lv_bipush (v := 8) hx hb d_Mo_write_133 (by decide) ?_
                  refine lv_isub hx hb d_Mo_write_135 ?_
                  refine wn_eq (y := nI (8 * (8 - (i + 1))) - 8) (wb_j hi8) ?_
                  refine lv_istore (lv' := [(4, .int (nI (8 * (8 - (i + 1))) - 8)), (5, .int (by_c w (8 * (7 - i)))), (0, .ref mo), (1, .long w)]) hx hb d_Mo_write_136 hl (by decide) rfl (fun ls hl => ?_)
                  refine lv_goto (tgt := 88) hx hb d_Mo_write_138 (by decide) ?_
                  exact ih88 _ (by omega) (i + 1) L1 tf1 _ _ _ rfl (by first | assumption | omega) (by first | (rw [hM, List.append_assoc, wb_a h106]) | (rw [hM, wb_b h106])) (by first | exact cd_app hf1 (by omega) | exact hf1) hP hD hS (lv_sub hl [2, 3, 0] rfl)
                · intro h106
                  have hcp := wb_ch (hs8 i hi8) h106
                  have hwx := wb_mono w (show i + 1 ≤ 8 by omega)
                  rw [wb_1 h106] at hwx
                  refine lv_aload_n hx hb d_Mo_write_109 rfl (lv_at hl 1 rfl) ?_
                  refine va_get (C := RX8) (T := TX8) (N := 43) hx hb hts inX8 hown hK hP 0 rfl rfl 2 (by decide) (hts _ m_847) (fun _ h9 => h9) rfl d_Mo_write_110 ?_
                  refine lv_aload_n hx hb d_Mo_write_113 rfl (lv_at hl 1 rfl) ?_
                  refine va_get (C := RX8) (T := TX8) (N := 43) hx hb hts inX8 hown hK hP 0 rfl rfl 1 (by decide) (hts _ m_846) (fun _ h9 => h9) rfl d_Mo_write_114 ?_
                  refine lv_iload hx hb d_Mo_write_117 (lv_at hl 0 rfl) ?_
                  refine lv_i2c (v := by_c w (8 * (7 - i))) hx hb d_Mo_write_119 (ch_c hcp) ?_
                  refine wn_cast hx hb hK hP hD hS 1 1 rfl rfl (by omega) (by omega) (ch_f hcp) d_Mo_write_120 (fun H locs hP hD hS => ?_)
                  have hP : va_P D vwCl [(mo, .inr (8, [.int (nI 0), .int (nI L1.length), .ref ta, .int (nI np), .ref aN, .ref aS, .ref aC, .int (nI tot), .ref aB, .int (bz_c rd), .int (nI rt), .int (nI pl), .ref aR, .ref aO, .int (nI sg), .ref aW, .int (bz_c mp), .int (nI rn), .int (nI rs), .int (bz_c gd), .ref aD, .int (nI nh), .ref a1, .ref a2, .ref a3, .ref a4, .int (nI td), .ref aL, .int (nI J.length), .ref aY, .int (nI ms), .ref aM, .int (nI ip), .int (nI it), .int ir, .int (nI il), .ref bN, .ref bS, .ref bC, .ref bB, .ref bR, .ref bO, .ref aU])), (ta, .inl (cA 1, 72, .inl (upd tf1 L1.length (by_c w (8 * (7 - i))))))] H := hP
                  have hD : va_D A [(mo, .inr (8, [.int (nI 0), .int (nI L1.length), .ref ta, .int (nI np), .ref aN, .ref aS, .ref aC, .int (nI tot), .ref aB, .int (bz_c rd), .int (nI rt), .int (nI pl), .ref aR, .ref aO, .int (nI sg), .ref aW, .int (bz_c mp), .int (nI rn), .int (nI rs), .int (bz_c gd), .ref aD, .int (nI nh), .ref a1, .ref a2, .ref a3, .ref a4, .int (nI td), .ref aL, .int (nI J.length), .ref aY, .int (nI ms), .ref aM, .int (nI ip), .int (nI it), .int ir, .int (nI il), .ref bN, .ref bS, .ref bC, .ref bB, .ref bR, .ref bO, .ref aU])), (ta, .inl (cA 1, 72, .inl (upd tf1 L1.length (by_c w (8 * (7 - i))))))] := hD
                  refine lv_aload_n hx hb d_Mo_write_121 rfl (lv_at hl 1 rfl) ?_
                  refine lv_dup hx hb d_Mo_write_122 rfl ?_
                  refine va_get (C := RX8) (T := TX8) (N := 43) hx hb hts inX8 hown hK hP 0 rfl rfl 1 (by decide) (hts _ m_846) (fun _ h9 => h9) rfl d_Mo_write_123 ?_
                  refine lv_iconst (v := nI 1) hx hb d_Mo_write_126 (by decide) ?_
                  refine wn_iadd hx hb d_Mo_write_127 ?_
                  refine wn_nat (b := (L1 ++ [by_c w (8 * (7 - i))]).length) (by rw [List.length_append]; rfl) ?_
                  refine va_put (D := D) (ci := 8) (v := .int (nI ((L1 ++ [by_c w (8 * (7 - i))]).length))) (ty := .int) (C := RX8) (T := TX8) (N := 43) hx hb hts inX8 tyX8 tyX8_ok nmX8 hown hK hP hD hS 0 rfl rfl 1 (by decide) (hts _ m_846) (fun _ h9 => h9) rfl (by decide +kernel) rfl rfl (Nat.le_of_ble_eq_true rfl) d_Mo_write_128 (fun H locs hP hD hS => ?_)
                  have hP : va_P D vwCl [(mo, .inr (8, [.int (nI 0), .int (nI ((L1 ++ [by_c w (8 * (7 - i))]).length)), .ref ta, .int (nI np), .ref aN, .ref aS, .ref aC, .int (nI tot), .ref aB, .int (bz_c rd), .int (nI rt), .int (nI pl), .ref aR, .ref aO, .int (nI sg), .ref aW, .int (bz_c mp), .int (nI rn), .int (nI rs), .int (bz_c gd), .ref aD, .int (nI nh), .ref a1, .ref a2, .ref a3, .ref a4, .int (nI td), .ref aL, .int (nI J.length), .ref aY, .int (nI ms), .ref aM, .int (nI ip), .int (nI it), .int ir, .int (nI il), .ref bN, .ref bS, .ref bC, .ref bB, .ref bR, .ref bO, .ref aU])), (ta, .inl (cA 1, 72, .inl (upd tf1 L1.length (by_c w (8 * (7 - i))))))] H := hP
                  have hD : va_D A [(mo, .inr (8, [.int (nI 0), .int (nI ((L1 ++ [by_c w (8 * (7 - i))]).length)), .ref ta, .int (nI np), .ref aN, .ref aS, .ref aC, .int (nI tot), .ref aB, .int (bz_c rd), .int (nI rt), .int (nI pl), .ref aR, .ref aO, .int (nI sg), .ref aW, .int (bz_c mp), .int (nI rn), .int (nI rs), .int (bz_c gd), .ref aD, .int (nI nh), .ref a1, .ref a2, .ref a3, .ref a4, .int (nI td), .ref aL, .int (nI J.length), .ref aY, .int (nI ms), .ref aM, .int (nI ip), .int (nI it), .int ir, .int (nI il), .ref bN, .ref bS, .ref bC, .ref bB, .ref bR, .ref bO, .ref aU])), (ta, .inl (cA 1, 72, .inl (upd tf1 L1.length (by_c w (8 * (7 - i))))))] := hD
                  refine lv_iload hx hb d_Mo_write_131 (lv_at hl 3 rfl) ?_
                  refine lv_bipush (v := 8) hx hb d_Mo_write_133 (by decide) ?_
                  refine lv_isub hx hb d_Mo_write_135 ?_
                  refine wn_eq (y := nI (8 * (8 - (i + 1))) - 8) (wb_j hi8) ?_
                  refine lv_istore (lv' := [(4, .int (nI (8 * (8 - (i + 1))) - 8)), (5, .int (by_c w (8 * (7 - i)))), (0, .ref mo), (1, .long w)]) hx hb d_Mo_write_136 hl (by decide) rfl (fun ls hl => ?_)
                  refine lv_goto (tgt := 88) hx hb d_Mo_write_138 (by decide) ?_
                  exact ih88 _ (by omega) (i + 1) (L1 ++ [by_c w (8 * (7 - i))]) (upd tf1 L1.length (by_c w (8 * (7 - i)))) _ _ _ rfl (by first | assumption | omega) (by first | (rw [hM, List.append_assoc, wb_a h106]) | (rw [hM, wb_b h106])) (by first | exact cd_app hf1 (by omega) | exact hf1) hP hD hS (lv_sub hl [2, 3, 0] rfl)
          exact L88 _ 0 L tf _ _ _ rfl (by first | assumption | omega) (List.append_nil _).symm (by first | assumption | omega) hP hD hS (lv_sub hl [1, 2, 0] rfl)
        · intro h79
          refine lv_iconst (v := 0) hx hb d_Mo_write_82 (by decide) ?_
          exact hret 0 (tf, L) _ _ _ 83 d_Mo_write_83 (Or.inr ⟨rfl, hc, fun z => by have z2 := z.2; omega, rfl⟩) hP hD hS
      · intro h13
        have hi8 := wb_lt hi h13
        have hl : lv_has ls 6 [(0, .ref mo), (1, .long w), (3, .int (nI n)), (4, .int (nI (8 * (7 - i))))] := by rw [wb_e hi8] at hl; exact hl
        refine lv_lload_n hx hb d_Mo_write_16 rfl (lv_at hl 1 rfl) ?_
        refine lv_iload hx hb d_Mo_write_17 (lv_at hl 3 rfl) ?_
        refine lv_lushr hx hb d_Mo_write_19 rfl ?_
        refine lv_ldc2 hx hb hown (hts _ m_984) d_Mo_write_20 ?_
        refine lv_land hx hb d_Mo_write_23 ?_
        refine lv_l2i hx hb d_Mo_write_24 rfl ?_
        refine wn_eq (y := by_c w (8 * (7 - i))) (by_and _) ?_
        refine lv_istore (lv' := [(5, .int (by_c w (8 * (7 - i)))), (0, .ref mo), (1, .long w), (3, .int (nI n)), (4, .int (nI (8 * (7 - i))))]) hx hb d_Mo_write_25 hl (by decide) rfl (fun ls hl => ?_)
        refine lv_iload hx hb d_Mo_write_27 (lv_at hl 0 rfl) ?_
        refine lv_if_eq (tgt := 48) hx hb d_Mo_write_29 (by decide) ?_ ?_
        · intro h29
          refine lv_iload hx hb d_Mo_write_48 (lv_at hl 0 rfl) ?_
          refine lv_if_eq (tgt := 59) hx hb d_Mo_write_50 (by decide) ?_ ?_
          · intro h50
            refine lv_iload_n hx hb d_Mo_write_59 rfl (lv_at hl 3 rfl) ?_
            refine lv_istore_n (lv' := [(3, .int (nI n)), (5, .int (by_c w (8 * (7 - i)))), (0, .ref mo), (1, .long w), (4, .int (nI (8 * (7 - i))))]) hx hb d_Mo_write_60 rfl hl (by decide) rfl (fun ls hl => ?_)
            refine lv_iload hx hb d_Mo_write_61 (lv_at hl 4 rfl) ?_
            refine lv_bipush (v := 8) hx hb d_Mo_write_63 (by decide) ?_
            refine lv_isub hx hb d_Mo_write_65 ?_
            refine wn_eq (y := nI (8 * (8 - (i + 1))) - 8) (wb_j hi8) ?_
            refine lv_istore (lv' := [(4, .int (nI (8 * (8 - (i + 1))) - 8)), (3, .int (nI n)), (5, .int (by_c w (8 * (7 - i)))), (0, .ref mo), (1, .long w)]) hx hb d_Mo_write_66 hl (by decide) rfl (fun ls hl => ?_)
            refine lv_goto (tgt := 11) hx hb d_Mo_write_68 (by decide) ?_
            exact ih11 _ (by omega) n (i + 1) _ _ _ rfl (by first | assumption | omega) (by first | (rw [hn]; exact (wb_1 h50).symm) | (rw [hn]; exact (wb_0 h50).symm)) (by first | exact lt_s hs (Or.inr ⟨h36, h43⟩) | exact lt_s hs (Or.inl h29)) hP hD hS (lv_sub hl [3, 4, 1, 0] rfl)
          · intro h50
            refine lv_iload_n hx hb d_Mo_write_53 rfl (lv_at hl 3 rfl) ?_
            refine lv_iconst (v := nI 1) hx hb d_Mo_write_54 (by decide) ?_
            refine wn_iadd hx hb d_Mo_write_55 ?_
            refine lv_goto (tgt := 60) hx hb d_Mo_write_56 (by decide) ?_
            refine lv_istore_n (lv' := [(3, .int (nI (n + 1))), (5, .int (by_c w (8 * (7 - i)))), (0, .ref mo), (1, .long w), (4, .int (nI (8 * (7 - i))))]) hx hb d_Mo_write_60 rfl hl (by decide) rfl (fun ls hl => ?_)
            refine lv_iload hx hb d_Mo_write_61 (lv_at hl 4 rfl) ?_
            refine lv_bipush (v := 8) hx hb d_Mo_write_63 (by decide) ?_
            refine lv_isub hx hb d_Mo_write_65 ?_
            refine wn_eq (y := nI (8 * (8 - (i + 1))) - 8) (wb_j hi8) ?_
            refine lv_istore (lv' := [(4, .int (nI (8 * (8 - (i + 1))) - 8)), (3, .int (nI (n + 1))), (5, .int (by_c w (8 * (7 - i)))), (0, .ref mo), (1, .long w)]) hx hb d_Mo_write_66 hl (by decide) rfl (fun ls hl => ?_)
            refine lv_goto (tgt := 11) hx hb d_Mo_write_68 (by decide) ?_
            exact ih11 _ (by omega) (n + 1) (i + 1) _ _ _ rfl (by first | assumption | omega) (by first | (rw [hn]; exact (wb_1 h50).symm) | (rw [hn]; exact (wb_0 h50).symm)) (by first | exact lt_s hs (Or.inr ⟨h36, h43⟩) | exact lt_s hs (Or.inl h29)) hP hD hS (lv_sub hl [3, 4, 1, 0] rfl)
        · intro h29
          refine lv_iload hx hb d_Mo_write_32 (lv_at hl 0 rfl) ?_
          refine lv_bipush (v := 32) hx hb d_Mo_write_34 (by decide) ?_
          refine lv_icmp_lt (tgt := 46) hx hb d_Mo_write_36 (by decide) ?_ ?_
          · intro h36
            refine lv_iconst (v := 0) hx hb d_Mo_write_46 (by decide) ?_
            exact hret 0 (tf, L) _ _ _ 47 d_Mo_write_47 (by first | exact Or.inr ⟨rfl, hc, fun z => (z.1 i hi8).elim h29 (fun y => y.1 h36), rfl⟩ | exact Or.inr ⟨rfl, hc, fun z => (z.1 i hi8).elim h29 (fun y => h43 y.2), rfl⟩) hP hD hS
          · intro h36
            refine lv_iload hx hb d_Mo_write_39 (lv_at hl 0 rfl) ?_
            refine lv_bipush (v := 126) hx hb d_Mo_write_41 (by decide) ?_
            refine lv_icmp_le (tgt := 48) hx hb d_Mo_write_43 (by decide) ?_ ?_
            · intro h43
              refine lv_iload hx hb d_Mo_write_48 (lv_at hl 0 rfl) ?_
              refine lv_if_eq (tgt := 59) hx hb d_Mo_write_50 (by decide) ?_ ?_
              · intro h50
                refine lv_iload_n hx hb d_Mo_write_59 rfl (lv_at hl 3 rfl) ?_
                refine lv_istore_n (lv' := [(3, .int (nI n)), (5, .int (by_c w (8 * (7 - i)))), (0, .ref mo), (1, .long w), (4, .int (nI (8 * (7 - i))))]) hx hb d_Mo_write_60 rfl hl (by decide) rfl (fun ls hl => ?_)
                refine lv_iload hx hb d_Mo_write_61 (lv_at hl 4 rfl) ?_
                refine lv_bipush (v := 8) hx hb d_Mo_write_63 (by decide) ?_
                refine lv_isub hx hb d_Mo_write_65 ?_
                refine wn_eq (y := nI (8 * (8 - (i + 1))) - 8) (wb_j hi8) ?_
                refine lv_istore (lv' := [(4, .int (nI (8 * (8 - (i + 1))) - 8)), (3, .int (nI n)), (5, .int (by_c w (8 * (7 - i)))), (0, .ref mo), (1, .long w)]) hx hb d_Mo_write_66 hl (by decide) rfl (fun ls hl => ?_)
                refine lv_goto (tgt := 11) hx hb d_Mo_write_68 (by decide) ?_
                exact ih11 _ (by omega) n (i + 1) _ _ _ rfl (by first | assumption | omega) (by first | (rw [hn]; exact (wb_1 h50).symm) | (rw [hn]; exact (wb_0 h50).symm)) (by first | exact lt_s hs (Or.inr ⟨h36, h43⟩) | exact lt_s hs (Or.inl h29)) hP hD hS (lv_sub hl [3, 4, 1, 0] rfl)
              · intro h50
                refine lv_iload_n hx hb d_Mo_write_53 rfl (lv_at hl 3 rfl) ?_
                refine lv_iconst (v := nI 1) hx hb d_Mo_write_54 (by decide) ?_
                refine wn_iadd hx hb d_Mo_write_55 ?_
                refine lv_goto (tgt := 60) hx hb d_Mo_write_56 (by decide) ?_
                refine lv_istore_n (lv' := [(3, .int (nI (n + 1))), (5, .int (by_c w (8 * (7 - i)))), (0, .ref mo), (1, .long w), (4, .int (nI (8 * (7 - i))))]) hx hb d_Mo_write_60 rfl hl (by decide) rfl (fun ls hl => ?_)
                refine lv_iload hx hb d_Mo_write_61 (lv_at hl 4 rfl) ?_
                refine lv_bipush (v := 8) hx hb d_Mo_write_63 (by decide) ?_
                refine lv_isub hx hb d_Mo_write_65 ?_
                refine wn_eq (y := nI (8 * (8 - (i + 1))) - 8) (wb_j hi8) ?_
                refine lv_istore (lv' := [(4, .int (nI (8 * (8 - (i + 1))) - 8)), (3, .int (nI (n + 1))), (5, .int (by_c w (8 * (7 - i)))), (0, .ref mo), (1, .long w)]) hx hb d_Mo_write_66 hl (by decide) rfl (fun ls hl => ?_)
                refine lv_goto (tgt := 11) hx hb d_Mo_write_68 (by decide) ?_
                exact ih11 _ (by omega) (n + 1) (i + 1) _ _ _ rfl (by first | assumption | omega) (by first | (rw [hn]; exact (wb_1 h50).symm) | (rw [hn]; exact (wb_0 h50).symm)) (by first | exact lt_s hs (Or.inr ⟨h36, h43⟩) | exact lt_s hs (Or.inl h29)) hP hD hS (lv_sub hl [3, 4, 1, 0] rfl)
            · intro h43
              refine lv_iconst (v := 0) hx hb d_Mo_write_46 (by decide) ?_
              exact hret 0 (tf, L) _ _ _ 47 d_Mo_write_47 (by first | exact Or.inr ⟨rfl, hc, fun z => (z.1 i hi8).elim h29 (fun y => y.1 h36), rfl⟩ | exact Or.inr ⟨rfl, hc, fun z => (z.1 i hi8).elim h29 (fun y => h43 y.2), rfl⟩) hP hD hS
  exact L11 _ 0 0 _ _ _ rfl (by first | assumption | omega) rfl (fun j hj => absurd hj (Nat.not_lt_zero j)) hP hD hS (lv_sub hl [2, 3, 1, 0] rfl)
theorem k_Mo_write : cf_V y_Mo_write b_Mo_write 6 (some .boolean) "ReadMapperModel" 1 := ⟨⟨m_981, m_982, m_9, m_983⟩, by decide +kernel⟩
set_option maxHeartbeats 4000000 in
set_option maxRecDepth 100000 in
theorem c_Mo_spoil (l : Launch) (D : va_G) (cA : Nat → ClassId) (K : Nat → Nat) (mo ta aN aS aC aB aR aO aW aD a1 a2 a3 a4 aL aY aM bN bS bC bB bR bO aU : Nat) (rd mp gd : Bool) (zt ir : Int32) (np tot rt pl sg rn rs nh td ms ip it il : Nat) (L J : List Int32) (yf : Nat → Int32) (i x : Int32) (hj : cd_r 200 yf J) : ck_I l y_Mo_spoil (Cond.code y_Mo_spoil b_Mo_spoil 3 (some .boolean) :: w_all) 1 D cA K [.ref mo, .int i, .int x] [(mo, .inr (8, [.int zt, .int (nI L.length), .ref ta, .int (nI np), .ref aN, .ref aS, .ref aC, .int (nI tot), .ref aB, .int (bz_c rd), .int (nI rt), .int (nI pl), .ref aR, .ref aO, .int (nI sg), .ref aW, .int (bz_c mp), .int (nI rn), .int (nI rs), .int (bz_c gd), .ref aD, .int (nI nh), .ref a1, .ref a2, .ref a3, .ref a4, .int (nI td), .ref aL, .int (nI J.length), .ref aY, .int (nI ms), .ref aM, .int (nI ip), .int (nI it), .int ir, .int (nI il), .ref bN, .ref bS, .ref bC, .ref bB, .ref bR, .ref bO, .ref aU])), (aY, .inl (cA 0, 200, .inl yf))] (fun (r : Int32) (u : (Nat → Int32) × (List Int32)) => (r = 1 ∧ cd_r 200 u.1 u.2 ∧ (¬ i < 0 ∧ ¬ nI J.length ≤ i) ∧ ¬ x &&& 255 = 0 ∧ u.2 = st_c J i (at_c J i ^^^ (x &&& 255))) ∨ (r = 0 ∧ cd_r 200 u.1 u.2 ∧ ¬ ((¬ i < 0 ∧ ¬ nI J.length ≤ i) ∧ ¬ x &&& 255 = 0) ∧ u.2 = J)) (fun u => [(mo, .inr (8, [.int (nI 0), .int (nI L.length), .ref ta, .int (nI np), .ref aN, .ref aS, .ref aC, .int (nI tot), .ref aB, .int (bz_c rd), .int (nI rt), .int (nI pl), .ref aR, .ref aO, .int (nI sg), .ref aW, .int (bz_c mp), .int (nI rn), .int (nI rs), .int (bz_c gd), .ref aD, .int (nI nh), .ref a1, .ref a2, .ref a3, .ref a4, .int (nI td), .ref aL, .int (nI u.2.length), .ref aY, .int (nI ms), .ref aM, .int (nI ip), .int (nI it), .int ir, .int (nI il), .ref bN, .ref bS, .ref bC, .ref bB, .ref bR, .ref bO, .ref aU])), (aY, .inl (cA 0, 200, .inl u.1))]) := by
  refine ck_mkI (by decide) (fun r u h => by rcases h with ⟨rfl, _⟩ | ⟨rfl, _⟩ <;> rfl) (Nat.le_of_ble_eq_true rfl) ?_
  intro pG eG sG mG argsG belowG methG cG Q A H locs ls hx hb hml hown hts hK hE hA hP hD hS hl hret
  have hl : lv_has ls 3 [(0, .ref mo), (1, .int i), (2, .int x)] := hl
  have hl1 := cd_len hj
  have hl0 := hj.1
  refine lv_aload_n hx hb d_Mo_spoil_0 rfl (lv_at hl 0 rfl) ?_
  refine lv_iconst (v := nI 0) hx hb d_Mo_spoil_1 (by decide) ?_
  refine va_put (D := D) (ci := 8) (v := .int (nI 0)) (ty := .int) (C := RX8) (T := TX8) (N := 43) hx hb hts inX8 tyX8 tyX8_ok nmX8 hown hK hP hD hS 0 rfl rfl 0 (by decide) (hts _ m_845) (fun _ h9 => h9) rfl (by decide +kernel) rfl rfl (Nat.le_of_ble_eq_true rfl) d_Mo_spoil_2 (fun H locs hP hD hS => ?_)
  have hP : va_P D vwCl [(mo, .inr (8, [.int (nI 0), .int (nI L.length), .ref ta, .int (nI np), .ref aN, .ref aS, .ref aC, .int (nI tot), .ref aB, .int (bz_c rd), .int (nI rt), .int (nI pl), .ref aR, .ref aO, .int (nI sg), .ref aW, .int (bz_c mp), .int (nI rn), .int (nI rs), .int (bz_c gd), .ref aD, .int (nI nh), .ref a1, .ref a2, .ref a3, .ref a4, .int (nI td), .ref aL, .int (nI J.length), .ref aY, .int (nI ms), .ref aM, .int (nI ip), .int (nI it), .int ir, .int (nI il), .ref bN, .ref bS, .ref bC, .ref bB, .ref bR, .ref bO, .ref aU])), (aY, .inl (cA 0, 200, .inl yf))] H := hP
  have hD : va_D A [(mo, .inr (8, [.int (nI 0), .int (nI L.length), .ref ta, .int (nI np), .ref aN, .ref aS, .ref aC, .int (nI tot), .ref aB, .int (bz_c rd), .int (nI rt), .int (nI pl), .ref aR, .ref aO, .int (nI sg), .ref aW, .int (bz_c mp), .int (nI rn), .int (nI rs), .int (bz_c gd), .ref aD, .int (nI nh), .ref a1, .ref a2, .ref a3, .ref a4, .int (nI td), .ref aL, .int (nI J.length), .ref aY, .int (nI ms), .ref aM, .int (nI ip), .int (nI it), .int ir, .int (nI il), .ref bN, .ref bS, .ref bC, .ref bB, .ref bR, .ref bO, .ref aU])), (aY, .inl (cA 0, 200, .inl yf))] := hD
  refine lv_iload_n hx hb d_Mo_spoil_5 rfl (lv_at hl 1 rfl) ?_
  refine lv_if_lt (tgt := 25) hx hb d_Mo_spoil_6 (by decide) ?_ ?_
  · intro h6
    refine lv_iconst (v := 0) hx hb d_Mo_spoil_25 (by decide) ?_
    exact hret 0 (yf, J) _ _ _ 26 d_Mo_spoil_26 (by first | exact Or.inr ⟨rfl, hj, fun z => z.1.1 h6, rfl⟩ | exact Or.inr ⟨rfl, hj, fun z => z.1.2 h14, rfl⟩ | exact Or.inr ⟨rfl, hj, fun z => z.2 h22, rfl⟩) hP hD hS
  · intro h6
    refine lv_iload_n hx hb d_Mo_spoil_9 rfl (lv_at hl 1 rfl) ?_
    refine lv_aload_n hx hb d_Mo_spoil_10 rfl (lv_at hl 0 rfl) ?_
    refine va_get (C := RX8) (T := TX8) (N := 43) hx hb hts inX8 hown hK hP 0 rfl rfl 28 (by decide) (hts _ m_873) (fun _ h9 => h9) rfl d_Mo_spoil_11 ?_
    refine lv_icmp_ge (tgt := 25) hx hb d_Mo_spoil_14 (by decide) ?_ ?_
    · intro h14
      refine lv_iconst (v := 0) hx hb d_Mo_spoil_25 (by decide) ?_
      exact hret 0 (yf, J) _ _ _ 26 d_Mo_spoil_26 (by first | exact Or.inr ⟨rfl, hj, fun z => z.1.1 h6, rfl⟩ | exact Or.inr ⟨rfl, hj, fun z => z.1.2 h14, rfl⟩ | exact Or.inr ⟨rfl, hj, fun z => z.2 h22, rfl⟩) hP hD hS
    · intro h14
      refine lv_iload_n hx hb d_Mo_spoil_17 rfl (lv_at hl 2 rfl) ?_
      refine lv_sipush (v := 255) hx hb d_Mo_spoil_18 (by decide) ?_
      refine lv_iand hx hb d_Mo_spoil_21 ?_
      refine lv_if_ne (tgt := 27) hx hb d_Mo_spoil_22 (by decide) ?_ ?_
      · intro h22
        obtain ⟨k, hk, rfl⟩ := cd_in hj h6 h14
        refine lv_aload_n hx hb d_Mo_spoil_27 rfl (lv_at hl 0 rfl) ?_
        refine va_get (C := RX8) (T := TX8) (N := 43) hx hb hts inX8 hown hK hP 0 rfl rfl 29 (by decide) (hts _ m_874) (fun _ h9 => h9) rfl d_Mo_spoil_28 ?_
        refine lv_iload_n hx hb d_Mo_spoil_31 rfl (lv_at hl 1 rfl) ?_
        refine lv_aload_n hx hb d_Mo_spoil_32 rfl (lv_at hl 0 rfl) ?_
        refine va_get (C := RX8) (T := TX8) (N := 43) hx hb hts inX8 hown hK hP 0 rfl rfl 29 (by decide) (hts _ m_874) (fun _ h9 => h9) rfl d_Mo_spoil_33 ?_
        refine lv_iload_n hx hb d_Mo_spoil_36 rfl (lv_at hl 1 rfl) ?_
        refine wn_iald hx hb hK hP 1 0 rfl rfl (by omega) (by omega) d_Mo_spoil_37 ?_
        refine wn_eq (y := at_c J (nI k)) ((hj.2.2 k hk).trans (at_n hk (by omega)).symm) ?_
        refine lv_iload_n hx hb d_Mo_spoil_38 rfl (lv_at hl 2 rfl) ?_
        refine lv_sipush (v := 255) hx hb d_Mo_spoil_39 (by decide) ?_
        refine lv_iand hx hb d_Mo_spoil_42 ?_
        refine lv_ixor hx hb d_Mo_spoil_43 ?_
        refine wn_iast hx hb hK hP hD hS 1 0 rfl rfl (by omega) (by omega) d_Mo_spoil_44 (fun H locs hP hD hS => ?_)
        have hP : va_P D vwCl [(mo, .inr (8, [.int (nI 0), .int (nI L.length), .ref ta, .int (nI np), .ref aN, .ref aS, .ref aC, .int (nI tot), .ref aB, .int (bz_c rd), .int (nI rt), .int (nI pl), .ref aR, .ref aO, .int (nI sg), .ref aW, .int (bz_c mp), .int (nI rn), .int (nI rs), .int (bz_c gd), .ref aD, .int (nI nh), .ref a1, .ref a2, .ref a3, .ref a4, .int (nI td), .ref aL, .int (nI J.length), .ref aY, .int (nI ms), .ref aM, .int (nI ip), .int (nI it), .int ir, .int (nI il), .ref bN, .ref bS, .ref bC, .ref bB, .ref bR, .ref bO, .ref aU])), (aY, .inl (cA 0, 200, .inl (upd yf k ((at_c J (nI k)) ^^^ (x &&& 255)))))] H := hP
        have hD : va_D A [(mo, .inr (8, [.int (nI 0), .int (nI L.length), .ref ta, .int (nI np), .ref aN, .ref aS, .ref aC, .int (nI tot), .ref aB, .int (bz_c rd), .int (nI rt), .int (nI pl), .ref aR, .ref aO, .int (nI sg), .ref aW, .int (bz_c mp), .int (nI rn), .int (nI rs), .int (bz_c gd), .ref aD, .int (nI nh), .ref a1, .ref a2, .ref a3, .ref a4, .int (nI td), .ref aL, .int (nI J.length), .ref aY, .int (nI ms), .ref aM, .int (nI ip), .int (nI it), .int ir, .int (nI il), .ref bN, .ref bS, .ref bC, .ref bB, .ref bR, .ref bO, .ref aU])), (aY, .inl (cA 0, 200, .inl (upd yf k ((at_c J (nI k)) ^^^ (x &&& 255)))))] := hD
        have hP : va_P D vwCl [(mo, .inr (8, [.int (nI 0), .int (nI L.length), .ref ta, .int (nI np), .ref aN, .ref aS, .ref aC, .int (nI tot), .ref aB, .int (bz_c rd), .int (nI rt), .int (nI pl), .ref aR, .ref aO, .int (nI sg), .ref aW, .int (bz_c mp), .int (nI rn), .int (nI rs), .int (bz_c gd), .ref aD, .int (nI nh), .ref a1, .ref a2, .ref a3, .ref a4, .int (nI td), .ref aL, .int (nI ((st_c J (nI k) (at_c J (nI k) ^^^ (x &&& 255))).length)), .ref aY, .int (nI ms), .ref aM, .int (nI ip), .int (nI it), .int ir, .int (nI il), .ref bN, .ref bS, .ref bC, .ref bB, .ref bR, .ref bO, .ref aU])), (aY, .inl (cA 0, 200, .inl (upd yf k ((at_c J (nI k)) ^^^ (x &&& 255)))))] H := by rw [st_len]; exact hP
        have hD : va_D A [(mo, .inr (8, [.int (nI 0), .int (nI L.length), .ref ta, .int (nI np), .ref aN, .ref aS, .ref aC, .int (nI tot), .ref aB, .int (bz_c rd), .int (nI rt), .int (nI pl), .ref aR, .ref aO, .int (nI sg), .ref aW, .int (bz_c mp), .int (nI rn), .int (nI rs), .int (bz_c gd), .ref aD, .int (nI nh), .ref a1, .ref a2, .ref a3, .ref a4, .int (nI td), .ref aL, .int (nI ((st_c J (nI k) (at_c J (nI k) ^^^ (x &&& 255))).length)), .ref aY, .int (nI ms), .ref aM, .int (nI ip), .int (nI it), .int ir, .int (nI il), .ref bN, .ref bS, .ref bC, .ref bB, .ref bR, .ref bO, .ref aU])), (aY, .inl (cA 0, 200, .inl (upd yf k ((at_c J (nI k)) ^^^ (x &&& 255)))))] := by rw [st_len]; exact hD
        refine lv_iconst (v := 1) hx hb d_Mo_spoil_45 (by decide) ?_
        exact hret 1 (upd yf k (at_c J (nI k) ^^^ (x &&& 255)), st_c J (nI k) (at_c J (nI k) ^^^ (x &&& 255))) _ _ _ 46 d_Mo_spoil_46 (Or.inl ⟨rfl, by rw [st_in hj h6 h14, nI_clamp (by omega)]; exact cd_set hj hk, ⟨h6, h14⟩, h22, rfl⟩) hP hD hS
      · intro h22
        refine lv_iconst (v := 0) hx hb d_Mo_spoil_25 (by decide) ?_
        exact hret 0 (yf, J) _ _ _ 26 d_Mo_spoil_26 (by first | exact Or.inr ⟨rfl, hj, fun z => z.1.1 h6, rfl⟩ | exact Or.inr ⟨rfl, hj, fun z => z.1.2 h14, rfl⟩ | exact Or.inr ⟨rfl, hj, fun z => z.2 h22, rfl⟩) hP hD hS
theorem k_Mo_spoil : cf_V y_Mo_spoil b_Mo_spoil 3 (some .boolean) "ReadMapperModel" 2 := ⟨⟨m_1162, m_1163, m_9, m_1164⟩, by decide +kernel⟩
set_option maxHeartbeats 4000000 in
set_option maxRecDepth 100000 in
theorem c_Mo_cut (l : Launch) (D : va_G) (cA : Nat → ClassId) (K : Nat → Nat) (mo ta aN aS aC aB aR aO aW aD a1 a2 a3 a4 aL aY aM bN bS bC bB bR bO aU : Nat) (rd mp gd : Bool) (zt ir : Int32) (np tot rt pl sg rn rs nh td ms ip it il : Nat) (L J : List Int32) (yf : Nat → Int32) (hj : cd_r 200 yf J) : ck_I l y_Mo_cut (Cond.code y_Mo_cut b_Mo_cut 1 (some .boolean) :: w_all) 1 D cA K [.ref mo] [(mo, .inr (8, [.int zt, .int (nI L.length), .ref ta, .int (nI np), .ref aN, .ref aS, .ref aC, .int (nI tot), .ref aB, .int (bz_c rd), .int (nI rt), .int (nI pl), .ref aR, .ref aO, .int (nI sg), .ref aW, .int (bz_c mp), .int (nI rn), .int (nI rs), .int (bz_c gd), .ref aD, .int (nI nh), .ref a1, .ref a2, .ref a3, .ref a4, .int (nI td), .ref aL, .int (nI J.length), .ref aY, .int (nI ms), .ref aM, .int (nI ip), .int (nI it), .int ir, .int (nI il), .ref bN, .ref bS, .ref bC, .ref bB, .ref bR, .ref bO, .ref aU])), (aY, .inl (cA 0, 200, .inl yf))] (fun (r : Int32) (u : List Int32) => (r = 1 ∧ cd_r 200 yf u ∧ ¬ J = [] ∧ u = J.dropLast) ∨ (r = 0 ∧ cd_r 200 yf u ∧ J = [] ∧ u = J)) (fun u => [(mo, .inr (8, [.int (nI 0), .int (nI L.length), .ref ta, .int (nI np), .ref aN, .ref aS, .ref aC, .int (nI tot), .ref aB, .int (bz_c rd), .int (nI rt), .int (nI pl), .ref aR, .ref aO, .int (nI sg), .ref aW, .int (bz_c mp), .int (nI rn), .int (nI rs), .int (bz_c gd), .ref aD, .int (nI nh), .ref a1, .ref a2, .ref a3, .ref a4, .int (nI td), .ref aL, .int (nI u.length), .ref aY, .int (nI ms), .ref aM, .int (nI ip), .int (nI it), .int ir, .int (nI il), .ref bN, .ref bS, .ref bC, .ref bB, .ref bR, .ref bO, .ref aU])), (aY, .inl (cA 0, 200, .inl yf))]) := by
  refine ck_mkI (by decide) (fun r u h => by rcases h with ⟨rfl, _⟩ | ⟨rfl, _⟩ <;> rfl) (Nat.le_of_ble_eq_true rfl) ?_
  intro pG eG sG mG argsG belowG methG cG Q A H locs ls hx hb hml hown hts hK hE hA hP hD hS hl hret
  have hl : lv_has ls 1 [(0, .ref mo)] := hl
  have hl1 := cd_len hj
  have hl0 := hj.1
  refine lv_aload_n hx hb d_Mo_cut_0 rfl (lv_at hl 0 rfl) ?_
  refine lv_iconst (v := nI 0) hx hb d_Mo_cut_1 (by decide) ?_
  refine va_put (D := D) (ci := 8) (v := .int (nI 0)) (ty := .int) (C := RX8) (T := TX8) (N := 43) hx hb hts inX8 tyX8 tyX8_ok nmX8 hown hK hP hD hS 0 rfl rfl 0 (by decide) (hts _ m_845) (fun _ h9 => h9) rfl (by decide +kernel) rfl rfl (Nat.le_of_ble_eq_true rfl) d_Mo_cut_2 (fun H locs hP hD hS => ?_)
  have hP : va_P D vwCl [(mo, .inr (8, [.int (nI 0), .int (nI L.length), .ref ta, .int (nI np), .ref aN, .ref aS, .ref aC, .int (nI tot), .ref aB, .int (bz_c rd), .int (nI rt), .int (nI pl), .ref aR, .ref aO, .int (nI sg), .ref aW, .int (bz_c mp), .int (nI rn), .int (nI rs), .int (bz_c gd), .ref aD, .int (nI nh), .ref a1, .ref a2, .ref a3, .ref a4, .int (nI td), .ref aL, .int (nI J.length), .ref aY, .int (nI ms), .ref aM, .int (nI ip), .int (nI it), .int ir, .int (nI il), .ref bN, .ref bS, .ref bC, .ref bB, .ref bR, .ref bO, .ref aU])), (aY, .inl (cA 0, 200, .inl yf))] H := hP
  have hD : va_D A [(mo, .inr (8, [.int (nI 0), .int (nI L.length), .ref ta, .int (nI np), .ref aN, .ref aS, .ref aC, .int (nI tot), .ref aB, .int (bz_c rd), .int (nI rt), .int (nI pl), .ref aR, .ref aO, .int (nI sg), .ref aW, .int (bz_c mp), .int (nI rn), .int (nI rs), .int (bz_c gd), .ref aD, .int (nI nh), .ref a1, .ref a2, .ref a3, .ref a4, .int (nI td), .ref aL, .int (nI J.length), .ref aY, .int (nI ms), .ref aM, .int (nI ip), .int (nI it), .int ir, .int (nI il), .ref bN, .ref bS, .ref bC, .ref bB, .ref bR, .ref bO, .ref aU])), (aY, .inl (cA 0, 200, .inl yf))] := hD
  refine lv_aload_n hx hb d_Mo_cut_5 rfl (lv_at hl 0 rfl) ?_
  refine va_get (C := RX8) (T := TX8) (N := 43) hx hb hts inX8 hown hK hP 0 rfl rfl 28 (by decide) (hts _ m_873) (fun _ h9 => h9) rfl d_Mo_cut_6 ?_
  refine wn_if_ne (by omega) (tgt := 14) hx hb d_Mo_cut_9 (by decide) ?_ ?_
  · intro h9
    refine lv_aload_n hx hb d_Mo_cut_14 rfl (lv_at hl 0 rfl) ?_
    refine lv_dup hx hb d_Mo_cut_15 rfl ?_
    refine va_get (C := RX8) (T := TX8) (N := 43) hx hb hts inX8 hown hK hP 0 rfl rfl 28 (by decide) (hts _ m_873) (fun _ h9 => h9) rfl d_Mo_cut_16 ?_
    refine lv_iconst (v := nI 1) hx hb d_Mo_cut_19 (by decide) ?_
    refine wn_isub (by omega) hx hb d_Mo_cut_20 ?_
    refine wn_nat (b := J.dropLast.length) (by rw [List.length_dropLast]) ?_
    refine va_put (D := D) (ci := 8) (v := .int (nI J.dropLast.length)) (ty := .int) (C := RX8) (T := TX8) (N := 43) hx hb hts inX8 tyX8 tyX8_ok nmX8 hown hK hP hD hS 0 rfl rfl 28 (by decide) (hts _ m_873) (fun _ h9 => h9) rfl (by decide +kernel) rfl rfl (Nat.le_of_ble_eq_true rfl) d_Mo_cut_21 (fun H locs hP hD hS => ?_)
    have hP : va_P D vwCl [(mo, .inr (8, [.int (nI 0), .int (nI L.length), .ref ta, .int (nI np), .ref aN, .ref aS, .ref aC, .int (nI tot), .ref aB, .int (bz_c rd), .int (nI rt), .int (nI pl), .ref aR, .ref aO, .int (nI sg), .ref aW, .int (bz_c mp), .int (nI rn), .int (nI rs), .int (bz_c gd), .ref aD, .int (nI nh), .ref a1, .ref a2, .ref a3, .ref a4, .int (nI td), .ref aL, .int (nI J.dropLast.length), .ref aY, .int (nI ms), .ref aM, .int (nI ip), .int (nI it), .int ir, .int (nI il), .ref bN, .ref bS, .ref bC, .ref bB, .ref bR, .ref bO, .ref aU])), (aY, .inl (cA 0, 200, .inl yf))] H := hP
    have hD : va_D A [(mo, .inr (8, [.int (nI 0), .int (nI L.length), .ref ta, .int (nI np), .ref aN, .ref aS, .ref aC, .int (nI tot), .ref aB, .int (bz_c rd), .int (nI rt), .int (nI pl), .ref aR, .ref aO, .int (nI sg), .ref aW, .int (bz_c mp), .int (nI rn), .int (nI rs), .int (bz_c gd), .ref aD, .int (nI nh), .ref a1, .ref a2, .ref a3, .ref a4, .int (nI td), .ref aL, .int (nI J.dropLast.length), .ref aY, .int (nI ms), .ref aM, .int (nI ip), .int (nI it), .int ir, .int (nI il), .ref bN, .ref bS, .ref bC, .ref bB, .ref bR, .ref bO, .ref aU])), (aY, .inl (cA 0, 200, .inl yf))] := hD
    refine lv_iconst (v := 1) hx hb d_Mo_cut_24 (by decide) ?_
    exact hret 1 J.dropLast _ _ _ 25 d_Mo_cut_25 (Or.inl ⟨rfl, cd_drop hj, fun e => h9 (by rw [e]; rfl), rfl⟩) hP hD hS
  · intro h9
    refine lv_iconst (v := 0) hx hb d_Mo_cut_12 (by decide) ?_
    exact hret 0 J _ _ _ 13 d_Mo_cut_13 (Or.inr ⟨rfl, hj, List.eq_nil_of_length_eq_zero h9, rfl⟩) hP hD hS
theorem k_Mo_cut : cf_V y_Mo_cut b_Mo_cut 1 (some .boolean) "ReadMapperModel" 0 := ⟨⟨m_1166, m_1167, m_9, m_1168⟩, by decide +kernel⟩
set_option maxHeartbeats 4000000 in
set_option maxRecDepth 100000 in
theorem c_Mo_make (l : Launch) (D : va_G) (cA : Nat → ClassId) (K : Nat → Nat) (mo ta aN aS aC aB aR aO aW aD a1 a2 a3 a4 aL aY aM bN bS bC bB bR bO aU : Nat) (rd mp gd : Bool) (zt ir : Int32) (np tot rt pl sg rn rs nh td ip it il : Nat) (L J : List Int32) (Y : List Int32) (mf : Nat → Int32) (x : Int32) (hy : cd_r 200 mf Y) (hr : Y.length < 200) : ck_V l y_Mo_make (Cond.code y_Mo_make b_Mo_make 2 none :: w_all) 1 D cA K [.ref mo, .int x] [(mo, .inr (8, [.int zt, .int (nI L.length), .ref ta, .int (nI np), .ref aN, .ref aS, .ref aC, .int (nI tot), .ref aB, .int (bz_c rd), .int (nI rt), .int (nI pl), .ref aR, .ref aO, .int (nI sg), .ref aW, .int (bz_c mp), .int (nI rn), .int (nI rs), .int (bz_c gd), .ref aD, .int (nI nh), .ref a1, .ref a2, .ref a3, .ref a4, .int (nI td), .ref aL, .int (nI J.length), .ref aY, .int (nI Y.length), .ref aM, .int (nI ip), .int (nI it), .int ir, .int (nI il), .ref bN, .ref bS, .ref bC, .ref bB, .ref bR, .ref bO, .ref aU])), (aM, .inl (cA 0, 200, .inl mf))] (fun (u : Nat → Int32) => cd_r 200 u (Y ++ [x])) (fun u => [(mo, .inr (8, [.int zt, .int (nI L.length), .ref ta, .int (nI np), .ref aN, .ref aS, .ref aC, .int (nI tot), .ref aB, .int (bz_c rd), .int (nI rt), .int (nI pl), .ref aR, .ref aO, .int (nI sg), .ref aW, .int (bz_c mp), .int (nI rn), .int (nI rs), .int (bz_c gd), .ref aD, .int (nI nh), .ref a1, .ref a2, .ref a3, .ref a4, .int (nI td), .ref aL, .int (nI J.length), .ref aY, .int (nI ((Y ++ [x]).length)), .ref aM, .int (nI ip), .int (nI it), .int ir, .int (nI il), .ref bN, .ref bS, .ref bC, .ref bB, .ref bR, .ref bO, .ref aU])), (aM, .inl (cA 0, 200, .inl u))]) := by
  refine ck_mkV (by decide) (Nat.le_of_ble_eq_true rfl) ?_
  intro pG eG sG mG argsG belowG methG cG Q A H locs ls hx hb hml hown hts hK hE hA hP hD hS hl hret
  have hl : lv_has ls 2 [(0, .ref mo), (1, .int x)] := hl
  have hl1 := cd_len hy
  refine lv_aload_n hx hb d_Mo_make_0 rfl (lv_at hl 0 rfl) ?_
  refine va_get (C := RX8) (T := TX8) (N := 43) hx hb hts inX8 hown hK hP 0 rfl rfl 31 (by decide) (hts _ m_876) (fun _ h9 => h9) rfl d_Mo_make_1 ?_
  refine lv_aload_n hx hb d_Mo_make_4 rfl (lv_at hl 0 rfl) ?_
  refine va_get (C := RX8) (T := TX8) (N := 43) hx hb hts inX8 hown hK hP 0 rfl rfl 30 (by decide) (hts _ m_875) (fun _ h9 => h9) rfl d_Mo_make_5 ?_
  refine lv_iload_n hx hb d_Mo_make_8 rfl (lv_at hl 1 rfl) ?_
  refine wn_iast hx hb hK hP hD hS 1 0 rfl rfl (by omega) (by omega) d_Mo_make_9 (fun H locs hP hD hS => ?_)
  have hP : va_P D vwCl [(mo, .inr (8, [.int zt, .int (nI L.length), .ref ta, .int (nI np), .ref aN, .ref aS, .ref aC, .int (nI tot), .ref aB, .int (bz_c rd), .int (nI rt), .int (nI pl), .ref aR, .ref aO, .int (nI sg), .ref aW, .int (bz_c mp), .int (nI rn), .int (nI rs), .int (bz_c gd), .ref aD, .int (nI nh), .ref a1, .ref a2, .ref a3, .ref a4, .int (nI td), .ref aL, .int (nI J.length), .ref aY, .int (nI Y.length), .ref aM, .int (nI ip), .int (nI it), .int ir, .int (nI il), .ref bN, .ref bS, .ref bC, .ref bB, .ref bR, .ref bO, .ref aU])), (aM, .inl (cA 0, 200, .inl (upd mf Y.length x)))] H := hP
  have hD : va_D A [(mo, .inr (8, [.int zt, .int (nI L.length), .ref ta, .int (nI np), .ref aN, .ref aS, .ref aC, .int (nI tot), .ref aB, .int (bz_c rd), .int (nI rt), .int (nI pl), .ref aR, .ref aO, .int (nI sg), .ref aW, .int (bz_c mp), .int (nI rn), .int (nI rs), .int (bz_c gd), .ref aD, .int (nI nh), .ref a1, .ref a2, .ref a3, .ref a4, .int (nI td), .ref aL, .int (nI J.length), .ref aY, .int (nI Y.length), .ref aM, .int (nI ip), .int (nI it), .int ir, .int (nI il), .ref bN, .ref bS, .ref bC, .ref bB, .ref bR, .ref bO, .ref aU])), (aM, .inl (cA 0, 200, .inl (upd mf Y.length x)))] := hD
  refine lv_aload_n hx hb d_Mo_make_10 rfl (lv_at hl 0 rfl) ?_
  refine lv_dup hx hb d_Mo_make_11 rfl ?_
  refine va_get (C := RX8) (T := TX8) (N := 43) hx hb hts inX8 hown hK hP 0 rfl rfl 30 (by decide) (hts _ m_875) (fun _ h9 => h9) rfl d_Mo_make_12 ?_
  refine lv_iconst (v := nI 1) hx hb d_Mo_make_15 (by decide) ?_
  refine wn_iadd hx hb d_Mo_make_16 ?_
  refine wn_nat (b := (Y ++ [x]).length) (by rw [List.length_append]; rfl) ?_
  refine va_put (D := D) (ci := 8) (v := .int (nI ((Y ++ [x]).length))) (ty := .int) (C := RX8) (T := TX8) (N := 43) hx hb hts inX8 tyX8 tyX8_ok nmX8 hown hK hP hD hS 0 rfl rfl 30 (by decide) (hts _ m_875) (fun _ h9 => h9) rfl (by decide +kernel) rfl rfl (Nat.le_of_ble_eq_true rfl) d_Mo_make_17 (fun H locs hP hD hS => ?_)
  have hP : va_P D vwCl [(mo, .inr (8, [.int zt, .int (nI L.length), .ref ta, .int (nI np), .ref aN, .ref aS, .ref aC, .int (nI tot), .ref aB, .int (bz_c rd), .int (nI rt), .int (nI pl), .ref aR, .ref aO, .int (nI sg), .ref aW, .int (bz_c mp), .int (nI rn), .int (nI rs), .int (bz_c gd), .ref aD, .int (nI nh), .ref a1, .ref a2, .ref a3, .ref a4, .int (nI td), .ref aL, .int (nI J.length), .ref aY, .int (nI ((Y ++ [x]).length)), .ref aM, .int (nI ip), .int (nI it), .int ir, .int (nI il), .ref bN, .ref bS, .ref bC, .ref bB, .ref bR, .ref bO, .ref aU])), (aM, .inl (cA 0, 200, .inl (upd mf Y.length x)))] H := hP
  have hD : va_D A [(mo, .inr (8, [.int zt, .int (nI L.length), .ref ta, .int (nI np), .ref aN, .ref aS, .ref aC, .int (nI tot), .ref aB, .int (bz_c rd), .int (nI rt), .int (nI pl), .ref aR, .ref aO, .int (nI sg), .ref aW, .int (bz_c mp), .int (nI rn), .int (nI rs), .int (bz_c gd), .ref aD, .int (nI nh), .ref a1, .ref a2, .ref a3, .ref a4, .int (nI td), .ref aL, .int (nI J.length), .ref aY, .int (nI ((Y ++ [x]).length)), .ref aM, .int (nI ip), .int (nI it), .int ir, .int (nI il), .ref bN, .ref bS, .ref bC, .ref bB, .ref bR, .ref bO, .ref aU])), (aM, .inl (cA 0, 200, .inl (upd mf Y.length x)))] := hD
  exact hret (upd mf Y.length x) _ _ _ 20 d_Mo_make_20 (cd_app hy hr) hP hD hS
theorem k_Mo_make : cf_V y_Mo_make b_Mo_make 2 none "ReadMapperModel" 1 := ⟨⟨m_1155, (wm_s (q := (y_Mo_make, 43)) (by decide +kernel)), m_9, m_1156⟩, by decide +kernel⟩
set_option maxHeartbeats 4000000 in
set_option maxRecDepth 100000 in
theorem c_Mo_say (l : Launch) (D : va_G) (cA : Nat → ClassId) (K : Nat → Nat) (mo ta aN aS aC aB aR aO aW aD a1 a2 a3 a4 aL aY aM bN bS bC bB bR bO aU : Nat) (rd mp gd : Bool) (zt ir : Int32) (np tot rt pl sg rn rs nh ms ip it il : Nat) (L J : List Int32) (T : List Int32) (lf : Nat → Int32) (x : Int32) (hy : cd_r 240 lf T) (hr : T.length < 240) (hx1 : ch_p x) : ck_V l y_Mo_say (Cond.code y_Mo_say b_Mo_say 2 none :: w_all) 1 D cA K [.ref mo, .int x] [(mo, .inr (8, [.int zt, .int (nI L.length), .ref ta, .int (nI np), .ref aN, .ref aS, .ref aC, .int (nI tot), .ref aB, .int (bz_c rd), .int (nI rt), .int (nI pl), .ref aR, .ref aO, .int (nI sg), .ref aW, .int (bz_c mp), .int (nI rn), .int (nI rs), .int (bz_c gd), .ref aD, .int (nI nh), .ref a1, .ref a2, .ref a3, .ref a4, .int (nI T.length), .ref aL, .int (nI J.length), .ref aY, .int (nI ms), .ref aM, .int (nI ip), .int (nI it), .int ir, .int (nI il), .ref bN, .ref bS, .ref bC, .ref bB, .ref bR, .ref bO, .ref aU])), (aL, .inl (cA 1, 240, .inl lf))] (fun (u : Nat → Int32) => cd_r 240 u (T ++ [x])) (fun u => [(mo, .inr (8, [.int zt, .int (nI L.length), .ref ta, .int (nI np), .ref aN, .ref aS, .ref aC, .int (nI tot), .ref aB, .int (bz_c rd), .int (nI rt), .int (nI pl), .ref aR, .ref aO, .int (nI sg), .ref aW, .int (bz_c mp), .int (nI rn), .int (nI rs), .int (bz_c gd), .ref aD, .int (nI nh), .ref a1, .ref a2, .ref a3, .ref a4, .int (nI ((T ++ [x]).length)), .ref aL, .int (nI J.length), .ref aY, .int (nI ms), .ref aM, .int (nI ip), .int (nI it), .int ir, .int (nI il), .ref bN, .ref bS, .ref bC, .ref bB, .ref bR, .ref bO, .ref aU])), (aL, .inl (cA 1, 240, .inl u))]) := by
  refine ck_mkV (by decide) (Nat.le_of_ble_eq_true rfl) ?_
  intro pG eG sG mG argsG belowG methG cG Q A H locs ls hx hb hml hown hts hK hE hA hP hD hS hl hret
  have hl : lv_has ls 2 [(0, .ref mo), (1, .int x)] := hl
  have hl1 := cd_len hy
  refine lv_aload_n hx hb d_Mo_say_0 rfl (lv_at hl 0 rfl) ?_
  refine va_get (C := RX8) (T := TX8) (N := 43) hx hb hts inX8 hown hK hP 0 rfl rfl 27 (by decide) (hts _ m_872) (fun _ h9 => h9) rfl d_Mo_say_1 ?_
  refine lv_aload_n hx hb d_Mo_say_4 rfl (lv_at hl 0 rfl) ?_
  refine va_get (C := RX8) (T := TX8) (N := 43) hx hb hts inX8 hown hK hP 0 rfl rfl 26 (by decide) (hts _ m_871) (fun _ h9 => h9) rfl d_Mo_say_5 ?_
  refine lv_iload_n hx hb d_Mo_say_8 rfl (lv_at hl 1 rfl) ?_
  refine wn_cast hx hb hK hP hD hS 1 1 rfl rfl (by omega) (by omega) (ch_f hx1) d_Mo_say_9 (fun H locs hP hD hS => ?_)
  have hP : va_P D vwCl [(mo, .inr (8, [.int zt, .int (nI L.length), .ref ta, .int (nI np), .ref aN, .ref aS, .ref aC, .int (nI tot), .ref aB, .int (bz_c rd), .int (nI rt), .int (nI pl), .ref aR, .ref aO, .int (nI sg), .ref aW, .int (bz_c mp), .int (nI rn), .int (nI rs), .int (bz_c gd), .ref aD, .int (nI nh), .ref a1, .ref a2, .ref a3, .ref a4, .int (nI T.length), .ref aL, .int (nI J.length), .ref aY, .int (nI ms), .ref aM, .int (nI ip), .int (nI it), .int ir, .int (nI il), .ref bN, .ref bS, .ref bC, .ref bB, .ref bR, .ref bO, .ref aU])), (aL, .inl (cA 1, 240, .inl (upd lf T.length x)))] H := hP
  have hD : va_D A [(mo, .inr (8, [.int zt, .int (nI L.length), .ref ta, .int (nI np), .ref aN, .ref aS, .ref aC, .int (nI tot), .ref aB, .int (bz_c rd), .int (nI rt), .int (nI pl), .ref aR, .ref aO, .int (nI sg), .ref aW, .int (bz_c mp), .int (nI rn), .int (nI rs), .int (bz_c gd), .ref aD, .int (nI nh), .ref a1, .ref a2, .ref a3, .ref a4, .int (nI T.length), .ref aL, .int (nI J.length), .ref aY, .int (nI ms), .ref aM, .int (nI ip), .int (nI it), .int ir, .int (nI il), .ref bN, .ref bS, .ref bC, .ref bB, .ref bR, .ref bO, .ref aU])), (aL, .inl (cA 1, 240, .inl (upd lf T.length x)))] := hD
  refine lv_aload_n hx hb d_Mo_say_10 rfl (lv_at hl 0 rfl) ?_
  refine lv_dup hx hb d_Mo_say_11 rfl ?_
  refine va_get (C := RX8) (T := TX8) (N := 43) hx hb hts inX8 hown hK hP 0 rfl rfl 26 (by decide) (hts _ m_871) (fun _ h9 => h9) rfl d_Mo_say_12 ?_
  refine lv_iconst (v := nI 1) hx hb d_Mo_say_15 (by decide) ?_
  refine wn_iadd hx hb d_Mo_say_16 ?_
  refine wn_nat (b := (T ++ [x]).length) (by rw [List.length_append]; rfl) ?_
  refine va_put (D := D) (ci := 8) (v := .int (nI ((T ++ [x]).length))) (ty := .int) (C := RX8) (T := TX8) (N := 43) hx hb hts inX8 tyX8 tyX8_ok nmX8 hown hK hP hD hS 0 rfl rfl 26 (by decide) (hts _ m_871) (fun _ h9 => h9) rfl (by decide +kernel) rfl rfl (Nat.le_of_ble_eq_true rfl) d_Mo_say_17 (fun H locs hP hD hS => ?_)
  have hP : va_P D vwCl [(mo, .inr (8, [.int zt, .int (nI L.length), .ref ta, .int (nI np), .ref aN, .ref aS, .ref aC, .int (nI tot), .ref aB, .int (bz_c rd), .int (nI rt), .int (nI pl), .ref aR, .ref aO, .int (nI sg), .ref aW, .int (bz_c mp), .int (nI rn), .int (nI rs), .int (bz_c gd), .ref aD, .int (nI nh), .ref a1, .ref a2, .ref a3, .ref a4, .int (nI ((T ++ [x]).length)), .ref aL, .int (nI J.length), .ref aY, .int (nI ms), .ref aM, .int (nI ip), .int (nI it), .int ir, .int (nI il), .ref bN, .ref bS, .ref bC, .ref bB, .ref bR, .ref bO, .ref aU])), (aL, .inl (cA 1, 240, .inl (upd lf T.length x)))] H := hP
  have hD : va_D A [(mo, .inr (8, [.int zt, .int (nI L.length), .ref ta, .int (nI np), .ref aN, .ref aS, .ref aC, .int (nI tot), .ref aB, .int (bz_c rd), .int (nI rt), .int (nI pl), .ref aR, .ref aO, .int (nI sg), .ref aW, .int (bz_c mp), .int (nI rn), .int (nI rs), .int (bz_c gd), .ref aD, .int (nI nh), .ref a1, .ref a2, .ref a3, .ref a4, .int (nI ((T ++ [x]).length)), .ref aL, .int (nI J.length), .ref aY, .int (nI ms), .ref aM, .int (nI ip), .int (nI it), .int ir, .int (nI il), .ref bN, .ref bS, .ref bC, .ref bB, .ref bR, .ref bO, .ref aU])), (aL, .inl (cA 1, 240, .inl (upd lf T.length x)))] := hD
  exact hret (upd lf T.length x) _ _ _ 20 d_Mo_say_20 (cd_app hy hr) hP hD hS
theorem k_Mo_say : cf_V y_Mo_say b_Mo_say 2 none "ReadMapperModel" 1 := ⟨⟨m_1100, (wm_s (q := (y_Mo_say, 43)) (by decide +kernel)), m_9, m_1101⟩, by decide +kernel⟩
set_option maxHeartbeats 4000000 in
set_option maxRecDepth 100000 in
theorem c_Mo_tab (l : Launch) (D : va_G) (cA : Nat → ClassId) (K : Nat → Nat) (mo ta aN aS aC aB aR aO aW aD a1 a2 a3 a4 aL aY aM bN bS bC bB bR bO aU : Nat) (rd mp gd : Bool) (zt ir : Int32) (np tot rt pl sg rn rs nh ms ip it il : Nat) (L J : List Int32) (T : List Int32) (lf : Nat → Int32) (hy : cd_r 240 lf T) (hr : T.length < 240) : ck_V l y_Mo_tab (Cond.code y_Mo_tab b_Mo_tab 1 none :: w_all) 2 D cA K [.ref mo] [(mo, .inr (8, [.int zt, .int (nI L.length), .ref ta, .int (nI np), .ref aN, .ref aS, .ref aC, .int (nI tot), .ref aB, .int (bz_c rd), .int (nI rt), .int (nI pl), .ref aR, .ref aO, .int (nI sg), .ref aW, .int (bz_c mp), .int (nI rn), .int (nI rs), .int (bz_c gd), .ref aD, .int (nI nh), .ref a1, .ref a2, .ref a3, .ref a4, .int (nI T.length), .ref aL, .int (nI J.length), .ref aY, .int (nI ms), .ref aM, .int (nI ip), .int (nI it), .int ir, .int (nI il), .ref bN, .ref bS, .ref bC, .ref bB, .ref bR, .ref bO, .ref aU])), (aL, .inl (cA 1, 240, .inl lf))] (fun (u : Nat → Int32) => cd_r 240 u (T ++ [9])) (fun u => [(mo, .inr (8, [.int zt, .int (nI L.length), .ref ta, .int (nI np), .ref aN, .ref aS, .ref aC, .int (nI tot), .ref aB, .int (bz_c rd), .int (nI rt), .int (nI pl), .ref aR, .ref aO, .int (nI sg), .ref aW, .int (bz_c mp), .int (nI rn), .int (nI rs), .int (bz_c gd), .ref aD, .int (nI nh), .ref a1, .ref a2, .ref a3, .ref a4, .int (nI ((T ++ [9]).length)), .ref aL, .int (nI J.length), .ref aY, .int (nI ms), .ref aM, .int (nI ip), .int (nI it), .int ir, .int (nI il), .ref bN, .ref bS, .ref bC, .ref bB, .ref bR, .ref bO, .ref aU])), (aL, .inl (cA 1, 240, .inl u))]) := by
  refine ck_mkV (by decide) (Nat.le_of_ble_eq_true rfl) ?_
  intro pG eG sG mG argsG belowG methG cG Q A H locs ls hx hb hml hown hts hK hE hA hP hD hS hl hret
  have hl : lv_has ls 1 [(0, .ref mo)] := hl
  have hl1 := cd_len hy
  refine lv_aload_n hx hb d_Mo_tab_0 rfl (lv_at hl 0 rfl) ?_
  refine lv_bipush (v := 9) hx hb d_Mo_tab_1 (by decide) ?_
  refine ck_cVv (C := "ReadMapperModel") (ci := 8) (rest := []) (wr := []) (ws2 := fun u => [(mo, .inr (8, [.int zt, .int (nI L.length), .ref ta, .int (nI np), .ref aN, .ref aS, .ref aC, .int (nI tot), .ref aB, .int (bz_c rd), .int (nI rt), .int (nI pl), .ref aR, .ref aO, .int (nI sg), .ref aW, .int (bz_c mp), .int (nI rn), .int (nI rs), .int (bz_c gd), .ref aD, .int (nI nh), .ref a1, .ref a2, .ref a3, .ref a4, .int (nI ((T ++ [9]).length)), .ref aL, .int (nI J.length), .ref aY, .int (nI ms), .ref aM, .int (nI ip), .int (nI it), .int ir, .int (nI il), .ref bN, .ref bS, .ref bC, .ref bB, .ref bR, .ref bO, .ref aU])), (aL, .inl (cA 1, 240, .inl u))]) (c_Mo_say l D cA K mo ta aN aS aC aB aR aO aW aD a1 a2 a3 a4 aL aY aM bN bS bC bB bR bO aU rd mp gd zt ir np tot rt pl sg rn rs nh ms ip it il L J T lf 9 (by first | assumption | omega) (by first | assumption | omega) (ch_9)) hx hb hml hown hts hK hE hA hP hD hS k_Mo_say m_1098 (by decide) 0 rfl rfl rfl hl.1 rfl (Nat.le_of_ble_eq_true rfl) d_Mo_tab_3  [0, 1] [] [0, 1] rfl rfl (by decide) (fun _ => rfl) (fun u3 H locs hq3 hP hD hS => ?_)
  obtain ⟨lf2_3, rfl⟩ : ∃ z, z = u3 := ⟨_, rfl⟩
  try dsimp only at hq3
  have hP : va_P D vwCl [(mo, .inr (8, [.int zt, .int (nI L.length), .ref ta, .int (nI np), .ref aN, .ref aS, .ref aC, .int (nI tot), .ref aB, .int (bz_c rd), .int (nI rt), .int (nI pl), .ref aR, .ref aO, .int (nI sg), .ref aW, .int (bz_c mp), .int (nI rn), .int (nI rs), .int (bz_c gd), .ref aD, .int (nI nh), .ref a1, .ref a2, .ref a3, .ref a4, .int (nI ((T ++ [9]).length)), .ref aL, .int (nI J.length), .ref aY, .int (nI ms), .ref aM, .int (nI ip), .int (nI it), .int ir, .int (nI il), .ref bN, .ref bS, .ref bC, .ref bB, .ref bR, .ref bO, .ref aU])), (aL, .inl (cA 1, 240, .inl lf2_3))] H := hP
  have hD : va_D A [(mo, .inr (8, [.int zt, .int (nI L.length), .ref ta, .int (nI np), .ref aN, .ref aS, .ref aC, .int (nI tot), .ref aB, .int (bz_c rd), .int (nI rt), .int (nI pl), .ref aR, .ref aO, .int (nI sg), .ref aW, .int (bz_c mp), .int (nI rn), .int (nI rs), .int (bz_c gd), .ref aD, .int (nI nh), .ref a1, .ref a2, .ref a3, .ref a4, .int (nI ((T ++ [9]).length)), .ref aL, .int (nI J.length), .ref aY, .int (nI ms), .ref aM, .int (nI ip), .int (nI it), .int ir, .int (nI il), .ref bN, .ref bS, .ref bC, .ref bB, .ref bR, .ref bO, .ref aU])), (aL, .inl (cA 1, 240, .inl lf2_3))] := hD
  exact hret lf2_3 _ _ _ 6 d_Mo_tab_6 hq3 hP hD hS
theorem k_Mo_tab : cf_V y_Mo_tab b_Mo_tab 1 none "ReadMapperModel" 0 := ⟨⟨m_1104, (wm_s (q := (y_Mo_tab, 43)) (by decide +kernel)), m_9, m_1105⟩, by decide +kernel⟩
