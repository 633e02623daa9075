/-! the index in mathematics: reading a place, the keys of a row, what isLess says -/
def px_c (n : Nat) (f : Nat → Int32) (i : Int32) : Int32 := if ¬ i < 0 ∧ ¬ nI n ≤ i then f i.toNatClampNeg else -1
theorem px_num {n : Nat} {i : Int32} (hn : n ≤ 65) (h0 : ¬ i < 0) (h1 : ¬ nI n ≤ i) : ∃ k, k < n ∧ i = nI k := by
  rcases pk_ix i (n := n) (by omega) with z | z | z
  · exact absurd z h0
  · exact absurd z h1
  · exact z
theorem px_vin {n : Nat} {i : Int32} (hn : n ≤ 65) (h0 : ¬ i < 0) (h1 : ¬ nI n ≤ i) : vp_in i 65 := by
  obtain ⟨k, hk, rfl⟩ := px_num hn h0 h1
  exact vp_in_nI (by omega) (by omega)
theorem px_n {n k : Nat} {f : Nat → Int32} (h : k < n) (hn : n ≤ 65) : px_c n f (nI k) = f k := by
  rw [px_c, if_pos ⟨nI_pos (by omega), nI_ge h (by omega)⟩, nI_clamp (by omega)]
/-- how many of the first n are x -/
def ct_c (f : Nat → Int32) (x : Int32) : Nat → Nat
  | 0 => 0
  | n + 1 => ct_c f x n + if f n = x then 1 else 0
theorem ct_1 {f : Nat → Int32} {x : Int32} {i n : Nat} (h : n = ct_c f x i) (he : f i = x) : n + 1 = ct_c f x (i + 1) := by
  show _ = ct_c f x i + if f i = x then 1 else 0
  rw [if_pos he, h]
theorem ct_0 {f : Nat → Int32} {x : Int32} {i n : Nat} (h : n = ct_c f x i) (he : ¬ f i = x) : n = ct_c f x (i + 1) := by
  show _ = ct_c f x i + if f i = x then 1 else 0
  rw [if_neg he, h]; rfl
theorem ct_le (f : Nat → Int32) (x : Int32) (i : Nat) : ct_c f x i ≤ i := by
  induction i with
  | zero => exact Nat.le_refl _
  | succ i ih =>
    show ct_c f x i + (if f i = x then 1 else 0) ≤ i + 1
    split <;> omega
/-- the keys of a row -/
def ky_c (rw : Nat → Int32) : Nat → Int := fun j => (rw j).toInt
theorem in_lt {x y : Int32} (h : ¬ y ≤ x) : x < y := by
  rw [Int32.le_iff_toInt_le] at h; rw [Int32.lt_iff_toInt_lt]; omega
theorem in_nlt {x y : Int32} (h : y ≤ x) : ¬ x < y := by
  rw [Int32.le_iff_toInt_le] at h; rw [Int32.lt_iff_toInt_lt]; omega
theorem in_ne {x y : Int32} (h : x = y) : ¬ x < y := by
  subst h; rw [Int32.lt_iff_toInt_lt]; omega
theorem in_less {rw rk : Nat → Int32} {pl o i : Nat} (hk : rw_k (ky_c rw) pl) (hrk : ∀ j, o < j → j < pl → rk j = nI (rk_m (ky_c rw) pl (o + 1) j)) (h1 : o < i) (h2 : i < pl) (hpl : pl ≤ 65) : (rw i < rw o ∨ (rw i = rw o ∧ rk (i + 1) < rk (o + 1))) ↔ el_t (ky_c rw) pl i o := by
  have e := el_step (k := ky_c rw) (n := pl) (p := i) (q := o) h2 (by omega)
  rw [e]
  have hkeq : rw i = rw o → i + 1 < pl := by
    intro z
    rcases Nat.lt_or_ge (i + 1) pl with y | y
    · exact y
    · have e1 : i = pl - 1 := by omega
      have h3 := hk.2.1
      have h4 := hk.2.2 o (by omega)
      rw [← e1] at h3
      unfold ky_c at h3 h4
      rw [z] at h3
      omega
  refine ⟨fun z => z.elim (fun z => Or.inl (Int32.lt_iff_toInt_lt.mp z)) (fun z => Or.inr ⟨?_, ?_⟩), fun z => z.elim (fun z => Or.inl (Int32.lt_iff_toInt_lt.mpr z)) (fun z => Or.inr ?_)⟩
  · show (rw i).toInt = (rw o).toInt
    rw [z.1]
  · have y := hkeq z.1
    have z2 := z.2
    rw [hrk (i + 1) (by omega) y, hrk (o + 1) (by omega) (by omega)] at z2
    have b1 := rk_bnd (k := ky_c rw) (m := o + 1) y (by omega)
    have b2 := rk_bnd (k := ky_c rw) (n := pl) (m := o + 1) (p := o + 1) (by omega) (by omega)
    exact (rk_iff hk y (by omega) (by omega) (by omega)).mpr ((nI_ltI (by omega) (by omega)).mp z2)
  · have z1 : rw i = rw o := Int32.toInt_inj.mp z.1
    have y := hkeq z1
    have b1 := rk_bnd (k := ky_c rw) (m := o + 1) y (by omega)
    have b2 := rk_bnd (k := ky_c rw) (n := pl) (m := o + 1) (p := o + 1) (by omega) (by omega)
    refine ⟨z1, ?_⟩
    rw [hrk (i + 1) (by omega) y, hrk (o + 1) (by omega) (by omega)]
    exact (nI_ltI (by omega) (by omega)).mpr ((rk_iff hk y (by omega) (by omega) (by omega)).mp z.2)
theorem d_In_places_0 : decode b_In_places 0 = .ok (.aload_n 0, 1) := by decide +kernel
theorem d_In_places_1 : decode b_In_places 1 = .ok (.getfield 12, 3) := by decide +kernel
theorem d_In_places_4 : decode b_In_places 4 = .ok (.getfield 32, 3) := by decide +kernel
theorem d_In_places_7 : decode b_In_places 7 = .ok (.ireturn, 1) := by decide +kernel
theorem d_In_hasEnding_0 : decode b_In_hasEnding 0 = .ok (.iload_n 1, 1) := by decide +kernel
theorem d_In_hasEnding_1 : decode b_In_hasEnding 1 = .ok (.ifCond .lt 15, 3) := by decide +kernel
theorem d_In_hasEnding_4 : decode b_In_hasEnding 4 = .ok (.iload_n 1, 1) := by decide +kernel
theorem d_In_hasEnding_5 : decode b_In_hasEnding 5 = .ok (.aload_n 0, 1) := by decide +kernel
theorem d_In_hasEnding_6 : decode b_In_hasEnding 6 = .ok (.invokevirtual 35, 3) := by decide +kernel
theorem d_In_hasEnding_9 : decode b_In_hasEnding 9 = .ok (.if_icmp .ge 7, 3) := by decide +kernel
theorem d_In_hasEnding_12 : decode b_In_hasEnding 12 = .ok (.iconst 1, 1) := by decide +kernel
theorem d_In_hasEnding_13 : decode b_In_hasEnding 13 = .ok (.goto 4, 3) := by decide +kernel
theorem d_In_hasEnding_16 : decode b_In_hasEnding 16 = .ok (.iconst 0, 1) := by decide +kernel
theorem d_In_hasEnding_17 : decode b_In_hasEnding 17 = .ok (.ireturn, 1) := by decide +kernel
theorem d_In_placeOf_0 : decode b_In_placeOf 0 = .ok (.aload_n 0, 1) := by decide +kernel
theorem d_In_placeOf_1 : decode b_In_placeOf 1 = .ok (.iload_n 1, 1) := by decide +kernel
theorem d_In_placeOf_2 : decode b_In_placeOf 2 = .ok (.invokevirtual 38, 3) := by decide +kernel
theorem d_In_placeOf_5 : decode b_In_placeOf 5 = .ok (.ifCond .eq 12, 3) := by decide +kernel
theorem d_In_placeOf_8 : decode b_In_placeOf 8 = .ok (.aload_n 0, 1) := by decide +kernel
theorem d_In_placeOf_9 : decode b_In_placeOf 9 = .ok (.getfield 18, 3) := by decide +kernel
theorem d_In_placeOf_12 : decode b_In_placeOf 12 = .ok (.iload_n 1, 1) := by decide +kernel
theorem d_In_placeOf_13 : decode b_In_placeOf 13 = .ok (.iaload, 1) := by decide +kernel
theorem d_In_placeOf_14 : decode b_In_placeOf 14 = .ok (.goto 4, 3) := by decide +kernel
theorem d_In_placeOf_17 : decode b_In_placeOf 17 = .ok (.iconst (-1), 1) := by decide +kernel
theorem d_In_placeOf_18 : decode b_In_placeOf 18 = .ok (.ireturn, 1) := by decide +kernel
theorem d_In_symbolBefore_0 : decode b_In_symbolBefore 0 = .ok (.aload_n 0, 1) := by decide +kernel
theorem d_In_symbolBefore_1 : decode b_In_symbolBefore 1 = .ok (.iload_n 1, 1) := by decide +kernel
theorem d_In_symbolBefore_2 : decode b_In_symbolBefore 2 = .ok (.invokevirtual 38, 3) := by decide +kernel
theorem d_In_symbolBefore_5 : decode b_In_symbolBefore 5 = .ok (.ifCond .eq 12, 3) := by decide +kernel
theorem d_In_symbolBefore_8 : decode b_In_symbolBefore 8 = .ok (.aload_n 0, 1) := by decide +kernel
theorem d_In_symbolBefore_9 : decode b_In_symbolBefore 9 = .ok (.getfield 22, 3) := by decide +kernel
theorem d_In_symbolBefore_12 : decode b_In_symbolBefore 12 = .ok (.iload_n 1, 1) := by decide +kernel
theorem d_In_symbolBefore_13 : decode b_In_symbolBefore 13 = .ok (.iaload, 1) := by decide +kernel
theorem d_In_symbolBefore_14 : decode b_In_symbolBefore 14 = .ok (.goto 4, 3) := by decide +kernel
theorem d_In_symbolBefore_17 : decode b_In_symbolBefore 17 = .ok (.iconst (-1), 1) := by decide +kernel
theorem d_In_symbolBefore_18 : decode b_In_symbolBefore 18 = .ok (.ireturn, 1) := by decide +kernel
theorem d_In_stepsTo_0 : decode b_In_stepsTo 0 = .ok (.aload_n 0, 1) := by decide +kernel
theorem d_In_stepsTo_1 : decode b_In_stepsTo 1 = .ok (.iload_n 1, 1) := by decide +kernel
theorem d_In_stepsTo_2 : decode b_In_stepsTo 2 = .ok (.invokevirtual 38, 3) := by decide +kernel
theorem d_In_stepsTo_5 : decode b_In_stepsTo 5 = .ok (.ifCond .eq 17, 3) := by decide +kernel
theorem d_In_stepsTo_8 : decode b_In_stepsTo 8 = .ok (.aload_n 0, 1) := by decide +kernel
theorem d_In_stepsTo_9 : decode b_In_stepsTo 9 = .ok (.getfield 18, 3) := by decide +kernel
theorem d_In_stepsTo_12 : decode b_In_stepsTo 12 = .ok (.iload_n 1, 1) := by decide +kernel
theorem d_In_stepsTo_13 : decode b_In_stepsTo 13 = .ok (.iaload, 1) := by decide +kernel
theorem d_In_stepsTo_14 : decode b_In_stepsTo 14 = .ok (.aload_n 0, 1) := by decide +kernel
theorem d_In_stepsTo_15 : decode b_In_stepsTo 15 = .ok (.getfield 28, 3) := by decide +kernel
theorem d_In_stepsTo_18 : decode b_In_stepsTo 18 = .ok (.irem, 1) := by decide +kernel
theorem d_In_stepsTo_19 : decode b_In_stepsTo 19 = .ok (.goto 4, 3) := by decide +kernel
theorem d_In_stepsTo_22 : decode b_In_stepsTo 22 = .ok (.iconst (-1), 1) := by decide +kernel
theorem d_In_stepsTo_23 : decode b_In_stepsTo 23 = .ok (.ireturn, 1) := by decide +kernel
theorem d_In_countBefore_0 : decode b_In_countBefore 0 = .ok (.iconst 0, 1) := by decide +kernel
theorem d_In_countBefore_1 : decode b_In_countBefore 1 = .ok (.istore_n 3, 1) := by decide +kernel
theorem d_In_countBefore_2 : decode b_In_countBefore 2 = .ok (.iconst 0, 1) := by decide +kernel
theorem d_In_countBefore_3 : decode b_In_countBefore 3 = .ok (.istore 4, 2) := by decide +kernel
theorem d_In_countBefore_5 : decode b_In_countBefore 5 = .ok (.iload 4, 2) := by decide +kernel
theorem d_In_countBefore_7 : decode b_In_countBefore 7 = .ok (.iload_n 2, 1) := by decide +kernel
theorem d_In_countBefore_8 : decode b_In_countBefore 8 = .ok (.if_icmp .ge 23, 3) := by decide +kernel
theorem d_In_countBefore_11 : decode b_In_countBefore 11 = .ok (.aload_n 0, 1) := by decide +kernel
theorem d_In_countBefore_12 : decode b_In_countBefore 12 = .ok (.getfield 22, 3) := by decide +kernel
theorem d_In_countBefore_15 : decode b_In_countBefore 15 = .ok (.iload 4, 2) := by decide +kernel
theorem d_In_countBefore_17 : decode b_In_countBefore 17 = .ok (.iaload, 1) := by decide +kernel
theorem d_In_countBefore_18 : decode b_In_countBefore 18 = .ok (.iload_n 1, 1) := by decide +kernel
theorem d_In_countBefore_19 : decode b_In_countBefore 19 = .ok (.if_icmp .ne 6, 3) := by decide +kernel
theorem d_In_countBefore_22 : decode b_In_countBefore 22 = .ok (.iinc 3 1, 3) := by decide +kernel
theorem d_In_countBefore_25 : decode b_In_countBefore 25 = .ok (.iinc 4 1, 3) := by decide +kernel
theorem d_In_countBefore_28 : decode b_In_countBefore 28 = .ok (.goto (-23), 3) := by decide +kernel
theorem d_In_countBefore_31 : decode b_In_countBefore 31 = .ok (.iload_n 3, 1) := by decide +kernel
theorem d_In_countBefore_32 : decode b_In_countBefore 32 = .ok (.ireturn, 1) := by decide +kernel
theorem d_In_isLess_0 : decode b_In_isLess 0 = .ok (.aload_n 0, 1) := by decide +kernel
theorem d_In_isLess_1 : decode b_In_isLess 1 = .ok (.getfield 12, 3) := by decide +kernel
theorem d_In_isLess_4 : decode b_In_isLess 4 = .ok (.getfield 46, 3) := by decide +kernel
theorem d_In_isLess_7 : decode b_In_isLess 7 = .ok (.iload_n 1, 1) := by decide +kernel
theorem d_In_isLess_8 : decode b_In_isLess 8 = .ok (.iaload, 1) := by decide +kernel
theorem d_In_isLess_9 : decode b_In_isLess 9 = .ok (.istore_n 3, 1) := by decide +kernel
theorem d_In_isLess_10 : decode b_In_isLess 10 = .ok (.aload_n 0, 1) := by decide +kernel
theorem d_In_isLess_11 : decode b_In_isLess 11 = .ok (.getfield 12, 3) := by decide +kernel
theorem d_In_isLess_14 : decode b_In_isLess 14 = .ok (.getfield 46, 3) := by decide +kernel
theorem d_In_isLess_17 : decode b_In_isLess 17 = .ok (.iload_n 2, 1) := by decide +kernel
theorem d_In_isLess_18 : decode b_In_isLess 18 = .ok (.iaload, 1) := by decide +kernel
theorem d_In_isLess_19 : decode b_In_isLess 19 = .ok (.istore 4, 2) := by decide +kernel
theorem d_In_isLess_21 : decode b_In_isLess 21 = .ok (.iload_n 3, 1) := by decide +kernel
theorem d_In_isLess_22 : decode b_In_isLess 22 = .ok (.iload 4, 2) := by decide +kernel
theorem d_In_isLess_24 : decode b_In_isLess 24 = .ok (.if_icmp .eq 15, 3) := by decide +kernel
theorem d_In_isLess_27 : decode b_In_isLess 27 = .ok (.iload_n 3, 1) := by decide +kernel
theorem d_In_isLess_28 : decode b_In_isLess 28 = .ok (.iload 4, 2) := by decide +kernel
theorem d_In_isLess_30 : decode b_In_isLess 30 = .ok (.if_icmp .ge 7, 3) := by decide +kernel
theorem d_In_isLess_33 : decode b_In_isLess 33 = .ok (.iconst 1, 1) := by decide +kernel
theorem d_In_isLess_34 : decode b_In_isLess 34 = .ok (.goto 4, 3) := by decide +kernel
theorem d_In_isLess_37 : decode b_In_isLess 37 = .ok (.iconst 0, 1) := by decide +kernel
theorem d_In_isLess_38 : decode b_In_isLess 38 = .ok (.ireturn, 1) := by decide +kernel
theorem d_In_isLess_39 : decode b_In_isLess 39 = .ok (.aload_n 0, 1) := by decide +kernel
theorem d_In_isLess_40 : decode b_In_isLess 40 = .ok (.getfield 25, 3) := by decide +kernel
theorem d_In_isLess_43 : decode b_In_isLess 43 = .ok (.iload_n 1, 1) := by decide +kernel
theorem d_In_isLess_44 : decode b_In_isLess 44 = .ok (.iconst 1, 1) := by decide +kernel
theorem d_In_isLess_45 : decode b_In_isLess 45 = .ok (.iadd, 1) := by decide +kernel
theorem d_In_isLess_46 : decode b_In_isLess 46 = .ok (.iaload, 1) := by decide +kernel
theorem d_In_isLess_47 : decode b_In_isLess 47 = .ok (.aload_n 0, 1) := by decide +kernel
theorem d_In_isLess_48 : decode b_In_isLess 48 = .ok (.getfield 25, 3) := by decide +kernel
theorem d_In_isLess_51 : decode b_In_isLess 51 = .ok (.iload_n 2, 1) := by decide +kernel
theorem d_In_isLess_52 : decode b_In_isLess 52 = .ok (.iconst 1, 1) := by decide +kernel
theorem d_In_isLess_53 : decode b_In_isLess 53 = .ok (.iadd, 1) := by decide +kernel
theorem d_In_isLess_54 : decode b_In_isLess 54 = .ok (.iaload, 1) := by decide +kernel
theorem d_In_isLess_55 : decode b_In_isLess 55 = .ok (.if_icmp .ge 7, 3) := by decide +kernel
theorem d_In_isLess_58 : decode b_In_isLess 58 = .ok (.iconst 1, 1) := by decide +kernel
theorem d_In_isLess_59 : decode b_In_isLess 59 = .ok (.goto 4, 3) := by decide +kernel
theorem d_In_isLess_62 : decode b_In_isLess 62 = .ok (.iconst 0, 1) := by decide +kernel
theorem d_In_isLess_63 : decode b_In_isLess 63 = .ok (.ireturn, 1) := by decide +kernel
theorem d_In_rankAmongLater_0 : decode b_In_rankAmongLater 0 = .ok (.iconst 0, 1) := by decide +kernel
theorem d_In_rankAmongLater_1 : decode b_In_rankAmongLater 1 = .ok (.istore_n 2, 1) := by decide +kernel
theorem d_In_rankAmongLater_2 : decode b_In_rankAmongLater 2 = .ok (.iload_n 1, 1) := by decide +kernel
theorem d_In_rankAmongLater_3 : decode b_In_rankAmongLater 3 = .ok (.iconst 1, 1) := by decide +kernel
theorem d_In_rankAmongLater_4 : decode b_In_rankAmongLater 4 = .ok (.iadd, 1) := by decide +kernel
theorem d_In_rankAmongLater_5 : decode b_In_rankAmongLater 5 = .ok (.istore_n 3, 1) := by decide +kernel
theorem d_In_rankAmongLater_6 : decode b_In_rankAmongLater 6 = .ok (.iload_n 3, 1) := by decide +kernel
theorem d_In_rankAmongLater_7 : decode b_In_rankAmongLater 7 = .ok (.aload_n 0, 1) := by decide +kernel
theorem d_In_rankAmongLater_8 : decode b_In_rankAmongLater 8 = .ok (.invokevirtual 35, 3) := by decide +kernel
theorem d_In_rankAmongLater_11 : decode b_In_rankAmongLater 11 = .ok (.if_icmp .ge 21, 3) := by decide +kernel
theorem d_In_rankAmongLater_14 : decode b_In_rankAmongLater 14 = .ok (.aload_n 0, 1) := by decide +kernel
theorem d_In_rankAmongLater_15 : decode b_In_rankAmongLater 15 = .ok (.iload_n 3, 1) := by decide +kernel
theorem d_In_rankAmongLater_16 : decode b_In_rankAmongLater 16 = .ok (.iload_n 1, 1) := by decide +kernel
theorem d_In_rankAmongLater_17 : decode b_In_rankAmongLater 17 = .ok (.invokevirtual 49, 3) := by decide +kernel
theorem d_In_rankAmongLater_20 : decode b_In_rankAmongLater 20 = .ok (.ifCond .eq 6, 3) := by decide +kernel
theorem d_In_rankAmongLater_23 : decode b_In_rankAmongLater 23 = .ok (.iinc 2 1, 3) := by decide +kernel
theorem d_In_rankAmongLater_26 : decode b_In_rankAmongLater 26 = .ok (.iinc 3 1, 3) := by decide +kernel
theorem d_In_rankAmongLater_29 : decode b_In_rankAmongLater 29 = .ok (.goto (-23), 3) := by decide +kernel
theorem d_In_rankAmongLater_32 : decode b_In_rankAmongLater 32 = .ok (.iload_n 1, 1) := by decide +kernel
theorem d_In_rankAmongLater_33 : decode b_In_rankAmongLater 33 = .ok (.iconst 1, 1) := by decide +kernel
theorem d_In_rankAmongLater_34 : decode b_In_rankAmongLater 34 = .ok (.iadd, 1) := by decide +kernel
theorem d_In_rankAmongLater_35 : decode b_In_rankAmongLater 35 = .ok (.istore_n 3, 1) := by decide +kernel
theorem d_In_rankAmongLater_36 : decode b_In_rankAmongLater 36 = .ok (.iload_n 3, 1) := by decide +kernel
theorem d_In_rankAmongLater_37 : decode b_In_rankAmongLater 37 = .ok (.aload_n 0, 1) := by decide +kernel
theorem d_In_rankAmongLater_38 : decode b_In_rankAmongLater 38 = .ok (.invokevirtual 35, 3) := by decide +kernel
theorem d_In_rankAmongLater_41 : decode b_In_rankAmongLater 41 = .ok (.if_icmp .ge 29, 3) := by decide +kernel
theorem d_In_rankAmongLater_44 : decode b_In_rankAmongLater 44 = .ok (.aload_n 0, 1) := by decide +kernel
theorem d_In_rankAmongLater_45 : decode b_In_rankAmongLater 45 = .ok (.getfield 25, 3) := by decide +kernel
theorem d_In_rankAmongLater_48 : decode b_In_rankAmongLater 48 = .ok (.iload_n 3, 1) := by decide +kernel
theorem d_In_rankAmongLater_49 : decode b_In_rankAmongLater 49 = .ok (.iaload, 1) := by decide +kernel
theorem d_In_rankAmongLater_50 : decode b_In_rankAmongLater 50 = .ok (.iload_n 2, 1) := by decide +kernel
theorem d_In_rankAmongLater_51 : decode b_In_rankAmongLater 51 = .ok (.if_icmp .lt 13, 3) := by decide +kernel
theorem d_In_rankAmongLater_54 : decode b_In_rankAmongLater 54 = .ok (.aload_n 0, 1) := by decide +kernel
theorem d_In_rankAmongLater_55 : decode b_In_rankAmongLater 55 = .ok (.getfield 25, 3) := by decide +kernel
theorem d_In_rankAmongLater_58 : decode b_In_rankAmongLater 58 = .ok (.iload_n 3, 1) := by decide +kernel
theorem d_In_rankAmongLater_59 : decode b_In_rankAmongLater 59 = .ok (.dup2, 1) := by decide +kernel
theorem d_In_rankAmongLater_60 : decode b_In_rankAmongLater 60 = .ok (.iaload, 1) := by decide +kernel
theorem d_In_rankAmongLater_61 : decode b_In_rankAmongLater 61 = .ok (.iconst 1, 1) := by decide +kernel
theorem d_In_rankAmongLater_62 : decode b_In_rankAmongLater 62 = .ok (.iadd, 1) := by decide +kernel
theorem d_In_rankAmongLater_63 : decode b_In_rankAmongLater 63 = .ok (.iastore, 1) := by decide +kernel
theorem d_In_rankAmongLater_64 : decode b_In_rankAmongLater 64 = .ok (.iinc 3 1, 3) := by decide +kernel
theorem d_In_rankAmongLater_67 : decode b_In_rankAmongLater 67 = .ok (.goto (-31), 3) := by decide +kernel
theorem d_In_rankAmongLater_70 : decode b_In_rankAmongLater 70 = .ok (.aload_n 0, 1) := by decide +kernel
theorem d_In_rankAmongLater_71 : decode b_In_rankAmongLater 71 = .ok (.getfield 25, 3) := by decide +kernel
theorem d_In_rankAmongLater_74 : decode b_In_rankAmongLater 74 = .ok (.iload_n 1, 1) := by decide +kernel
theorem d_In_rankAmongLater_75 : decode b_In_rankAmongLater 75 = .ok (.iload_n 2, 1) := by decide +kernel
theorem d_In_rankAmongLater_76 : decode b_In_rankAmongLater 76 = .ok (.iastore, 1) := by decide +kernel
theorem d_In_rankAmongLater_77 : decode b_In_rankAmongLater 77 = .ok (.return_, 1) := by decide +kernel
set_option maxHeartbeats 4000000 in
set_option maxRecDepth 100000 in
theorem c_In_places (l : Launch) (D : va_G) (cA : Nat → ClassId) (K : Nat → Nat) (ia ix it ik rt : Nat) (pa pn ps pln pr : Nat) (num pl : Nat) : ck_I l y_In_places (Cond.code y_In_places b_In_places 1 (some .int) :: w_all) 1 D cA K [.ref ia] [(ia, .inr (3, [.ref pa, .ref ix, .ref it, .ref ik, .int (nI rt)])), (pa, .inr (4, [.ref pn, .ref ps, .ref pln, .ref pr, .int (nI num), .int (nI pl)]))] (fun (r : Int32) (u : Unit) => r = nI pl) (fun u => [(ia, .inr (3, [.ref pa, .ref ix, .ref it, .ref ik, .int (nI rt)])), (pa, .inr (4, [.ref pn, .ref ps, .ref pln, .ref pr, .int (nI num), .int (nI pl)]))]) := by
  refine ck_mkI (by decide) (fun _ _ _ => rfl) (Nat.le_of_ble_eq_true rfl) ?_
  intro pG eG sG mG argsG belowG methG cG Q A H locs ls hx hb hml hown hts hK hE hA hP hD hS hl hret
  have hl : lv_has ls 1 [(0, .ref ia)] := hl
  refine lv_aload_n hx hb d_In_places_0 rfl (lv_at hl 0 rfl) ?_
  refine va_get (C := RX3) (T := TX3) (N := 5) hx hb hts inX3 hown hK hP 0 rfl rfl 0 (by decide) (hts _ m_83) (fun _ h9 => h9) rfl d_In_places_1 ?_
  refine va_getN (C := RX4) (T := TX4) (N := 6) hx hb hts inX4 hown hK hP 1 rfl rfl 5 (by decide) (va_Nw.use rfl (hE.1 _ n_68)) (fun _ h9 => h9) rfl d_In_places_4 ?_
  exact hret (nI pl) () _ _ _ 7 d_In_places_7 rfl hP hD hS
theorem k_In_places : cf_V y_In_places b_In_places 1 (some .int) "ReadMapper$Index" 0 := ⟨⟨m_268, m_269, m_3, m_270⟩, by decide +kernel⟩
set_option maxHeartbeats 4000000 in
set_option maxRecDepth 100000 in
theorem c_In_hasEnding (l : Launch) (D : va_G) (cA : Nat → ClassId) (K : Nat → Nat) (ia ix it ik rt : Nat) (pa pn ps pln pr : Nat) (num pl : Nat) (i : Int32) : ck_I l y_In_hasEnding (Cond.code y_In_hasEnding b_In_hasEnding 2 (some .boolean) :: w_all) 2 D cA K [.ref ia, .int i] [(ia, .inr (3, [.ref pa, .ref ix, .ref it, .ref ik, .int (nI rt)])), (pa, .inr (4, [.ref pn, .ref ps, .ref pln, .ref pr, .int (nI num), .int (nI pl)]))] (fun (r : Int32) (u : Unit) => (r = 1 ∧ ¬ i < 0 ∧ ¬ nI pl ≤ i) ∨ (r = 0 ∧ ¬ (¬ i < 0 ∧ ¬ nI pl ≤ i))) (fun u => [(ia, .inr (3, [.ref pa, .ref ix, .ref it, .ref ik, .int (nI rt)])), (pa, .inr (4, [.ref pn, .ref ps, .ref pln, .ref pr, .int (nI num), .int (nI pl)]))]) := by
  refine ck_mkI (by decide) (fun r u h => by rcases h with ⟨rfl, _⟩ | ⟨rfl, _⟩ <;> rfl) (Nat.le_of_ble_eq_true rfl) ?_
  intro pG eG sG mG argsG belowG methG cG Q A H locs ls hx hb hml hown hts hK hE hA hP hD hS hl hret
  have hl : lv_has ls 2 [(0, .ref ia), (1, .int i)] := hl
  refine lv_iload_n hx hb d_In_hasEnding_0 rfl (lv_at hl 1 rfl) ?_
  refine lv_if_lt (tgt := 16) hx hb d_In_hasEnding_1 (by decide) ?_ ?_
  · intro h1
    refine lv_iconst (v := 0) hx hb d_In_hasEnding_16 (by decide) ?_
    exact hret 0 () _ _ _ 17 d_In_hasEnding_17 (by first | exact Or.inl ⟨rfl, h1, h9⟩ | exact Or.inr ⟨rfl, fun z => z.1 h1⟩ | exact Or.inr ⟨rfl, fun z => z.2 h9⟩) hP hD hS
  · intro h1
    refine lv_iload_n hx hb d_In_hasEnding_4 rfl (lv_at hl 1 rfl) ?_
    refine lv_aload_n hx hb d_In_hasEnding_5 rfl (lv_at hl 0 rfl) ?_
    refine ck_cV (C := "ReadMapper$Index") (ci := 3) (rest := [.int i]) (wr := []) (ws2 := fun u => [(ia, .inr (3, [.ref pa, .ref ix, .ref it, .ref ik, .int (nI rt)])), (pa, .inr (4, [.ref pn, .ref ps, .ref pln, .ref pr, .int (nI num), .int (nI pl)]))]) (c_In_places l D cA K ia ix it ik rt pa pn ps pln pr num pl ) hx hb hml hown hts hK hE hA hP hD hS k_In_places m_267 (by decide) 0 rfl rfl rfl hl.1 rfl (Nat.le_of_ble_eq_true rfl) d_In_hasEnding_6  [0, 1] [] [0, 1] rfl rfl (by decide) (fun _ => rfl) (fun r6 u6 H locs hq6 hP hD hS => ?_)
    try dsimp only at hq6
    have hP : va_P D vwCl [(ia, .inr (3, [.ref pa, .ref ix, .ref it, .ref ik, .int (nI rt)])), (pa, .inr (4, [.ref pn, .ref ps, .ref pln, .ref pr, .int (nI num), .int (nI pl)]))] H := hP
    have hD : va_D A [(ia, .inr (3, [.ref pa, .ref ix, .ref it, .ref ik, .int (nI rt)])), (pa, .inr (4, [.ref pn, .ref ps, .ref pln, .ref pr, .int (nI num), .int (nI pl)]))] := hD
    obtain rfl := hq6
    refine lv_icmp_ge (tgt := 16) hx hb d_In_hasEnding_9 (by decide) ?_ ?_
    · intro h9
      refine lv_iconst (v := 0) hx hb d_In_hasEnding_16 (by decide) ?_
      exact hret 0 () _ _ _ 17 d_In_hasEnding_17 (by first | exact Or.inl ⟨rfl, h1, h9⟩ | exact Or.inr ⟨rfl, fun z => z.1 h1⟩ | exact Or.inr ⟨rfl, fun z => z.2 h9⟩) hP hD hS
    · intro h9
      refine lv_iconst (v := 1) hx hb d_In_hasEnding_12 (by decide) ?_
      refine lv_goto (tgt := 17) hx hb d_In_hasEnding_13 (by decide) ?_
      exact hret 1 () _ _ _ 17 d_In_hasEnding_17 (by first | exact Or.inl ⟨rfl, h1, h9⟩ | exact Or.inr ⟨rfl, fun z => z.1 h1⟩ | exact Or.inr ⟨rfl, fun z => z.2 h9⟩) hP hD hS
theorem k_In_hasEnding : cf_V y_In_hasEnding b_In_hasEnding 2 (some .boolean) "ReadMapper$Index" 1 := ⟨⟨m_264, m_265, m_3, m_266⟩, by decide +kernel⟩
set_option maxHeartbeats 4000000 in
set_option maxRecDepth 100000 in
theorem c_In_placeOf (l : Launch) (D : va_G) (cA : Nat → ClassId) (K : Nat → Nat) (ia ix it ik rt : Nat) (pa pn ps pln pr : Nat) (num pl : Nat) (sf : Nat → Int32) (i : Int32) (hpl : pl ≤ 65) : ck_I l y_In_placeOf (Cond.code y_In_placeOf b_In_placeOf 2 (some .int) :: w_all) 3 D cA K [.ref ia, .int i] [(ia, .inr (3, [.ref pa, .ref ix, .ref it, .ref ik, .int (nI rt)])), (pa, .inr (4, [.ref pn, .ref ps, .ref pln, .ref pr, .int (nI num), .int (nI pl)])), (ix, .inl (cA 0, 65, .inl sf))] (fun (r : Int32) (u : Unit) => r = px_c pl sf i) (fun u => [(ia, .inr (3, [.ref pa, .ref ix, .ref it, .ref ik, .int (nI rt)])), (pa, .inr (4, [.ref pn, .ref ps, .ref pln, .ref pr, .int (nI num), .int (nI pl)])), (ix, .inl (cA 0, 65, .inl sf))]) := by
  refine ck_mkI (by decide) (fun _ _ _ => rfl) (Nat.le_of_ble_eq_true rfl) ?_
  intro pG eG sG mG argsG belowG methG cG Q A H locs ls hx hb hml hown hts hK hE hA hP hD hS hl hret
  have hl : lv_has ls 2 [(0, .ref ia), (1, .int i)] := hl
  refine lv_aload_n hx hb d_In_placeOf_0 rfl (lv_at hl 0 rfl) ?_
  refine lv_iload_n hx hb d_In_placeOf_1 rfl (lv_at hl 1 rfl) ?_
  refine ck_cV (C := "ReadMapper$Index") (ci := 3) (rest := []) (wr := [(ix, .inl (cA 0, 65, .inl sf))]) (ws2 := fun u => [(ia, .inr (3, [.ref pa, .ref ix, .ref it, .ref ik, .int (nI rt)])), (pa, .inr (4, [.ref pn, .ref ps, .ref pln, .ref pr, .int (nI num), .int (nI pl)])), (ix, .inl (cA 0, 65, .inl sf))]) (c_In_hasEnding l D cA K ia ix it ik rt pa pn ps pln pr num pl i ) hx hb hml hown hts hK hE hA hP hD hS k_In_hasEnding m_263 (by decide) 0 rfl rfl rfl hl.1 rfl (Nat.le_of_ble_eq_true rfl) d_In_placeOf_2  [0, 1] [2] [1, 2, 0] rfl rfl (by decide) (fun _ => rfl) (fun r2 u2 H locs hq2 hP hD hS => ?_)
  try dsimp only at hq2
  have hP : va_P D vwCl [(ia, .inr (3, [.ref pa, .ref ix, .ref it, .ref ik, .int (nI rt)])), (pa, .inr (4, [.ref pn, .ref ps, .ref pln, .ref pr, .int (nI num), .int (nI pl)])), (ix, .inl (cA 0, 65, .inl sf))] H := hP
  have hD : va_D A [(ia, .inr (3, [.ref pa, .ref ix, .ref it, .ref ik, .int (nI rt)])), (pa, .inr (4, [.ref pn, .ref ps, .ref pln, .ref pr, .int (nI num), .int (nI pl)])), (ix, .inl (cA 0, 65, .inl sf))] := hD
  rcases hq2 with ⟨rfl, hq2⟩ | ⟨rfl, hq2⟩
  ·
    refine lv_if_eq (tgt := 17) hx hb d_In_placeOf_5 (by decide) (fun h9 => absurd h9 (by decide)) (fun _ => ?_)
    refine lv_aload_n hx hb d_In_placeOf_8 rfl (lv_at hl 0 rfl) ?_
    refine va_get (C := RX3) (T := TX3) (N := 5) hx hb hts inX3 hown hK hP 0 rfl rfl 1 (by decide) (hts _ m_86) (fun _ h9 => h9) rfl d_In_placeOf_9 ?_
    refine lv_iload_n hx hb d_In_placeOf_12 rfl (lv_at hl 1 rfl) ?_
    refine va_iald hx hb hK hP 2 0 rfl rfl (px_vin hpl hq2.1 hq2.2) d_In_placeOf_13 ?_
    refine lv_goto (tgt := 18) hx hb d_In_placeOf_14 (by decide) ?_
    exact hret (sf (i).toNatClampNeg) () _ _ _ 18 d_In_placeOf_18 (by first | exact (if_pos hq2).symm | exact (if_neg hq2).symm) hP hD hS
  ·
    refine lv_if_eq (tgt := 17) hx hb d_In_placeOf_5 (by decide) (fun _ => ?_) (fun h9 => absurd h9 (by decide))
    refine lv_iconst (v := (-1)) hx hb d_In_placeOf_17 (by decide) ?_
    exact hret (-1) () _ _ _ 18 d_In_placeOf_18 (by first | exact (if_pos hq2).symm | exact (if_neg hq2).symm) hP hD hS
theorem k_In_placeOf : cf_V y_In_placeOf b_In_placeOf 2 (some .int) "ReadMapper$Index" 1 := ⟨⟨m_654, m_655, m_3, m_656⟩, by decide +kernel⟩
set_option maxHeartbeats 4000000 in
set_option maxRecDepth 100000 in
theorem c_In_symbolBefore (l : Launch) (D : va_G) (cA : Nat → ClassId) (K : Nat → Nat) (ia ix it ik rt : Nat) (pa pn ps pln pr : Nat) (num pl : Nat) (tr : Nat → Int32) (i : Int32) (hpl : pl ≤ 65) : ck_I l y_In_symbolBefore (Cond.code y_In_symbolBefore b_In_symbolBefore 2 (some .int) :: w_all) 3 D cA K [.ref ia, .int i] [(ia, .inr (3, [.ref pa, .ref ix, .ref it, .ref ik, .int (nI rt)])), (pa, .inr (4, [.ref pn, .ref ps, .ref pln, .ref pr, .int (nI num), .int (nI pl)])), (it, .inl (cA 0, 65, .inl tr))] (fun (r : Int32) (u : Unit) => r = px_c pl tr i) (fun u => [(ia, .inr (3, [.ref pa, .ref ix, .ref it, .ref ik, .int (nI rt)])), (pa, .inr (4, [.ref pn, .ref ps, .ref pln, .ref pr, .int (nI num), .int (nI pl)])), (it, .inl (cA 0, 65, .inl tr))]) := by
  refine ck_mkI (by decide) (fun _ _ _ => rfl) (Nat.le_of_ble_eq_true rfl) ?_
  intro pG eG sG mG argsG belowG methG cG Q A H locs ls hx hb hml hown hts hK hE hA hP hD hS hl hret
  have hl : lv_has ls 2 [(0, .ref ia), (1, .int i)] := hl
  refine lv_aload_n hx hb d_In_symbolBefore_0 rfl (lv_at hl 0 rfl) ?_
  refine lv_iload_n hx hb d_In_symbolBefore_1 rfl (lv_at hl 1 rfl) ?_
  refine ck_cV (C := "ReadMapper$Index") (ci := 3) (rest := []) (wr := [(it, .inl (cA 0, 65, .inl tr))]) (ws2 := fun u => [(ia, .inr (3, [.ref pa, .ref ix, .ref it, .ref ik, .int (nI rt)])), (pa, .inr (4, [.ref pn, .ref ps, .ref pln, .ref pr, .int (nI num), .int (nI pl)])), (it, .inl (cA 0, 65, .inl tr))]) (c_In_hasEnding l D cA K ia ix it ik rt pa pn ps pln pr num pl i ) hx hb hml hown hts hK hE hA hP hD hS k_In_hasEnding m_263 (by decide) 0 rfl rfl rfl hl.1 rfl (Nat.le_of_ble_eq_true rfl) d_In_symbolBefore_2  [0, 1] [2] [1, 2, 0] rfl rfl (by decide) (fun _ => rfl) (fun r2 u2 H locs hq2 hP hD hS => ?_)
  try dsimp only at hq2
  have hP : va_P D vwCl [(ia, .inr (3, [.ref pa, .ref ix, .ref it, .ref ik, .int (nI rt)])), (pa, .inr (4, [.ref pn, .ref ps, .ref pln, .ref pr, .int (nI num), .int (nI pl)])), (it, .inl (cA 0, 65, .inl tr))] H := hP
  have hD : va_D A [(ia, .inr (3, [.ref pa, .ref ix, .ref it, .ref ik, .int (nI rt)])), (pa, .inr (4, [.ref pn, .ref ps, .ref pln, .ref pr, .int (nI num), .int (nI pl)])), (it, .inl (cA 0, 65, .inl tr))] := hD
  rcases hq2 with ⟨rfl, hq2⟩ | ⟨rfl, hq2⟩
  ·
    refine lv_if_eq (tgt := 17) hx hb d_In_symbolBefore_5 (by decide) (fun h9 => absurd h9 (by decide)) (fun _ => ?_)
    refine lv_aload_n hx hb d_In_symbolBefore_8 rfl (lv_at hl 0 rfl) ?_
    refine va_get (C := RX3) (T := TX3) (N := 5) hx hb hts inX3 hown hK hP 0 rfl rfl 2 (by decide) (hts _ m_87) (fun _ h9 => h9) rfl d_In_symbolBefore_9 ?_
    refine lv_iload_n hx hb d_In_symbolBefore_12 rfl (lv_at hl 1 rfl) ?_
    refine va_iald hx hb hK hP 2 0 rfl rfl (px_vin hpl hq2.1 hq2.2) d_In_symbolBefore_13 ?_
    refine lv_goto (tgt := 18) hx hb d_In_symbolBefore_14 (by decide) ?_
    exact hret (tr (i).toNatClampNeg) () _ _ _ 18 d_In_symbolBefore_18 (by first | exact (if_pos hq2).symm | exact (if_neg hq2).symm) hP hD hS
  ·
    refine lv_if_eq (tgt := 17) hx hb d_In_symbolBefore_5 (by decide) (fun _ => ?_) (fun h9 => absurd h9 (by decide))
    refine lv_iconst (v := (-1)) hx hb d_In_symbolBefore_17 (by decide) ?_
    exact hret (-1) () _ _ _ 18 d_In_symbolBefore_18 (by first | exact (if_pos hq2).symm | exact (if_neg hq2).symm) hP hD hS
theorem k_In_symbolBefore : cf_V y_In_symbolBefore b_In_symbolBefore 2 (some .int) "ReadMapper$Index" 1 := ⟨⟨m_276, m_277, m_3, m_278⟩, by decide +kernel⟩
set_option maxHeartbeats 4000000 in
set_option maxRecDepth 100000 in
theorem c_In_stepsTo (l : Launch) (D : va_G) (cA : Nat → ClassId) (K : Nat → Nat) (ia ix it ik rt : Nat) (pa pn ps pln pr : Nat) (num pl : Nat) (sf : Nat → Int32) (sa : Nat → Nat) (i : Int32) (hpl : pl ≤ 65) (hrt : 0 < rt ∧ rt ≤ 8) (hsf : ∀ j, j < pl → sf j = nI (sa j) ∧ sa j < pl) : ck_I l y_In_stepsTo (Cond.code y_In_stepsTo b_In_stepsTo 2 (some .int) :: w_all) 3 D cA K [.ref ia, .int i] [(ia, .inr (3, [.ref pa, .ref ix, .ref it, .ref ik, .int (nI rt)])), (pa, .inr (4, [.ref pn, .ref ps, .ref pln, .ref pr, .int (nI num), .int (nI pl)])), (ix, .inl (cA 0, 65, .inl sf))] (fun (r : Int32) (u : Unit) => r = px_c pl (fun j => nI (sa j % rt)) i) (fun u => [(ia, .inr (3, [.ref pa, .ref ix, .ref it, .ref ik, .int (nI rt)])), (pa, .inr (4, [.ref pn, .ref ps, .ref pln, .ref pr, .int (nI num), .int (nI pl)])), (ix, .inl (cA 0, 65, .inl sf))]) := by
  refine ck_mkI (by decide) (fun _ _ _ => rfl) (Nat.le_of_ble_eq_true rfl) ?_
  intro pG eG sG mG argsG belowG methG cG Q A H locs ls hx hb hml hown hts hK hE hA hP hD hS hl hret
  have hl : lv_has ls 2 [(0, .ref ia), (1, .int i)] := hl
  have hrt1 := hrt.1
  have hrt2 := hrt.2
  refine lv_aload_n hx hb d_In_stepsTo_0 rfl (lv_at hl 0 rfl) ?_
  refine lv_iload_n hx hb d_In_stepsTo_1 rfl (lv_at hl 1 rfl) ?_
  refine ck_cV (C := "ReadMapper$Index") (ci := 3) (rest := []) (wr := [(ix, .inl (cA 0, 65, .inl sf))]) (ws2 := fun u => [(ia, .inr (3, [.ref pa, .ref ix, .ref it, .ref ik, .int (nI rt)])), (pa, .inr (4, [.ref pn, .ref ps, .ref pln, .ref pr, .int (nI num), .int (nI pl)])), (ix, .inl (cA 0, 65, .inl sf))]) (c_In_hasEnding l D cA K ia ix it ik rt pa pn ps pln pr num pl i ) hx hb hml hown hts hK hE hA hP hD hS k_In_hasEnding m_263 (by decide) 0 rfl rfl rfl hl.1 rfl (Nat.le_of_ble_eq_true rfl) d_In_stepsTo_2  [0, 1] [2] [1, 2, 0] rfl rfl (by decide) (fun _ => rfl) (fun r2 u2 H locs hq2 hP hD hS => ?_)
  try dsimp only at hq2
  have hP : va_P D vwCl [(ia, .inr (3, [.ref pa, .ref ix, .ref it, .ref ik, .int (nI rt)])), (pa, .inr (4, [.ref pn, .ref ps, .ref pln, .ref pr, .int (nI num), .int (nI pl)])), (ix, .inl (cA 0, 65, .inl sf))] H := hP
  have hD : va_D A [(ia, .inr (3, [.ref pa, .ref ix, .ref it, .ref ik, .int (nI rt)])), (pa, .inr (4, [.ref pn, .ref ps, .ref pln, .ref pr, .int (nI num), .int (nI pl)])), (ix, .inl (cA 0, 65, .inl sf))] := hD
  rcases hq2 with ⟨rfl, hq2⟩ | ⟨rfl, hq2⟩
  ·
    refine lv_if_eq (tgt := 22) hx hb d_In_stepsTo_5 (by decide) (fun h9 => absurd h9 (by decide)) (fun _ => ?_)
    obtain ⟨k, hk, rfl⟩ := px_num hpl hq2.1 hq2.2
    have hsk := (hsf k hk).2
    refine lv_aload_n hx hb d_In_stepsTo_8 rfl (lv_at hl 0 rfl) ?_
    refine va_get (C := RX3) (T := TX3) (N := 5) hx hb hts inX3 hown hK hP 0 rfl rfl 1 (by decide) (hts _ m_86) (fun _ h9 => h9) rfl d_In_stepsTo_9 ?_
    refine lv_iload_n hx hb d_In_stepsTo_12 rfl (lv_at hl 1 rfl) ?_
    refine wn_iald hx hb hK hP 2 0 rfl rfl (by omega) (by omega) d_In_stepsTo_13 ?_
    refine wn_eq (y := nI (sa k)) (hsf k hk).1 ?_
    refine lv_aload_n hx hb d_In_stepsTo_14 rfl (lv_at hl 0 rfl) ?_
    refine va_get (C := RX3) (T := TX3) (N := 5) hx hb hts inX3 hown hK hP 0 rfl rfl 4 (by decide) (hts _ m_90) (fun _ h9 => h9) rfl d_In_stepsTo_15 ?_
    refine wn_irem (by omega) (by omega) (by omega) hx hb d_In_stepsTo_18 ?_
    refine lv_goto (tgt := 23) hx hb d_In_stepsTo_19 (by decide) ?_
    exact hret (nI ((sa k) % rt)) () _ _ _ 23 d_In_stepsTo_23 (by first | exact (px_n (f := fun j => nI (sa j % rt)) hk hpl).symm | exact (if_neg hq2).symm) hP hD hS
  ·
    refine lv_if_eq (tgt := 22) hx hb d_In_stepsTo_5 (by decide) (fun _ => ?_) (fun h9 => absurd h9 (by decide))
    refine lv_iconst (v := (-1)) hx hb d_In_stepsTo_22 (by decide) ?_
    exact hret (-1) () _ _ _ 23 d_In_stepsTo_23 (by first | exact (px_n (f := fun j => nI (sa j % rt)) hk hpl).symm | exact (if_neg hq2).symm) hP hD hS
theorem k_In_stepsTo : cf_V y_In_stepsTo b_In_stepsTo 2 (some .int) "ReadMapper$Index" 1 := ⟨⟨m_260, m_261, m_3, m_262⟩, by decide +kernel⟩
set_option maxHeartbeats 4000000 in
set_option maxRecDepth 100000 in
theorem c_In_countBefore (l : Launch) (D : va_G) (cA : Nat → ClassId) (K : Nat → Nat) (ia ix it ik rt : Nat) (pa pn ps pln pr : Nat) (num pl : Nat) (tr : Nat → Int32) (x : Int32) (q : Nat) (hq : q ≤ 65) : ck_I l y_In_countBefore (Cond.code y_In_countBefore b_In_countBefore 5 (some .int) :: w_all) 1 D cA K [.ref ia, .int x, .int (nI q)] [(ia, .inr (3, [.ref pa, .ref ix, .ref it, .ref ik, .int (nI rt)])), (it, .inl (cA 0, 65, .inl tr))] (fun (r : Int32) (u : Unit) => r = nI (ct_c tr x q)) (fun u => [(ia, .inr (3, [.ref pa, .ref ix, .ref it, .ref ik, .int (nI rt)])), (it, .inl (cA 0, 65, .inl tr))]) := by
  refine ck_mkI (by decide) (fun _ _ _ => rfl) (Nat.le_of_ble_eq_true rfl) ?_
  intro pG eG sG mG argsG belowG methG cG Q A H locs ls hx hb hml hown hts hK hE hA hP hD hS hl hret
  have hl : lv_has ls 5 [(0, .ref ia), (1, .int x), (2, .int (nI q))] := hl
  refine lv_iconst (v := nI 0) hx hb d_In_countBefore_0 (by decide) ?_
  refine lv_istore_n (lv' := [(3, .int (nI 0)), (0, .ref ia), (1, .int x), (2, .int (nI q))]) hx hb d_In_countBefore_1 rfl hl (by decide) rfl (fun ls hl => ?_)
  refine lv_iconst (v := nI 0) hx hb d_In_countBefore_2 (by decide) ?_
  refine lv_istore (lv' := [(4, .int (nI 0)), (3, .int (nI 0)), (0, .ref ia), (1, .int x), (2, .int (nI q))]) hx hb d_In_countBefore_3 hl (by decide) rfl (fun ls hl => ?_)
  have L5 : ∀ (nG : Nat) (n i : Nat) (H : Heap) (locs : List Loc) (ls : Array Slot), q - i = nG → i ≤ q → n = ct_c tr x i →  va_P D vwCl [(ia, .inr (3, [.ref pa, .ref ix, .ref it, .ref ik, .int (nI rt)])), (it, .inl (cA 0, 65, .inl tr))] H → va_D A [(ia, .inr (3, [.ref pa, .ref ix, .ref it, .ref ik, .int (nI rt)])), (it, .inl (cA 0, 65, .inl tr))] → va_S A sG.heap H locs → lv_has ls 5 [(0, .ref ia), (1, .int x), (2, .int (nI q)), (3, .int (nI n)), (4, .int (nI i))] → W pG l eG (rm_d 1) sG mG argsG belowG methG cG H locs 0 0 Q (F0 mG 5 ls []) := by
    intro nG
    induction nG using Nat.strongRecOn with
    | ind nG ih5 =>
      intro n i H locs ls hn5 hi hn hP hD hS hl
      have hcl := ct_le tr x i
      rw [← hn] at hcl
      refine lv_iload hx hb d_In_countBefore_5 (lv_at hl 4 rfl) ?_
      refine lv_iload_n hx hb d_In_countBefore_7 rfl (lv_at hl 2 rfl) ?_
      refine wn_icmp_ge (by omega) (by omega) (tgt := 31) hx hb d_In_countBefore_8 (by decide) ?_ ?_
      · intro h8
        refine lv_iload_n hx hb d_In_countBefore_31 rfl (lv_at hl 3 rfl) ?_
        exact hret (nI n) () _ _ _ 32 d_In_countBefore_32 (by rw [hn, show i = q by omega]) hP hD hS
      · intro h8
        refine lv_aload_n hx hb d_In_countBefore_11 rfl (lv_at hl 0 rfl) ?_
        refine va_get (C := RX3) (T := TX3) (N := 5) hx hb hts inX3 hown hK hP 0 rfl rfl 2 (by decide) (hts _ m_87) (fun _ h9 => h9) rfl d_In_countBefore_12 ?_
        refine lv_iload hx hb d_In_countBefore_15 (lv_at hl 4 rfl) ?_
        refine wn_iald hx hb hK hP 1 0 rfl rfl (by omega) (by omega) d_In_countBefore_17 ?_
        refine lv_iload_n hx hb d_In_countBefore_18 rfl (lv_at hl 1 rfl) ?_
        refine lv_icmp_ne (tgt := 25) hx hb d_In_countBefore_19 (by decide) ?_ ?_
        · intro h19
          refine lv_iinc (k := 4) (v := nI (i + 1)) (lv' := [(4, .int (nI (i + 1))), (0, .ref ia), (1, .int x), (2, .int (nI q)), (3, .int (nI n))]) hx hb d_In_countBefore_25 hl rfl (wi_inc1 _) (by decide) rfl (fun ls hl => ?_)
          refine lv_goto (tgt := 5) hx hb d_In_countBefore_28 (by decide) ?_
          exact ih5 _ (by omega) n (i + 1) _ _ _ rfl (by first | assumption | omega) (by first | exact ct_1 hn h19 | exact ct_0 hn h19) hP hD hS (lv_sub hl [1, 2, 3, 4, 0] rfl)
        · intro h19
          refine lv_iinc (k := 3) (v := nI (n + 1)) (lv' := [(3, .int (nI (n + 1))), (0, .ref ia), (1, .int x), (2, .int (nI q)), (4, .int (nI i))]) hx hb d_In_countBefore_22 hl rfl (wi_inc1 _) (by decide) rfl (fun ls hl => ?_)
          refine lv_iinc (k := 4) (v := nI (i + 1)) (lv' := [(4, .int (nI (i + 1))), (3, .int (nI (n + 1))), (0, .ref ia), (1, .int x), (2, .int (nI q))]) hx hb d_In_countBefore_25 hl rfl (wi_inc1 _) (by decide) rfl (fun ls hl => ?_)
          refine lv_goto (tgt := 5) hx hb d_In_countBefore_28 (by decide) ?_
          exact ih5 _ (by omega) (n + 1) (i + 1) _ _ _ rfl (by first | assumption | omega) (by first | exact ct_1 hn h19 | exact ct_0 hn h19) hP hD hS (lv_sub hl [2, 3, 4, 1, 0] rfl)
  exact L5 _ 0 0 _ _ _ rfl (by first | assumption | omega) rfl hP hD hS (lv_sub hl [2, 3, 4, 1, 0] rfl)
theorem k_In_countBefore : cf_V y_In_countBefore b_In_countBefore 5 (some .int) "ReadMapper$Index" 2 := ⟨⟨m_296, m_297, m_3, m_298⟩, by decide +kernel⟩
set_option maxHeartbeats 4000000 in
set_option maxRecDepth 100000 in
theorem c_In_isLess (l : Launch) (D : va_G) (cA : Nat → ClassId) (K : Nat → Nat) (ia ix it ik rt : Nat) (pa pn ps pln pr : Nat) (num pl : Nat) (rw rk : Nat → Int32) (q o : Nat) (hq : q < 65) (ho : o < 65) : ck_I l y_In_isLess (Cond.code y_In_isLess b_In_isLess 5 (some .boolean) :: w_all) 1 D cA K [.ref ia, .int (nI q), .int (nI o)] [(ia, .inr (3, [.ref pa, .ref ix, .ref it, .ref ik, .int (nI rt)])), (pa, .inr (4, [.ref pn, .ref ps, .ref pln, .ref pr, .int (nI num), .int (nI pl)])), (pr, .inl (cA 0, 65, .inl rw)), (ik, .inl (cA 0, 66, .inl rk))] (fun (r : Int32) (u : Unit) => (r = 1 ∧ (rw q < rw o ∨ (rw q = rw o ∧ rk (q + 1) < rk (o + 1)))) ∨ (r = 0 ∧ ¬ (rw q < rw o ∨ (rw q = rw o ∧ rk (q + 1) < rk (o + 1))))) (fun u => [(ia, .inr (3, [.ref pa, .ref ix, .ref it, .ref ik, .int (nI rt)])), (pa, .inr (4, [.ref pn, .ref ps, .ref pln, .ref pr, .int (nI num), .int (nI pl)])), (pr, .inl (cA 0, 65, .inl rw)), (ik, .inl (cA 0, 66, .inl rk))]) := by
  refine ck_mkI (by decide) (fun r u h => by rcases h with ⟨rfl, _⟩ | ⟨rfl, _⟩ <;> rfl) (Nat.le_of_ble_eq_true rfl) ?_
  intro pG eG sG mG argsG belowG methG cG Q A H locs ls hx hb hml hown hts hK hE hA hP hD hS hl hret
  have hl : lv_has ls 5 [(0, .ref ia), (1, .int (nI q)), (2, .int (nI o))] := hl
  refine lv_aload_n hx hb d_In_isLess_0 rfl (lv_at hl 0 rfl) ?_
  refine va_get (C := RX3) (T := TX3) (N := 5) hx hb hts inX3 hown hK hP 0 rfl rfl 0 (by decide) (hts _ m_83) (fun _ h9 => h9) rfl d_In_isLess_1 ?_
  refine va_getN (C := RX4) (T := TX4) (N := 6) hx hb hts inX4 hown hK hP 1 rfl rfl 3 (by decide) (va_Nw.use rfl (hE.1 _ n_65)) (fun _ h9 => h9) rfl d_In_isLess_4 ?_
  refine lv_iload_n hx hb d_In_isLess_7 rfl (lv_at hl 1 rfl) ?_
  refine wn_iald hx hb hK hP 2 0 rfl rfl (by omega) (by omega) d_In_isLess_8 ?_
  refine lv_istore_n (lv' := [(3, .int (rw q)), (0, .ref ia), (1, .int (nI q)), (2, .int (nI o))]) hx hb d_In_isLess_9 rfl hl (by decide) rfl (fun ls hl => ?_)
  refine lv_aload_n hx hb d_In_isLess_10 rfl (lv_at hl 1 rfl) ?_
  refine va_get (C := RX3) (T := TX3) (N := 5) hx hb hts inX3 hown hK hP 0 rfl rfl 0 (by decide) (hts _ m_83) (fun _ h9 => h9) rfl d_In_isLess_11 ?_
  refine va_getN (C := RX4) (T := TX4) (N := 6) hx hb hts inX4 hown hK hP 1 rfl rfl 3 (by decide) (va_Nw.use rfl (hE.1 _ n_65)) (fun _ h9 => h9) rfl d_In_isLess_14 ?_
  refine lv_iload_n hx hb d_In_isLess_17 rfl (lv_at hl 3 rfl) ?_
  refine wn_iald hx hb hK hP 2 0 rfl rfl (by omega) (by omega) d_In_isLess_18 ?_
  refine lv_istore (lv' := [(4, .int (rw o)), (3, .int (rw q)), (0, .ref ia), (1, .int (nI q)), (2, .int (nI o))]) hx hb d_In_isLess_19 hl (by decide) rfl (fun ls hl => ?_)
  refine lv_iload_n hx hb d_In_isLess_21 rfl (lv_at hl 1 rfl) ?_
  refine lv_iload hx hb d_In_isLess_22 (lv_at hl 0 rfl) ?_
  refine lv_icmp_eq (tgt := 39) hx hb d_In_isLess_24 (by decide) ?_ ?_
  · intro h24
    refine lv_aload_n hx hb d_In_isLess_39 rfl (lv_at hl 2 rfl) ?_
    refine va_get (C := RX3) (T := TX3) (N := 5) hx hb hts inX3 hown hK hP 0 rfl rfl 3 (by decide) (hts _ m_89) (fun _ h9 => h9) rfl d_In_isLess_40 ?_
    refine lv_iload_n hx hb d_In_isLess_43 rfl (lv_at hl 3 rfl) ?_
    refine lv_iconst (v := nI 1) hx hb d_In_isLess_44 (by decide) ?_
    refine wn_iadd hx hb d_In_isLess_45 ?_
    refine wn_iald hx hb hK hP 3 0 rfl rfl (by omega) (by omega) d_In_isLess_46 ?_
    refine lv_aload_n hx hb d_In_isLess_47 rfl (lv_at hl 2 rfl) ?_
    refine va_get (C := RX3) (T := TX3) (N := 5) hx hb hts inX3 hown hK hP 0 rfl rfl 3 (by decide) (hts _ m_89) (fun _ h9 => h9) rfl d_In_isLess_48 ?_
    refine lv_iload_n hx hb d_In_isLess_51 rfl (lv_at hl 4 rfl) ?_
    refine lv_iconst (v := nI 1) hx hb d_In_isLess_52 (by decide) ?_
    refine wn_iadd hx hb d_In_isLess_53 ?_
    refine wn_iald hx hb hK hP 3 0 rfl rfl (by omega) (by omega) d_In_isLess_54 ?_
    refine lv_icmp_ge (tgt := 62) hx hb d_In_isLess_55 (by decide) ?_ ?_
    · intro h55
      refine lv_iconst (v := 0) hx hb d_In_isLess_62 (by decide) ?_
      exact hret 0 () _ _ _ 63 d_In_isLess_63 (by first | exact Or.inl ⟨rfl, Or.inl (in_lt h30)⟩ | exact Or.inr ⟨rfl, fun z => z.elim (fun z => in_nlt h30 z) (fun z => h24 z.1)⟩ | exact Or.inl ⟨rfl, Or.inr ⟨h24, in_lt h55⟩⟩ | exact Or.inr ⟨rfl, fun z => z.elim (fun z => in_ne h24 z) (fun z => in_nlt h55 z.2)⟩) hP hD hS
    · intro h55
      refine lv_iconst (v := 1) hx hb d_In_isLess_58 (by decide) ?_
      refine lv_goto (tgt := 63) hx hb d_In_isLess_59 (by decide) ?_
      exact hret 1 () _ _ _ 63 d_In_isLess_63 (by first | exact Or.inl ⟨rfl, Or.inl (in_lt h30)⟩ | exact Or.inr ⟨rfl, fun z => z.elim (fun z => in_nlt h30 z) (fun z => h24 z.1)⟩ | exact Or.inl ⟨rfl, Or.inr ⟨h24, in_lt h55⟩⟩ | exact Or.inr ⟨rfl, fun z => z.elim (fun z => in_ne h24 z) (fun z => in_nlt h55 z.2)⟩) hP hD hS
  · intro h24
    refine lv_iload_n hx hb d_In_isLess_27 rfl (lv_at hl 1 rfl) ?_
    refine lv_iload hx hb d_In_isLess_28 (lv_at hl 0 rfl) ?_
    refine lv_icmp_ge (tgt := 37) hx hb d_In_isLess_30 (by decide) ?_ ?_
    · intro h30
      refine lv_iconst (v := 0) hx hb d_In_isLess_37 (by decide) ?_
      exact hret 0 () _ _ _ 38 d_In_isLess_38 (by first | exact Or.inl ⟨rfl, Or.inl (in_lt h30)⟩ | exact Or.inr ⟨rfl, fun z => z.elim (fun z => in_nlt h30 z) (fun z => h24 z.1)⟩ | exact Or.inl ⟨rfl, Or.inr ⟨h24, in_lt h55⟩⟩ | exact Or.inr ⟨rfl, fun z => z.elim (fun z => in_ne h24 z) (fun z => in_nlt h55 z.2)⟩) hP hD hS
    · intro h30
      refine lv_iconst (v := 1) hx hb d_In_isLess_33 (by decide) ?_
      refine lv_goto (tgt := 38) hx hb d_In_isLess_34 (by decide) ?_
      exact hret 1 () _ _ _ 38 d_In_isLess_38 (by first | exact Or.inl ⟨rfl, Or.inl (in_lt h30)⟩ | exact Or.inr ⟨rfl, fun z => z.elim (fun z => in_nlt h30 z) (fun z => h24 z.1)⟩ | exact Or.inl ⟨rfl, Or.inr ⟨h24, in_lt h55⟩⟩ | exact Or.inr ⟨rfl, fun z => z.elim (fun z => in_ne h24 z) (fun z => in_nlt h55 z.2)⟩) hP hD hS
theorem k_In_isLess : cf_V y_In_isLess b_In_isLess 5 (some .boolean) "ReadMapper$Index" 2 := ⟨⟨m_627, (wm_s (q := (y_In_isLess, 5)) (by decide +kernel)), m_3, m_628⟩, by decide +kernel⟩
set_option maxHeartbeats 4000000 in
set_option maxRecDepth 100000 in
theorem c_In_rankAmongLater (l : Launch) (D : va_G) (cA : Nat → ClassId) (K : Nat → Nat) (ia ix it ik rt : Nat) (pa pn ps pln pr : Nat) (num pl : Nat) (rw rk : Nat → Int32) (o : Nat) (ho : o < pl) (hpl : pl ≤ 65) (hk : rw_k (ky_c rw) pl) (hrk : ∀ j, o < j → j < pl → rk j = nI (rk_m (ky_c rw) pl (o + 1) j)) (hrn : rk pl = -1) : ck_V l y_In_rankAmongLater (Cond.code y_In_rankAmongLater b_In_rankAmongLater 4 none :: w_all) 2 D cA K [.ref ia, .int (nI o)] [(ia, .inr (3, [.ref pa, .ref ix, .ref it, .ref ik, .int (nI rt)])), (pa, .inr (4, [.ref pn, .ref ps, .ref pln, .ref pr, .int (nI num), .int (nI pl)])), (pr, .inl (cA 0, 65, .inl rw)), (ik, .inl (cA 0, 66, .inl rk))] (fun (u : Nat → Int32) => (∀ j, o ≤ j → j < pl → u j = nI (rk_m (ky_c rw) pl o j)) ∧ u pl = -1) (fun u => [(ia, .inr (3, [.ref pa, .ref ix, .ref it, .ref ik, .int (nI rt)])), (pa, .inr (4, [.ref pn, .ref ps, .ref pln, .ref pr, .int (nI num), .int (nI pl)])), (pr, .inl (cA 0, 65, .inl rw)), (ik, .inl (cA 0, 66, .inl u))]) := by
  refine ck_mkV (by decide) (Nat.le_of_ble_eq_true rfl) ?_
  intro pG eG sG mG argsG belowG methG cG Q A H locs ls hx hb hml hown hts hK hE hA hP hD hS hl hret
  have hl : lv_has ls 4 [(0, .ref ia), (1, .int (nI o))] := hl
  refine lv_iconst (v := nI 0) hx hb d_In_rankAmongLater_0 (by decide) ?_
  refine lv_istore_n (lv' := [(2, .int (nI 0)), (0, .ref ia), (1, .int (nI o))]) hx hb d_In_rankAmongLater_1 rfl hl (by decide) rfl (fun ls hl => ?_)
  refine lv_iload_n hx hb d_In_rankAmongLater_2 rfl (lv_at hl 2 rfl) ?_
  refine lv_iconst (v := nI 1) hx hb d_In_rankAmongLater_3 (by decide) ?_
  refine wn_iadd hx hb d_In_rankAmongLater_4 ?_
  refine lv_istore_n (lv' := [(3, .int (nI (o + 1))), (2, .int (nI 0)), (0, .ref ia), (1, .int (nI o))]) hx hb d_In_rankAmongLater_5 rfl hl (by decide) rfl (fun ls hl => ?_)
  have L6 : ∀ (nG : Nat) (n i : Nat) (H : Heap) (locs : List Loc) (ls : Array Slot), pl - i = nG → o < i → i ≤ pl → n = cn_t (fun z => o + 1 ≤ z ∧ el_t (ky_c rw) pl z o) i →  va_P D vwCl [(ia, .inr (3, [.ref pa, .ref ix, .ref it, .ref ik, .int (nI rt)])), (pa, .inr (4, [.ref pn, .ref ps, .ref pln, .ref pr, .int (nI num), .int (nI pl)])), (pr, .inl (cA 0, 65, .inl rw)), (ik, .inl (cA 0, 66, .inl rk))] H → va_D A [(ia, .inr (3, [.ref pa, .ref ix, .ref it, .ref ik, .int (nI rt)])), (pa, .inr (4, [.ref pn, .ref ps, .ref pln, .ref pr, .int (nI num), .int (nI pl)])), (pr, .inl (cA 0, 65, .inl rw)), (ik, .inl (cA 0, 66, .inl rk))] → va_S A sG.heap H locs → lv_has ls 4 [(0, .ref ia), (1, .int (nI o)), (2, .int (nI n)), (3, .int (nI i))] → W pG l eG (rm_d 2) sG mG argsG belowG methG cG H locs 0 0 Q (F0 mG 6 ls []) := by
    intro nG
    induction nG using Nat.strongRecOn with
    | ind nG ih6 =>
      intro n i H locs ls hn6 hi1 hi hn hP hD hS hl
      have hcl := cn_le (fun z => o + 1 ≤ z ∧ el_t (ky_c rw) pl z o) i
      rw [← hn] at hcl
      refine lv_iload_n hx hb d_In_rankAmongLater_6 rfl (lv_at hl 3 rfl) ?_
      refine lv_aload_n hx hb d_In_rankAmongLater_7 rfl (lv_at hl 0 rfl) ?_
      refine ck_cV (C := "ReadMapper$Index") (ci := 3) (rest := [.int (nI i)]) (wr := [(pr, .inl (cA 0, 65, .inl rw)), (ik, .inl (cA 0, 66, .inl rk))]) (ws2 := fun u => [(ia, .inr (3, [.ref pa, .ref ix, .ref it, .ref ik, .int (nI rt)])), (pa, .inr (4, [.ref pn, .ref ps, .ref pln, .ref pr, .int (nI num), .int (nI pl)])), (pr, .inl (cA 0, 65, .inl rw)), (ik, .inl (cA 0, 66, .inl rk))]) (c_In_places l D cA K ia ix it ik rt pa pn ps pln pr num pl ) hx hb hml hown hts hK hE hA hP hD hS k_In_places m_267 (by decide) 0 rfl rfl rfl hl.1 rfl (Nat.le_of_ble_eq_true rfl) d_In_rankAmongLater_8  [0, 1] [2, 3] [2, 3, 0, 1] rfl rfl (by decide) (fun _ => rfl) (fun r8 u8 H locs hq8 hP hD hS => ?_)
      try dsimp only at hq8
      have hP : va_P D vwCl [(ia, .inr (3, [.ref pa, .ref ix, .ref it, .ref ik, .int (nI rt)])), (pa, .inr (4, [.ref pn, .ref ps, .ref pln, .ref pr, .int (nI num), .int (nI pl)])), (pr, .inl (cA 0, 65, .inl rw)), (ik, .inl (cA 0, 66, .inl rk))] H := hP
      have hD : va_D A [(ia, .inr (3, [.ref pa, .ref ix, .ref it, .ref ik, .int (nI rt)])), (pa, .inr (4, [.ref pn, .ref ps, .ref pln, .ref pr, .int (nI num), .int (nI pl)])), (pr, .inl (cA 0, 65, .inl rw)), (ik, .inl (cA 0, 66, .inl rk))] := hD
      obtain rfl := hq8
      refine wn_icmp_ge (by omega) (by omega) (tgt := 32) hx hb d_In_rankAmongLater_11 (by decide) ?_ ?_
      · intro h11
        have hn2 : n = rk_m (ky_c rw) pl (o + 1) o := by rw [hn, show i = pl by omega]; rfl
        refine lv_iload_n hx hb d_In_rankAmongLater_32 rfl (lv_at hl 1 rfl) ?_
        refine lv_iconst (v := nI 1) hx hb d_In_rankAmongLater_33 (by decide) ?_
        refine wn_iadd hx hb d_In_rankAmongLater_34 ?_
        refine lv_istore_n (lv' := [(3, .int (nI (o + 1))), (0, .ref ia), (1, .int (nI o)), (2, .int (nI n))]) hx hb d_In_rankAmongLater_35 rfl hl (by decide) rfl (fun ls hl => ?_)
        have L36 : ∀ (nG : Nat) (i : Nat) (rk1 : Nat → Int32) (H : Heap) (locs : List Loc) (ls : Array Slot), pl - i = nG → o < i → i ≤ pl → (∀ j, o < j → j < i → rk1 j = nI (rk_m (ky_c rw) pl o j)) → (∀ j, i ≤ j → j < pl → rk1 j = nI (rk_m (ky_c rw) pl (o + 1) j)) → rk1 pl = -1 →  va_P D vwCl [(ia, .inr (3, [.ref pa, .ref ix, .ref it, .ref ik, .int (nI rt)])), (pa, .inr (4, [.ref pn, .ref ps, .ref pln, .ref pr, .int (nI num), .int (nI pl)])), (pr, .inl (cA 0, 65, .inl rw)), (ik, .inl (cA 0, 66, .inl rk1))] H → va_D A [(ia, .inr (3, [.ref pa, .ref ix, .ref it, .ref ik, .int (nI rt)])), (pa, .inr (4, [.ref pn, .ref ps, .ref pln, .ref pr, .int (nI num), .int (nI pl)])), (pr, .inl (cA 0, 65, .inl rw)), (ik, .inl (cA 0, 66, .inl rk1))] → va_S A sG.heap H locs → lv_has ls 4 [(0, .ref ia), (1, .int (nI o)), (2, .int (nI n)), (3, .int (nI i))] → W pG l eG (rm_d 2) sG mG argsG belowG methG cG H locs 0 0 Q (F0 mG 36 ls []) := by
          intro nG
          induction nG using Nat.strongRecOn with
          | ind nG ih36 =>
            intro i rk1 H locs ls hn36 hj1 hj hr1 hr2 hr3 hP hD hS hl
            have hbd : i < pl → rk_m (ky_c rw) pl (o + 1) i + (o + 1) < pl := fun z => rk_bnd z (by omega)
            refine lv_iload_n hx hb d_In_rankAmongLater_36 rfl (lv_at hl 3 rfl) ?_
            refine lv_aload_n hx hb d_In_rankAmongLater_37 rfl (lv_at hl 0 rfl) ?_
            refine ck_cV (C := "ReadMapper$Index") (ci := 3) (rest := [.int (nI i)]) (wr := [(pr, .inl (cA 0, 65, .inl rw)), (ik, .inl (cA 0, 66, .inl rk1))]) (ws2 := fun u => [(ia, .inr (3, [.ref pa, .ref ix, .ref it, .ref ik, .int (nI rt)])), (pa, .inr (4, [.ref pn, .ref ps, .ref pln, .ref pr, .int (nI num), .int (nI pl)])), (pr, .inl (cA 0, 65, .inl rw)), (ik, .inl (cA 0, 66, .inl rk1))]) (c_In_places l D cA K ia ix it ik rt pa pn ps pln pr num pl ) hx hb hml hown hts hK hE hA hP hD hS k_In_places m_267 (by decide) 0 rfl rfl rfl hl.1 rfl (Nat.le_of_ble_eq_true rfl) d_In_rankAmongLater_38  [0, 1] [2, 3] [2, 3, 0, 1] rfl rfl (by decide) (fun _ => rfl) (fun r38 u38 H locs hq38 hP hD hS => ?_)
            try dsimp only at hq38
            have hP : va_P D vwCl [(ia, .inr (3, [.ref pa, .ref ix, .ref it, .ref ik, .int (nI rt)])), (pa, .inr (4, [.ref pn, .ref ps, .ref pln, .ref pr, .int (nI num), .int (nI pl)])), (pr, .inl (cA 0, 65, .inl rw)), (ik, .inl (cA 0, 66, .inl rk1))] H := hP
            have hD : va_D A [(ia, .inr (3, [.ref pa, .ref ix, .ref it, .ref ik, .int (nI rt)])), (pa, .inr (4, [.ref pn, .ref ps, .ref pln, .ref pr, .int (nI num), .int (nI pl)])), (pr, .inl (cA 0, 65, .inl rw)), (ik, .inl (cA 0, 66, .inl rk1))] := hD
            obtain rfl := hq38
            refine wn_icmp_ge (by omega) (by omega) (tgt := 70) hx hb d_In_rankAmongLater_41 (by decide) ?_ ?_
            · intro h41
              refine lv_aload_n hx hb d_In_rankAmongLater_70 rfl (lv_at hl 0 rfl) ?_
              refine va_get (C := RX3) (T := TX3) (N := 5) hx hb hts inX3 hown hK hP 0 rfl rfl 3 (by decide) (hts _ m_89) (fun _ h9 => h9) rfl d_In_rankAmongLater_71 ?_
              refine lv_iload_n hx hb d_In_rankAmongLater_74 rfl (lv_at hl 1 rfl) ?_
              refine lv_iload_n hx hb d_In_rankAmongLater_75 rfl (lv_at hl 2 rfl) ?_
              refine wn_iast hx hb hK hP hD hS 3 0 rfl rfl (by omega) (by omega) d_In_rankAmongLater_76 (fun H locs hP hD hS => ?_)
              have hP : va_P D vwCl [(ia, .inr (3, [.ref pa, .ref ix, .ref it, .ref ik, .int (nI rt)])), (pa, .inr (4, [.ref pn, .ref ps, .ref pln, .ref pr, .int (nI num), .int (nI pl)])), (pr, .inl (cA 0, 65, .inl rw)), (ik, .inl (cA 0, 66, .inl (upd rk1 o (nI n))))] H := hP
              have hD : va_D A [(ia, .inr (3, [.ref pa, .ref ix, .ref it, .ref ik, .int (nI rt)])), (pa, .inr (4, [.ref pn, .ref ps, .ref pln, .ref pr, .int (nI num), .int (nI pl)])), (pr, .inl (cA 0, 65, .inl rw)), (ik, .inl (cA 0, 66, .inl (upd rk1 o (nI n))))] := hD
              exact hret (upd rk1 o (nI n)) _ _ _ 77 d_In_rankAmongLater_77 ⟨fun j h1 h2 => if e : j = o then by subst e; rw [pk_us, hn2, rk_self] else (pk_un e).trans (hr1 j (by omega) (by omega)), (pk_un (by omega)).trans hr3⟩ hP hD hS
            · intro h41
              refine lv_aload_n hx hb d_In_rankAmongLater_44 rfl (lv_at hl 0 rfl) ?_
              refine va_get (C := RX3) (T := TX3) (N := 5) hx hb hts inX3 hown hK hP 0 rfl rfl 3 (by decide) (hts _ m_89) (fun _ h9 => h9) rfl d_In_rankAmongLater_45 ?_
              refine lv_iload_n hx hb d_In_rankAmongLater_48 rfl (lv_at hl 3 rfl) ?_
              refine wn_iald hx hb hK hP 3 0 rfl rfl (by omega) (by omega) d_In_rankAmongLater_49 ?_
              refine wn_eq (y := nI (rk_m (ky_c rw) pl (o + 1) i)) (hr2 i (Nat.le_refl _) h41) ?_
              refine lv_iload_n hx hb d_In_rankAmongLater_50 rfl (lv_at hl 2 rfl) ?_
              refine wn_icmp_lt (by omega) (by omega) (tgt := 64) hx hb d_In_rankAmongLater_51 (by decide) ?_ ?_
              · intro h51
                refine lv_iinc (k := 3) (v := nI (i + 1)) (lv' := [(3, .int (nI (i + 1))), (0, .ref ia), (1, .int (nI o)), (2, .int (nI n))]) hx hb d_In_rankAmongLater_64 hl rfl (wi_inc1 _) (by decide) rfl (fun ls hl => ?_)
                refine lv_goto (tgt := 36) hx hb d_In_rankAmongLater_67 (by decide) ?_
                exact ih36 _ (by omega) (i + 1) rk1 _ _ _ rfl (by first | assumption | omega) (by first | assumption | omega) (fun j h1 h2 => if e : j = i then by subst e; first | (rw [pk_us, rk_new hk ho h41 hj1, if_pos (by omega)]) | (rw [hr2 j (Nat.le_refl _) h41, rk_new hk ho h41 hj1, if_neg (by omega)]; rfl) else by first | exact (pk_un e).trans (hr1 j h1 (by omega)) | exact hr1 j h1 (by omega)) (fun j h1 h2 => by first | exact (pk_un (by omega)).trans (hr2 j (by omega) h2) | exact hr2 j (by omega) h2) (by first | exact (pk_un (by omega)).trans hr3 | exact hr3) hP hD hS (lv_sub hl [1, 2, 3, 0] rfl)
              · intro h51
                refine lv_aload_n hx hb d_In_rankAmongLater_54 rfl (lv_at hl 0 rfl) ?_
                refine va_get (C := RX3) (T := TX3) (N := 5) hx hb hts inX3 hown hK hP 0 rfl rfl 3 (by decide) (hts _ m_89) (fun _ h9 => h9) rfl d_In_rankAmongLater_55 ?_
                refine lv_iload_n hx hb d_In_rankAmongLater_58 rfl (lv_at hl 3 rfl) ?_
                refine lv_dup2_11 hx hb d_In_rankAmongLater_59 rfl rfl ?_
                refine wn_iald hx hb hK hP 3 0 rfl rfl (by omega) (by omega) d_In_rankAmongLater_60 ?_
                refine wn_eq (y := nI (rk_m (ky_c rw) pl (o + 1) i)) (hr2 i (Nat.le_refl _) h41) ?_
                refine lv_iconst (v := nI 1) hx hb d_In_rankAmongLater_61 (by decide) ?_
                refine wn_iadd hx hb d_In_rankAmongLater_62 ?_
                refine wn_iast hx hb hK hP hD hS 3 0 rfl rfl (by omega) (by omega) d_In_rankAmongLater_63 (fun H locs hP hD hS => ?_)
                have hP : va_P D vwCl [(ia, .inr (3, [.ref pa, .ref ix, .ref it, .ref ik, .int (nI rt)])), (pa, .inr (4, [.ref pn, .ref ps, .ref pln, .ref pr, .int (nI num), .int (nI pl)])), (pr, .inl (cA 0, 65, .inl rw)), (ik, .inl (cA 0, 66, .inl (upd rk1 i (nI ((rk_m (ky_c rw) pl (o + 1) i) + 1)))))] H := hP
                have hD : va_D A [(ia, .inr (3, [.ref pa, .ref ix, .ref it, .ref ik, .int (nI rt)])), (pa, .inr (4, [.ref pn, .ref ps, .ref pln, .ref pr, .int (nI num), .int (nI pl)])), (pr, .inl (cA 0, 65, .inl rw)), (ik, .inl (cA 0, 66, .inl (upd rk1 i (nI ((rk_m (ky_c rw) pl (o + 1) i) + 1)))))] := hD
                refine lv_iinc (k := 3) (v := nI (i + 1)) (lv' := [(3, .int (nI (i + 1))), (0, .ref ia), (1, .int (nI o)), (2, .int (nI n))]) hx hb d_In_rankAmongLater_64 hl rfl (wi_inc1 _) (by decide) rfl (fun ls hl => ?_)
                refine lv_goto (tgt := 36) hx hb d_In_rankAmongLater_67 (by decide) ?_
                exact ih36 _ (by omega) (i + 1) (upd rk1 i (nI ((rk_m (ky_c rw) pl (o + 1) i) + 1))) _ _ _ rfl (by first | assumption | omega) (by first | assumption | omega) (fun j h1 h2 => if e : j = i then by subst e; first | (rw [pk_us, rk_new hk ho h41 hj1, if_pos (by omega)]) | (rw [hr2 j (Nat.le_refl _) h41, rk_new hk ho h41 hj1, if_neg (by omega)]; rfl) else by first | exact (pk_un e).trans (hr1 j h1 (by omega)) | exact hr1 j h1 (by omega)) (fun j h1 h2 => by first | exact (pk_un (by omega)).trans (hr2 j (by omega) h2) | exact hr2 j (by omega) h2) (by first | exact (pk_un (by omega)).trans hr3 | exact hr3) hP hD hS (lv_sub hl [1, 2, 3, 0] rfl)
        exact L36 _ (o + 1) rk _ _ _ rfl (by first | assumption | omega) (by first | assumption | omega) (fun j h1 h2 => by omega) (fun j h1 h2 => hrk j (by omega) h2) (by first | assumption | omega) hP hD hS (lv_sub hl [1, 2, 3, 0] rfl)
      · intro h11
        refine lv_aload_n hx hb d_In_rankAmongLater_14 rfl (lv_at hl 0 rfl) ?_
        refine lv_iload_n hx hb d_In_rankAmongLater_15 rfl (lv_at hl 3 rfl) ?_
        refine lv_iload_n hx hb d_In_rankAmongLater_16 rfl (lv_at hl 1 rfl) ?_
        refine ck_cV (C := "ReadMapper$Index") (ci := 3) (rest := []) (wr := []) (ws2 := fun u => [(ia, .inr (3, [.ref pa, .ref ix, .ref it, .ref ik, .int (nI rt)])), (pa, .inr (4, [.ref pn, .ref ps, .ref pln, .ref pr, .int (nI num), .int (nI pl)])), (pr, .inl (cA 0, 65, .inl rw)), (ik, .inl (cA 0, 66, .inl rk))]) (c_In_isLess l D cA K ia ix it ik rt pa pn ps pln pr num pl rw rk i o (by first | assumption | omega) (by first | assumption | omega)) hx hb hml hown hts hK hE hA hP hD hS k_In_isLess m_625 (by decide) 0 rfl rfl rfl hl.1 rfl (Nat.le_of_ble_eq_true rfl) d_In_rankAmongLater_17  [0, 1, 2, 3] [] [0, 1, 2, 3] rfl rfl (by decide) (fun _ => rfl) (fun r17 u17 H locs hq17 hP hD hS => ?_)
        try dsimp only at hq17
        have hP : va_P D vwCl [(ia, .inr (3, [.ref pa, .ref ix, .ref it, .ref ik, .int (nI rt)])), (pa, .inr (4, [.ref pn, .ref ps, .ref pln, .ref pr, .int (nI num), .int (nI pl)])), (pr, .inl (cA 0, 65, .inl rw)), (ik, .inl (cA 0, 66, .inl rk))] H := hP
        have hD : va_D A [(ia, .inr (3, [.ref pa, .ref ix, .ref it, .ref ik, .int (nI rt)])), (pa, .inr (4, [.ref pn, .ref ps, .ref pln, .ref pr, .int (nI num), .int (nI pl)])), (pr, .inl (cA 0, 65, .inl rw)), (ik, .inl (cA 0, 66, .inl rk))] := hD
        rcases hq17 with ⟨rfl, hq17⟩ | ⟨rfl, hq17⟩
        ·
          refine lv_if_eq (tgt := 26) hx hb d_In_rankAmongLater_20 (by decide) (fun h9 => absurd h9 (by decide)) (fun _ => ?_)
          refine lv_iinc (k := 2) (v := nI (n + 1)) (lv' := [(2, .int (nI (n + 1))), (0, .ref ia), (1, .int (nI o)), (3, .int (nI i))]) hx hb d_In_rankAmongLater_23 hl rfl (wi_inc1 _) (by decide) rfl (fun ls hl => ?_)
          refine lv_iinc (k := 3) (v := nI (i + 1)) (lv' := [(3, .int (nI (i + 1))), (2, .int (nI (n + 1))), (0, .ref ia), (1, .int (nI o))]) hx hb d_In_rankAmongLater_26 hl rfl (wi_inc1 _) (by decide) rfl (fun ls hl => ?_)
          refine lv_goto (tgt := 6) hx hb d_In_rankAmongLater_29 (by decide) ?_
          exact ih6 _ (by omega) (n + 1) (i + 1) _ _ _ rfl (by first | assumption | omega) (by first | assumption | omega) (by first | exact (cn_yes (P := fun z => o + 1 ≤ z ∧ el_t (ky_c rw) pl z o) ⟨hi1, (in_less hk hrk hi1 h11 (by omega)).mp hq17⟩).symm ▸ (by rw [hn]) | exact (cn_no (P := fun z => o + 1 ≤ z ∧ el_t (ky_c rw) pl z o) (fun z => hq17 ((in_less hk hrk hi1 h11 (by omega)).mpr z.2))).symm ▸ hn) hP hD hS (lv_sub hl [2, 3, 1, 0] rfl)
        ·
          refine lv_if_eq (tgt := 26) hx hb d_In_rankAmongLater_20 (by decide) (fun _ => ?_) (fun h9 => absurd h9 (by decide))
          refine lv_iinc (k := 3) (v := nI (i + 1)) (lv' := [(3, .int (nI (i + 1))), (0, .ref ia), (1, .int (nI o)), (2, .int (nI n))]) hx hb d_In_rankAmongLater_26 hl rfl (wi_inc1 _) (by decide) rfl (fun ls hl => ?_)
          refine lv_goto (tgt := 6) hx hb d_In_rankAmongLater_29 (by decide) ?_
          exact ih6 _ (by omega) n (i + 1) _ _ _ rfl (by first | assumption | omega) (by first | assumption | omega) (by first | exact (cn_yes (P := fun z => o + 1 ≤ z ∧ el_t (ky_c rw) pl z o) ⟨hi1, (in_less hk hrk hi1 h11 (by omega)).mp hq17⟩).symm ▸ (by rw [hn]) | exact (cn_no (P := fun z => o + 1 ≤ z ∧ el_t (ky_c rw) pl z o) (fun z => hq17 ((in_less hk hrk hi1 h11 (by omega)).mpr z.2))).symm ▸ hn) hP hD hS (lv_sub hl [1, 2, 3, 0] rfl)
  exact L6 _ 0 (o + 1) _ _ _ rfl (by first | assumption | omega) (by first | assumption | omega) (cn_none (fun z hz y => by omega)).symm hP hD hS (lv_sub hl [2, 3, 1, 0] rfl)
theorem k_In_rankAmongLater : cf_V y_In_rankAmongLater b_In_rankAmongLater 4 none "ReadMapper$Index" 1 := ⟨⟨m_623, (wm_s (q := (y_In_rankAmongLater, 5)) (by decide +kernel)), m_3, m_624⟩, by decide +kernel⟩
