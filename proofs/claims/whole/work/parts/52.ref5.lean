/-! the reference: records -/
theorem ch_nI {n : Nat} (h : n < 65536) : ch_p (nI n) := ⟨nI_pos (by omega), by
  have e : (65536 : Int32) = nI 65536 := rfl
  rw [e]
  exact Int32.lt_iff_toInt_lt.mpr (by rw [nI_toInt (by omega), nI_toInt (by omega)]; omega)⟩
theorem lt_ch (x : Int32) : ch_p (lt_c x) := by
  unfold lt_c
  split
  · exact ⟨by decide, by decide⟩
  · split
    · exact ⟨by decide, by decide⟩
    · split
      · exact ⟨by decide, by decide⟩
      · split
        · exact ⟨by decide, by decide⟩
        · split
          · exact ⟨by decide, by decide⟩
          · exact ⟨by decide, by decide⟩
theorem dn_3 {T : List Int32} {v : Nat} (h : 100 ≤ v) : ((T ++ [nI (48 + ((v / 100) % 10))]) ++ [nI (48 + ((v / 10) % 10))]) ++ [nI (48 + ((v / 1) % 10))] = T ++ dg_c v := by
  rw [dg_3 h (by omega), Nat.div_one, List.append_assoc, List.append_assoc]; rfl
theorem dn_2 {T : List Int32} {v : Nat} (h : v < 100) (h2 : 10 ≤ v) : (T ++ [nI (48 + ((v / 10) % 10))]) ++ [nI (48 + ((v / 1) % 10))] = T ++ dg_c v := by
  rw [dg_2 h h2, Nat.div_one, List.append_assoc]; rfl
theorem dn_1 {T : List Int32} {v : Nat} (h : v < 10) : T ++ [nI (48 + ((v / 1) % 10))] = T ++ dg_c v := by
  rw [dg_1 h, Nat.div_one]
theorem tk_get {f : Nat → Int32} {n i : Nat} (h : i < n) : (tk_c f n).getD i 0 = f i := by
  induction n with
  | zero => omega
  | succ n ih =>
    show (tk_c f n ++ [f n]).getD i 0 = f i
    rcases Nat.lt_or_ge i n with z | z
    · rw [gd_app (by rw [tk_len]; exact z)]; exact ih z
    · have e : i = n := by omega
      subst e
      have e2 := gd_last (L := tk_c f i) (x := f i)
      rw [tk_len] at e2; exact e2
/-- the part of a record that a read makes up -/
def sr_c (RL F : List Int32) (gd : Bool) (rn rs sd : Nat) : List Int32 := (if sd = 0 then F else tb_c F 0).map lt_c ++ [9] ++ (if gd = true then (if sd = 0 then sl_p RL (rn + rs + 2) RL.length else (sl_p RL (rn + rs + 2) RL.length).reverse) else [42])
def rq_c (RL : List Int32) (gd : Bool) (rn rs : Nat) : List Int32 := if gd = true then sl_p RL (rn + rs + 2) RL.length else []
theorem sr_1 {RL F : List Int32} {rn rs sd : Nat} (hF : F = (sl_p RL (rn + 1) (rn + 1 + rs)).map sy_c) (h : rn + 1 + rs ≤ RL.length) : tk_c (fun i => lt_c (os_c F sd i)) rs = (if sd = 0 then F else tb_c F 0).map lt_c := by
  have hl := os_ln (sd := sd) (os_len hF h)
  refine li_ext (by rw [tk_len, List.length_map]; exact hl) (fun i hi => ?_)
  rw [tk_len] at hi
  rw [tk_get hi, mp_get (by omega)]; rfl
theorem sr_2 {RL : List Int32} {rn rs sd : Nat} (h : RL.length = rn + rs + 2 + rs) : tk_c (fun i => RL.getD (rn + rs + 2 + (if sd = 0 then i else rs - 1 - i)) 0) rs = if sd = 0 then sl_p RL (rn + rs + 2) RL.length else (sl_p RL (rn + rs + 2) RL.length).reverse := by
  have hl := sl_len (L := RL) (b := rn + rs + 2) (e := RL.length) (Nat.le_refl _)
  by_cases hs : sd = 0
  · rw [if_pos hs]
    refine li_ext (by rw [tk_len, hl]; omega) (fun i hi => ?_)
    rw [tk_len] at hi
    rw [tk_get hi, if_pos hs, sl_get (by omega)]
  · rw [if_neg hs]
    refine li_ext (by rw [tk_len, List.length_reverse, hl]; omega) (fun i hi => ?_)
    rw [tk_len] at hi
    rw [tk_get hi, if_neg hs, List.getD_eq_getElem?_getD (l := (sl_p RL (rn + rs + 2) RL.length).reverse), List.getElem?_reverse (by omega), ← List.getD_eq_getElem?_getD, sl_get (by omega), hl, show RL.length - (rn + rs + 2) - 1 - i = rs - 1 - i by omega]
theorem tq_0 {RL : List Int32} {rn rs sd k : Nat} (h : sd = 0) : tk_c (fun i => RL.getD (rn + rs + 2 + (if sd = 0 then i else rs - 1 - i)) 0) k ++ [RL.getD (((rn + rs) + 2) + k) 0] = tk_c (fun i => RL.getD (rn + rs + 2 + (if sd = 0 then i else rs - 1 - i)) 0) (k + 1) := by
  show _ = _ ++ [RL.getD (rn + rs + 2 + (if sd = 0 then k else rs - 1 - k)) 0]
  rw [if_pos h]
theorem tq_1 {RL : List Int32} {rn rs sd k : Nat} (h : ¬ sd = 0) : tk_c (fun i => RL.getD (rn + rs + 2 + (if sd = 0 then i else rs - 1 - i)) 0) k ++ [RL.getD (((rn + rs) + 2) + ((rs - 1) - k)) 0] = tk_c (fun i => RL.getD (rn + rs + 2 + (if sd = 0 then i else rs - 1 - i)) 0) (k + 1) := by
  show _ = _ ++ [RL.getD (rn + rs + 2 + (if sd = 0 then k else rs - 1 - k)) 0]
  rw [if_neg h]
theorem sr_f {RL F T : List Int32} {rn rs sd : Nat} {gd : Bool} {g : Nat → Int32} (hF : F = (sl_p RL (rn + 1) (rn + 1 + rs)).map sy_c) (h : rn + 1 + rs ≤ RL.length) (hg : gd = false) : (((T ++ tk_c (fun i => lt_c (os_c F sd i)) rs) ++ [9]) ++ tk_c g 0) ++ [42] = T ++ sr_c RL F gd rn rs sd := by
  unfold sr_c
  rw [sr_1 hF h, if_neg (show ¬ gd = true by rw [hg]; decide)]
  show (((T ++ _) ++ [9]) ++ []) ++ [42] = _
  simp only [List.append_assoc, List.nil_append]
theorem sr_t {RL F T : List Int32} {rn rs sd : Nat} {gd : Bool} (hF : F = (sl_p RL (rn + 1) (rn + 1 + rs)).map sy_c) (h : rn + 1 + rs ≤ RL.length) (hg : gd = true) (hq : RL.length = rn + rs + 2 + rs) : ((T ++ tk_c (fun i => lt_c (os_c F sd i)) rs) ++ [9]) ++ tk_c (fun i => RL.getD (rn + rs + 2 + (if sd = 0 then i else rs - 1 - i)) 0) rs = T ++ sr_c RL F gd rn rs sd := by
  unfold sr_c
  rw [sr_1 hF h, if_pos (show gd = true from hg), sr_2 hq]
  simp only [List.append_assoc]
theorem sr_len {RL F : List Int32} {rn rs sd : Nat} {gd : Bool} (hF : F = (sl_p RL (rn + 1) (rn + 1 + rs)).map sy_c) (h : rn + 1 + rs ≤ RL.length) (hq : gd = true → RL.length = rn + rs + 2 + rs) (hr : 1 ≤ rs ∧ rs ≤ 20) : (sr_c RL F gd rn rs sd).length ≤ 41 := by
  have hl := os_ln (sd := sd) (os_len hF h)
  unfold sr_c
  rw [List.length_append, List.length_append, List.length_map, ← hl]
  have e : ([9] : List Int32).length = 1 := rfl
  rw [e]
  cases gd with
  | false =>
    have : (if false = true then (if sd = 0 then sl_p RL (rn + rs + 2) RL.length else (sl_p RL (rn + rs + 2) RL.length).reverse) else [42]).length = 1 := rfl
    rw [this]; omega
  | true =>
    have hz := hq rfl
    rw [if_pos (show true = true from rfl)]
    have : (if sd = 0 then sl_p RL (rn + rs + 2) RL.length else (sl_p RL (rn + rs + 2) RL.length).reverse).length = rs := by
      split
      · rw [sl_len (Nat.le_refl _)]; omega
      · rw [List.length_reverse, sl_len (Nat.le_refl _)]; omega
    rw [this]; omega
theorem mg_b {np xp xo fr k : Nat} {q : Nat → Nat} {bf G : Nat → Int32} (hG : ly_p np q (fun p t => bf (tt_c q p + t)) G) (hxp : xp < np) (hf : fr = tt_c q xp + (xo - 1)) (hk : (xo - 1) + k < q xp) : bf (fr + k) = G (tt_c q xp + xp + (xo - 1) + k) := by
  have y := (hG xp hxp).1 ((xo - 1) + k) hk
  rw [← Nat.add_assoc] at y
  rw [y, hf, Nat.add_assoc _ (xo - 1) k]
theorem mt_d {F : List Int32} {xs k : Nat} {y : Int32} (h1 : ¬ os_c F xs k = 5) (h : ¬ os_c F xs k = y) : ¬ y = (if xs = 0 then F else tb_c F 0).getD k 0 ∨ y = 5 := Or.inl (fun e => h e.symm)
theorem mt_d2 {F : List Int32} {xs k : Nat} {y : Int32} (h : os_c F xs k = 5) : ¬ y = (if xs = 0 then F else tb_c F 0).getD k 0 ∨ y = 5 := by
  by_cases z : y = 5
  · exact Or.inr z
  · exact Or.inl (fun e => z (e.trans h))
theorem mt_e {F : List Int32} {xs k : Nat} {y : Int32} (h1 : ¬ os_c F xs k = 5) (h : os_c F xs k = y) : y = (if xs = 0 then F else tb_c F 0).getD k 0 ∧ ¬ y = 5 := ⟨h.symm, fun e => h1 (h.trans e)⟩

theorem d_Mo_sayNumber_0 : decode b_Mo_sayNumber 0 = .ok (.bipush 100, 2) := by decide +kernel
theorem d_Mo_sayNumber_2 : decode b_Mo_sayNumber 2 = .ok (.istore_n 2, 1) := by decide +kernel
theorem d_Mo_sayNumber_3 : decode b_Mo_sayNumber 3 = .ok (.iload_n 2, 1) := by decide +kernel
theorem d_Mo_sayNumber_4 : decode b_Mo_sayNumber 4 = .ok (.iconst 1, 1) := by decide +kernel
theorem d_Mo_sayNumber_5 : decode b_Mo_sayNumber 5 = .ok (.if_icmp .le 16, 3) := by decide +kernel
theorem d_Mo_sayNumber_8 : decode b_Mo_sayNumber 8 = .ok (.iload_n 1, 1) := by decide +kernel
theorem d_Mo_sayNumber_9 : decode b_Mo_sayNumber 9 = .ok (.iload_n 2, 1) := by decide +kernel
theorem d_Mo_sayNumber_10 : decode b_Mo_sayNumber 10 = .ok (.if_icmp .ge 11, 3) := by decide +kernel
theorem d_Mo_sayNumber_13 : decode b_Mo_sayNumber 13 = .ok (.iload_n 2, 1) := by decide +kernel
theorem d_Mo_sayNumber_14 : decode b_Mo_sayNumber 14 = .ok (.bipush 10, 2) := by decide +kernel
theorem d_Mo_sayNumber_16 : decode b_Mo_sayNumber 16 = .ok (.idiv, 1) := by decide +kernel
theorem d_Mo_sayNumber_17 : decode b_Mo_sayNumber 17 = .ok (.istore_n 2, 1) := by decide +kernel
theorem d_Mo_sayNumber_18 : decode b_Mo_sayNumber 18 = .ok (.goto (-15), 3) := by decide +kernel
theorem d_Mo_sayNumber_21 : decode b_Mo_sayNumber 21 = .ok (.iload_n 2, 1) := by decide +kernel
theorem d_Mo_sayNumber_22 : decode b_Mo_sayNumber 22 = .ok (.ifCond .le 25, 3) := by decide +kernel
theorem d_Mo_sayNumber_25 : decode b_Mo_sayNumber 25 = .ok (.aload_n 0, 1) := by decide +kernel
theorem d_Mo_sayNumber_26 : decode b_Mo_sayNumber 26 = .ok (.bipush 48, 2) := by decide +kernel
theorem d_Mo_sayNumber_28 : decode b_Mo_sayNumber 28 = .ok (.iload_n 1, 1) := by decide +kernel
theorem d_Mo_sayNumber_29 : decode b_Mo_sayNumber 29 = .ok (.iload_n 2, 1) := by decide +kernel
theorem d_Mo_sayNumber_30 : decode b_Mo_sayNumber 30 = .ok (.idiv, 1) := by decide +kernel
theorem d_Mo_sayNumber_31 : decode b_Mo_sayNumber 31 = .ok (.bipush 10, 2) := by decide +kernel
theorem d_Mo_sayNumber_33 : decode b_Mo_sayNumber 33 = .ok (.irem, 1) := by decide +kernel
theorem d_Mo_sayNumber_34 : decode b_Mo_sayNumber 34 = .ok (.iadd, 1) := by decide +kernel
theorem d_Mo_sayNumber_35 : decode b_Mo_sayNumber 35 = .ok (.i2c, 1) := by decide +kernel
theorem d_Mo_sayNumber_36 : decode b_Mo_sayNumber 36 = .ok (.invokevirtual 189, 3) := by decide +kernel
theorem d_Mo_sayNumber_39 : decode b_Mo_sayNumber 39 = .ok (.iload_n 2, 1) := by decide +kernel
theorem d_Mo_sayNumber_40 : decode b_Mo_sayNumber 40 = .ok (.bipush 10, 2) := by decide +kernel
theorem d_Mo_sayNumber_42 : decode b_Mo_sayNumber 42 = .ok (.idiv, 1) := by decide +kernel
theorem d_Mo_sayNumber_43 : decode b_Mo_sayNumber 43 = .ok (.istore_n 2, 1) := by decide +kernel
theorem d_Mo_sayNumber_44 : decode b_Mo_sayNumber 44 = .ok (.goto (-23), 3) := by decide +kernel
theorem d_Mo_sayNumber_47 : decode b_Mo_sayNumber 47 = .ok (.return_, 1) := by decide +kernel
theorem d_Mo_sayNothing_0 : decode b_Mo_sayNothing 0 = .ok (.aload_n 0, 1) := by decide +kernel
theorem d_Mo_sayNothing_1 : decode b_Mo_sayNothing 1 = .ok (.bipush 42, 2) := by decide +kernel
theorem d_Mo_sayNothing_3 : decode b_Mo_sayNothing 3 = .ok (.invokevirtual 189, 3) := by decide +kernel
theorem d_Mo_sayNothing_6 : decode b_Mo_sayNothing 6 = .ok (.aload_n 0, 1) := by decide +kernel
theorem d_Mo_sayNothing_7 : decode b_Mo_sayNothing 7 = .ok (.invokevirtual 197, 3) := by decide +kernel
theorem d_Mo_sayNothing_10 : decode b_Mo_sayNothing 10 = .ok (.aload_n 0, 1) := by decide +kernel
theorem d_Mo_sayNothing_11 : decode b_Mo_sayNothing 11 = .ok (.bipush 48, 2) := by decide +kernel
theorem d_Mo_sayNothing_13 : decode b_Mo_sayNothing 13 = .ok (.invokevirtual 189, 3) := by decide +kernel
theorem d_Mo_sayNothing_16 : decode b_Mo_sayNothing 16 = .ok (.aload_n 0, 1) := by decide +kernel
theorem d_Mo_sayNothing_17 : decode b_Mo_sayNothing 17 = .ok (.invokevirtual 197, 3) := by decide +kernel
theorem d_Mo_sayNothing_20 : decode b_Mo_sayNothing 20 = .ok (.aload_n 0, 1) := by decide +kernel
theorem d_Mo_sayNothing_21 : decode b_Mo_sayNothing 21 = .ok (.bipush 48, 2) := by decide +kernel
theorem d_Mo_sayNothing_23 : decode b_Mo_sayNothing 23 = .ok (.invokevirtual 189, 3) := by decide +kernel
theorem d_Mo_sayNothing_26 : decode b_Mo_sayNothing 26 = .ok (.aload_n 0, 1) := by decide +kernel
theorem d_Mo_sayNothing_27 : decode b_Mo_sayNothing 27 = .ok (.invokevirtual 197, 3) := by decide +kernel
theorem d_Mo_sayNothing_30 : decode b_Mo_sayNothing 30 = .ok (.return_, 1) := by decide +kernel
theorem d_Mo_sayRead_0 : decode b_Mo_sayRead 0 = .ok (.iconst 0, 1) := by decide +kernel
theorem d_Mo_sayRead_1 : decode b_Mo_sayRead 1 = .ok (.istore_n 2, 1) := by decide +kernel
theorem d_Mo_sayRead_2 : decode b_Mo_sayRead 2 = .ok (.iload_n 2, 1) := by decide +kernel
theorem d_Mo_sayRead_3 : decode b_Mo_sayRead 3 = .ok (.aload_n 0, 1) := by decide +kernel
theorem d_Mo_sayRead_4 : decode b_Mo_sayRead 4 = .ok (.getfield 159, 3) := by decide +kernel
theorem d_Mo_sayRead_7 : decode b_Mo_sayRead 7 = .ok (.if_icmp .ge 22, 3) := by decide +kernel
theorem d_Mo_sayRead_10 : decode b_Mo_sayRead 10 = .ok (.aload_n 0, 1) := by decide +kernel
theorem d_Mo_sayRead_11 : decode b_Mo_sayRead 11 = .ok (.aload_n 0, 1) := by decide +kernel
theorem d_Mo_sayRead_12 : decode b_Mo_sayRead 12 = .ok (.iload_n 1, 1) := by decide +kernel
theorem d_Mo_sayRead_13 : decode b_Mo_sayRead 13 = .ok (.iload_n 2, 1) := by decide +kernel
theorem d_Mo_sayRead_14 : decode b_Mo_sayRead 14 = .ok (.invokevirtual 165, 3) := by decide +kernel
theorem d_Mo_sayRead_17 : decode b_Mo_sayRead 17 = .ok (.invokestatic 193, 3) := by decide +kernel
theorem d_Mo_sayRead_20 : decode b_Mo_sayRead 20 = .ok (.invokevirtual 189, 3) := by decide +kernel
theorem d_Mo_sayRead_23 : decode b_Mo_sayRead 23 = .ok (.iinc 2 1, 3) := by decide +kernel
theorem d_Mo_sayRead_26 : decode b_Mo_sayRead 26 = .ok (.goto (-24), 3) := by decide +kernel
theorem d_Mo_sayRead_29 : decode b_Mo_sayRead 29 = .ok (.aload_n 0, 1) := by decide +kernel
theorem d_Mo_sayRead_30 : decode b_Mo_sayRead 30 = .ok (.invokevirtual 197, 3) := by decide +kernel
theorem d_Mo_sayRead_33 : decode b_Mo_sayRead 33 = .ok (.iconst 0, 1) := by decide +kernel
theorem d_Mo_sayRead_34 : decode b_Mo_sayRead 34 = .ok (.istore_n 2, 1) := by decide +kernel
theorem d_Mo_sayRead_35 : decode b_Mo_sayRead 35 = .ok (.iload_n 2, 1) := by decide +kernel
theorem d_Mo_sayRead_36 : decode b_Mo_sayRead 36 = .ok (.aload_n 0, 1) := by decide +kernel
theorem d_Mo_sayRead_37 : decode b_Mo_sayRead 37 = .ok (.getfield 159, 3) := by decide +kernel
theorem d_Mo_sayRead_40 : decode b_Mo_sayRead 40 = .ok (.if_icmp .ge 55, 3) := by decide +kernel
theorem d_Mo_sayRead_43 : decode b_Mo_sayRead 43 = .ok (.aload_n 0, 1) := by decide +kernel
theorem d_Mo_sayRead_44 : decode b_Mo_sayRead 44 = .ok (.getfield 173, 3) := by decide +kernel
theorem d_Mo_sayRead_47 : decode b_Mo_sayRead 47 = .ok (.ifCond .eq 48, 3) := by decide +kernel
theorem d_Mo_sayRead_50 : decode b_Mo_sayRead 50 = .ok (.aload_n 0, 1) := by decide +kernel
theorem d_Mo_sayRead_51 : decode b_Mo_sayRead 51 = .ok (.getfield 156, 3) := by decide +kernel
theorem d_Mo_sayRead_54 : decode b_Mo_sayRead 54 = .ok (.aload_n 0, 1) := by decide +kernel
theorem d_Mo_sayRead_55 : decode b_Mo_sayRead 55 = .ok (.getfield 159, 3) := by decide +kernel
theorem d_Mo_sayRead_58 : decode b_Mo_sayRead 58 = .ok (.iadd, 1) := by decide +kernel
theorem d_Mo_sayRead_59 : decode b_Mo_sayRead 59 = .ok (.iconst 2, 1) := by decide +kernel
theorem d_Mo_sayRead_60 : decode b_Mo_sayRead 60 = .ok (.iadd, 1) := by decide +kernel
theorem d_Mo_sayRead_61 : decode b_Mo_sayRead 61 = .ok (.iload_n 1, 1) := by decide +kernel
theorem d_Mo_sayRead_62 : decode b_Mo_sayRead 62 = .ok (.ifCond .ne 7, 3) := by decide +kernel
theorem d_Mo_sayRead_65 : decode b_Mo_sayRead 65 = .ok (.iload_n 2, 1) := by decide +kernel
theorem d_Mo_sayRead_66 : decode b_Mo_sayRead 66 = .ok (.goto 11, 3) := by decide +kernel
theorem d_Mo_sayRead_69 : decode b_Mo_sayRead 69 = .ok (.aload_n 0, 1) := by decide +kernel
theorem d_Mo_sayRead_70 : decode b_Mo_sayRead 70 = .ok (.getfield 159, 3) := by decide +kernel
theorem d_Mo_sayRead_73 : decode b_Mo_sayRead 73 = .ok (.iconst 1, 1) := by decide +kernel
theorem d_Mo_sayRead_74 : decode b_Mo_sayRead 74 = .ok (.isub, 1) := by decide +kernel
theorem d_Mo_sayRead_75 : decode b_Mo_sayRead 75 = .ok (.iload_n 2, 1) := by decide +kernel
theorem d_Mo_sayRead_76 : decode b_Mo_sayRead 76 = .ok (.isub, 1) := by decide +kernel
theorem d_Mo_sayRead_77 : decode b_Mo_sayRead 77 = .ok (.iadd, 1) := by decide +kernel
theorem d_Mo_sayRead_78 : decode b_Mo_sayRead 78 = .ok (.istore_n 3, 1) := by decide +kernel
theorem d_Mo_sayRead_79 : decode b_Mo_sayRead 79 = .ok (.aload_n 0, 1) := by decide +kernel
theorem d_Mo_sayRead_80 : decode b_Mo_sayRead 80 = .ok (.aload_n 0, 1) := by decide +kernel
theorem d_Mo_sayRead_81 : decode b_Mo_sayRead 81 = .ok (.getfield 35, 3) := by decide +kernel
theorem d_Mo_sayRead_84 : decode b_Mo_sayRead 84 = .ok (.iload_n 3, 1) := by decide +kernel
theorem d_Mo_sayRead_85 : decode b_Mo_sayRead 85 = .ok (.caload, 1) := by decide +kernel
theorem d_Mo_sayRead_86 : decode b_Mo_sayRead 86 = .ok (.invokevirtual 189, 3) := by decide +kernel
theorem d_Mo_sayRead_89 : decode b_Mo_sayRead 89 = .ok (.iinc 2 1, 3) := by decide +kernel
theorem d_Mo_sayRead_92 : decode b_Mo_sayRead 92 = .ok (.goto (-57), 3) := by decide +kernel
theorem d_Mo_sayRead_95 : decode b_Mo_sayRead 95 = .ok (.aload_n 0, 1) := by decide +kernel
theorem d_Mo_sayRead_96 : decode b_Mo_sayRead 96 = .ok (.getfield 173, 3) := by decide +kernel
theorem d_Mo_sayRead_99 : decode b_Mo_sayRead 99 = .ok (.ifCond .ne 9, 3) := by decide +kernel
theorem d_Mo_sayRead_102 : decode b_Mo_sayRead 102 = .ok (.aload_n 0, 1) := by decide +kernel
theorem d_Mo_sayRead_103 : decode b_Mo_sayRead 103 = .ok (.bipush 42, 2) := by decide +kernel
theorem d_Mo_sayRead_105 : decode b_Mo_sayRead 105 = .ok (.invokevirtual 189, 3) := by decide +kernel
theorem d_Mo_sayRead_108 : decode b_Mo_sayRead 108 = .ok (.return_, 1) := by decide +kernel
theorem d_Mo_sayMismatches_0 : decode b_Mo_sayMismatches 0 = .ok (.aload_n 0, 1) := by decide +kernel
theorem d_Mo_sayMismatches_1 : decode b_Mo_sayMismatches 1 = .ok (.getfield 41, 3) := by decide +kernel
theorem d_Mo_sayMismatches_4 : decode b_Mo_sayMismatches 4 = .ok (.iload_n 1, 1) := by decide +kernel
theorem d_Mo_sayMismatches_5 : decode b_Mo_sayMismatches 5 = .ok (.iaload, 1) := by decide +kernel
theorem d_Mo_sayMismatches_6 : decode b_Mo_sayMismatches 6 = .ok (.iconst 1, 1) := by decide +kernel
theorem d_Mo_sayMismatches_7 : decode b_Mo_sayMismatches 7 = .ok (.isub, 1) := by decide +kernel
theorem d_Mo_sayMismatches_8 : decode b_Mo_sayMismatches 8 = .ok (.istore_n 2, 1) := by decide +kernel
theorem d_Mo_sayMismatches_9 : decode b_Mo_sayMismatches 9 = .ok (.iconst 0, 1) := by decide +kernel
theorem d_Mo_sayMismatches_10 : decode b_Mo_sayMismatches 10 = .ok (.istore_n 3, 1) := by decide +kernel
theorem d_Mo_sayMismatches_11 : decode b_Mo_sayMismatches 11 = .ok (.iload_n 3, 1) := by decide +kernel
theorem d_Mo_sayMismatches_12 : decode b_Mo_sayMismatches 12 = .ok (.aload_n 0, 1) := by decide +kernel
theorem d_Mo_sayMismatches_13 : decode b_Mo_sayMismatches 13 = .ok (.getfield 38, 3) := by decide +kernel
theorem d_Mo_sayMismatches_16 : decode b_Mo_sayMismatches 16 = .ok (.iload_n 1, 1) := by decide +kernel
theorem d_Mo_sayMismatches_17 : decode b_Mo_sayMismatches 17 = .ok (.iaload, 1) := by decide +kernel
theorem d_Mo_sayMismatches_18 : decode b_Mo_sayMismatches 18 = .ok (.if_icmp .ge 18, 3) := by decide +kernel
theorem d_Mo_sayMismatches_21 : decode b_Mo_sayMismatches 21 = .ok (.iload_n 2, 1) := by decide +kernel
theorem d_Mo_sayMismatches_22 : decode b_Mo_sayMismatches 22 = .ok (.aload_n 0, 1) := by decide +kernel
theorem d_Mo_sayMismatches_23 : decode b_Mo_sayMismatches 23 = .ok (.getfield 20, 3) := by decide +kernel
theorem d_Mo_sayMismatches_26 : decode b_Mo_sayMismatches 26 = .ok (.iload_n 3, 1) := by decide +kernel
theorem d_Mo_sayMismatches_27 : decode b_Mo_sayMismatches 27 = .ok (.iaload, 1) := by decide +kernel
theorem d_Mo_sayMismatches_28 : decode b_Mo_sayMismatches 28 = .ok (.iadd, 1) := by decide +kernel
theorem d_Mo_sayMismatches_29 : decode b_Mo_sayMismatches 29 = .ok (.istore_n 2, 1) := by decide +kernel
theorem d_Mo_sayMismatches_30 : decode b_Mo_sayMismatches 30 = .ok (.iinc 3 1, 3) := by decide +kernel
theorem d_Mo_sayMismatches_33 : decode b_Mo_sayMismatches 33 = .ok (.goto (-22), 3) := by decide +kernel
theorem d_Mo_sayMismatches_36 : decode b_Mo_sayMismatches 36 = .ok (.iconst 0, 1) := by decide +kernel
theorem d_Mo_sayMismatches_37 : decode b_Mo_sayMismatches 37 = .ok (.istore_n 3, 1) := by decide +kernel
theorem d_Mo_sayMismatches_38 : decode b_Mo_sayMismatches 38 = .ok (.iconst 0, 1) := by decide +kernel
theorem d_Mo_sayMismatches_39 : decode b_Mo_sayMismatches 39 = .ok (.istore 4, 2) := by decide +kernel
theorem d_Mo_sayMismatches_41 : decode b_Mo_sayMismatches 41 = .ok (.iload 4, 2) := by decide +kernel
theorem d_Mo_sayMismatches_43 : decode b_Mo_sayMismatches 43 = .ok (.aload_n 0, 1) := by decide +kernel
theorem d_Mo_sayMismatches_44 : decode b_Mo_sayMismatches 44 = .ok (.getfield 159, 3) := by decide +kernel
theorem d_Mo_sayMismatches_47 : decode b_Mo_sayMismatches 47 = .ok (.if_icmp .ge 72, 3) := by decide +kernel
theorem d_Mo_sayMismatches_50 : decode b_Mo_sayMismatches 50 = .ok (.aload_n 0, 1) := by decide +kernel
theorem d_Mo_sayMismatches_51 : decode b_Mo_sayMismatches 51 = .ok (.aload_n 0, 1) := by decide +kernel
theorem d_Mo_sayMismatches_52 : decode b_Mo_sayMismatches 52 = .ok (.getfield 44, 3) := by decide +kernel
theorem d_Mo_sayMismatches_55 : decode b_Mo_sayMismatches 55 = .ok (.iload_n 1, 1) := by decide +kernel
theorem d_Mo_sayMismatches_56 : decode b_Mo_sayMismatches 56 = .ok (.iaload, 1) := by decide +kernel
theorem d_Mo_sayMismatches_57 : decode b_Mo_sayMismatches 57 = .ok (.iload 4, 2) := by decide +kernel
theorem d_Mo_sayMismatches_59 : decode b_Mo_sayMismatches 59 = .ok (.invokevirtual 165, 3) := by decide +kernel
theorem d_Mo_sayMismatches_62 : decode b_Mo_sayMismatches 62 = .ok (.istore 5, 2) := by decide +kernel
theorem d_Mo_sayMismatches_64 : decode b_Mo_sayMismatches 64 = .ok (.iload 5, 2) := by decide +kernel
theorem d_Mo_sayMismatches_66 : decode b_Mo_sayMismatches 66 = .ok (.iconst 5, 1) := by decide +kernel
theorem d_Mo_sayMismatches_67 : decode b_Mo_sayMismatches 67 = .ok (.if_icmp .eq 17, 3) := by decide +kernel
theorem d_Mo_sayMismatches_70 : decode b_Mo_sayMismatches 70 = .ok (.iload 5, 2) := by decide +kernel
theorem d_Mo_sayMismatches_72 : decode b_Mo_sayMismatches 72 = .ok (.aload_n 0, 1) := by decide +kernel
theorem d_Mo_sayMismatches_73 : decode b_Mo_sayMismatches 73 = .ok (.getfield 23, 3) := by decide +kernel
theorem d_Mo_sayMismatches_76 : decode b_Mo_sayMismatches 76 = .ok (.iload_n 2, 1) := by decide +kernel
theorem d_Mo_sayMismatches_77 : decode b_Mo_sayMismatches 77 = .ok (.iload 4, 2) := by decide +kernel
theorem d_Mo_sayMismatches_79 : decode b_Mo_sayMismatches 79 = .ok (.iadd, 1) := by decide +kernel
theorem d_Mo_sayMismatches_80 : decode b_Mo_sayMismatches 80 = .ok (.iaload, 1) := by decide +kernel
theorem d_Mo_sayMismatches_81 : decode b_Mo_sayMismatches 81 = .ok (.if_icmp .eq 29, 3) := by decide +kernel
theorem d_Mo_sayMismatches_84 : decode b_Mo_sayMismatches 84 = .ok (.aload_n 0, 1) := by decide +kernel
theorem d_Mo_sayMismatches_85 : decode b_Mo_sayMismatches 85 = .ok (.iload_n 3, 1) := by decide +kernel
theorem d_Mo_sayMismatches_86 : decode b_Mo_sayMismatches 86 = .ok (.invokevirtual 200, 3) := by decide +kernel
theorem d_Mo_sayMismatches_89 : decode b_Mo_sayMismatches 89 = .ok (.aload_n 0, 1) := by decide +kernel
theorem d_Mo_sayMismatches_90 : decode b_Mo_sayMismatches 90 = .ok (.aload_n 0, 1) := by decide +kernel
theorem d_Mo_sayMismatches_91 : decode b_Mo_sayMismatches 91 = .ok (.getfield 23, 3) := by decide +kernel
theorem d_Mo_sayMismatches_94 : decode b_Mo_sayMismatches 94 = .ok (.iload_n 2, 1) := by decide +kernel
theorem d_Mo_sayMismatches_95 : decode b_Mo_sayMismatches 95 = .ok (.iload 4, 2) := by decide +kernel
theorem d_Mo_sayMismatches_97 : decode b_Mo_sayMismatches 97 = .ok (.iadd, 1) := by decide +kernel
theorem d_Mo_sayMismatches_98 : decode b_Mo_sayMismatches 98 = .ok (.iaload, 1) := by decide +kernel
theorem d_Mo_sayMismatches_99 : decode b_Mo_sayMismatches 99 = .ok (.invokestatic 193, 3) := by decide +kernel
theorem d_Mo_sayMismatches_102 : decode b_Mo_sayMismatches 102 = .ok (.invokevirtual 189, 3) := by decide +kernel
theorem d_Mo_sayMismatches_105 : decode b_Mo_sayMismatches 105 = .ok (.iconst 0, 1) := by decide +kernel
theorem d_Mo_sayMismatches_106 : decode b_Mo_sayMismatches 106 = .ok (.istore_n 3, 1) := by decide +kernel
theorem d_Mo_sayMismatches_107 : decode b_Mo_sayMismatches 107 = .ok (.goto 6, 3) := by decide +kernel
theorem d_Mo_sayMismatches_110 : decode b_Mo_sayMismatches 110 = .ok (.iinc 3 1, 3) := by decide +kernel
theorem d_Mo_sayMismatches_113 : decode b_Mo_sayMismatches 113 = .ok (.iinc 4 1, 3) := by decide +kernel
theorem d_Mo_sayMismatches_116 : decode b_Mo_sayMismatches 116 = .ok (.goto (-75), 3) := by decide +kernel
theorem d_Mo_sayMismatches_119 : decode b_Mo_sayMismatches 119 = .ok (.aload_n 0, 1) := by decide +kernel
theorem d_Mo_sayMismatches_120 : decode b_Mo_sayMismatches 120 = .ok (.iload_n 3, 1) := by decide +kernel
theorem d_Mo_sayMismatches_121 : decode b_Mo_sayMismatches 121 = .ok (.invokevirtual 200, 3) := by decide +kernel
theorem d_Mo_sayMismatches_124 : decode b_Mo_sayMismatches 124 = .ok (.return_, 1) := by decide +kernel
set_option maxHeartbeats 4000000 in
set_option maxRecDepth 100000 in
theorem c_Mo_sayNumber (l : Launch) (D : va_G) (cA : Nat → ClassId) (K : Nat → Nat) (mo ta aN aS aC aB aR aO aW aD a1 a2 a3 a4 aL aY aM bN bS bC bB bR bO aU : Nat) (rd mp gd : Bool) (zt ir : Int32) (np tot rt pl sg rn rs nh ms ip it il : Nat) (L J : List Int32) (T : List Int32) (lf : Nat → Int32) (v : Nat) (hy : cd_r 240 lf T) (hr : T.length + 3 ≤ 240) (hv : v < 1000) : ck_V l y_Mo_sayNumber (Cond.code y_Mo_sayNumber b_Mo_sayNumber 3 none :: w_all) 2 D cA K [.ref mo, .int (nI v)] [(mo, .inr (8, [.int zt, .int (nI L.length), .ref ta, .int (nI np), .ref aN, .ref aS, .ref aC, .int (nI tot), .ref aB, .int (bz_c rd), .int (nI rt), .int (nI pl), .ref aR, .ref aO, .int (nI sg), .ref aW, .int (bz_c mp), .int (nI rn), .int (nI rs), .int (bz_c gd), .ref aD, .int (nI nh), .ref a1, .ref a2, .ref a3, .ref a4, .int (nI T.length), .ref aL, .int (nI J.length), .ref aY, .int (nI ms), .ref aM, .int (nI ip), .int (nI it), .int ir, .int (nI il), .ref bN, .ref bS, .ref bC, .ref bB, .ref bR, .ref bO, .ref aU])), (aL, .inl (cA 1, 240, .inl lf))] (fun (u : Nat → Int32) => cd_r 240 u (T ++ dg_c v)) (fun u => [(mo, .inr (8, [.int zt, .int (nI L.length), .ref ta, .int (nI np), .ref aN, .ref aS, .ref aC, .int (nI tot), .ref aB, .int (bz_c rd), .int (nI rt), .int (nI pl), .ref aR, .ref aO, .int (nI sg), .ref aW, .int (bz_c mp), .int (nI rn), .int (nI rs), .int (bz_c gd), .ref aD, .int (nI nh), .ref a1, .ref a2, .ref a3, .ref a4, .int (nI ((T ++ dg_c v).length)), .ref aL, .int (nI J.length), .ref aY, .int (nI ms), .ref aM, .int (nI ip), .int (nI it), .int ir, .int (nI il), .ref bN, .ref bS, .ref bC, .ref bB, .ref bR, .ref bO, .ref aU])), (aL, .inl (cA 1, 240, .inl u))]) := by
  refine ck_mkV (by decide) (Nat.le_of_ble_eq_true rfl) ?_
  intro pG eG sG mG argsG belowG methG cG Q A H locs ls hx hb hml hown hts hK hE hA hP hD hS hl hret
  have hl : lv_has ls 3 [(0, .ref mo), (1, .int (nI v))] := hl
  refine lv_bipush (v := nI 100) hx hb d_Mo_sayNumber_0 (by decide) ?_
  refine lv_istore_n (lv' := [(2, .int (nI 100)), (0, .ref mo), (1, .int (nI v))]) hx hb d_Mo_sayNumber_2 rfl hl (by decide) rfl (fun ls hl => ?_)
  refine lv_iload_n hx hb d_Mo_sayNumber_3 rfl (lv_at hl 0 rfl) ?_
  refine lv_iconst (v := nI 1) hx hb d_Mo_sayNumber_4 (by decide) ?_
  refine lv_icmp_le (tgt := 21) hx hb d_Mo_sayNumber_5 (by decide) (fun h9 => absurd h9 (by decide)) (fun _ => ?_)
  refine lv_iload_n hx hb d_Mo_sayNumber_8 rfl (lv_at hl 2 rfl) ?_
  refine lv_iload_n hx hb d_Mo_sayNumber_9 rfl (lv_at hl 0 rfl) ?_
  refine wn_icmp_ge (by omega) (by omega) (tgt := 21) hx hb d_Mo_sayNumber_10 (by decide) ?_ ?_
  · intro h10
    refine lv_iload_n hx hb d_Mo_sayNumber_21 rfl (lv_at hl 0 rfl) ?_
    refine lv_if_le (tgt := 47) hx hb d_Mo_sayNumber_22 (by decide) (fun h9 => absurd h9 (by decide)) (fun _ => ?_)
    refine lv_aload_n hx hb d_Mo_sayNumber_25 rfl (lv_at hl 1 rfl) ?_
    refine lv_bipush (v := nI 48) hx hb d_Mo_sayNumber_26 (by decide) ?_
    refine lv_iload_n hx hb d_Mo_sayNumber_28 rfl (lv_at hl 2 rfl) ?_
    refine lv_iload_n hx hb d_Mo_sayNumber_29 rfl (lv_at hl 0 rfl) ?_
    refine wn_idiv (by omega) (by omega) (by omega) hx hb d_Mo_sayNumber_30 ?_
    refine lv_bipush (v := nI 10) hx hb d_Mo_sayNumber_31 (by decide) ?_
    refine wn_irem (by omega) (by omega) (by omega) hx hb d_Mo_sayNumber_33 ?_
    refine wn_iadd hx hb d_Mo_sayNumber_34 ?_
    refine lv_i2c (v := nI (48 + ((v / 100) % 10))) hx hb d_Mo_sayNumber_35 (ch_c (ch_nI (by omega))) ?_
    refine ck_cVv (C := "ReadMapperModel") (ci := 8) (rest := []) (wr := []) (ws2 := fun u => [(mo, .inr (8, [.int zt, .int (nI L.length), .ref ta, .int (nI np), .ref aN, .ref aS, .ref aC, .int (nI tot), .ref aB, .int (bz_c rd), .int (nI rt), .int (nI pl), .ref aR, .ref aO, .int (nI sg), .ref aW, .int (bz_c mp), .int (nI rn), .int (nI rs), .int (bz_c gd), .ref aD, .int (nI nh), .ref a1, .ref a2, .ref a3, .ref a4, .int (nI ((T ++ [(nI (48 + ((v / 100) % 10)))]).length)), .ref aL, .int (nI J.length), .ref aY, .int (nI ms), .ref aM, .int (nI ip), .int (nI it), .int ir, .int (nI il), .ref bN, .ref bS, .ref bC, .ref bB, .ref bR, .ref bO, .ref aU])), (aL, .inl (cA 1, 240, .inl u))]) (c_Mo_say l D cA K mo ta aN aS aC aB aR aO aW aD a1 a2 a3 a4 aL aY aM bN bS bC bB bR bO aU rd mp gd zt ir np tot rt pl sg rn rs nh ms ip it il L J T lf (nI (48 + ((v / 100) % 10))) (by first | assumption | omega) (by first | omega | (simp only [List.length_append, List.length_cons, List.length_nil]; omega)) (ch_nI (by omega))) hx hb hml hown hts hK hE hA hP hD hS k_Mo_say m_1098 (by decide) 0 rfl rfl rfl hl.1 rfl (Nat.le_of_ble_eq_true rfl) d_Mo_sayNumber_36  [0, 1] [] [0, 1] rfl rfl (by decide) (fun _ => rfl) (fun u36 H locs hq36 hP hD hS => ?_)
    obtain ⟨lf2_36, rfl⟩ : ∃ z, z = u36 := ⟨_, rfl⟩
    try dsimp only at hq36
    have hP : va_P D vwCl [(mo, .inr (8, [.int zt, .int (nI L.length), .ref ta, .int (nI np), .ref aN, .ref aS, .ref aC, .int (nI tot), .ref aB, .int (bz_c rd), .int (nI rt), .int (nI pl), .ref aR, .ref aO, .int (nI sg), .ref aW, .int (bz_c mp), .int (nI rn), .int (nI rs), .int (bz_c gd), .ref aD, .int (nI nh), .ref a1, .ref a2, .ref a3, .ref a4, .int (nI ((T ++ [(nI (48 + ((v / 100) % 10)))]).length)), .ref aL, .int (nI J.length), .ref aY, .int (nI ms), .ref aM, .int (nI ip), .int (nI it), .int ir, .int (nI il), .ref bN, .ref bS, .ref bC, .ref bB, .ref bR, .ref bO, .ref aU])), (aL, .inl (cA 1, 240, .inl lf2_36))] H := hP
    have hD : va_D A [(mo, .inr (8, [.int zt, .int (nI L.length), .ref ta, .int (nI np), .ref aN, .ref aS, .ref aC, .int (nI tot), .ref aB, .int (bz_c rd), .int (nI rt), .int (nI pl), .ref aR, .ref aO, .int (nI sg), .ref aW, .int (bz_c mp), .int (nI rn), .int (nI rs), .int (bz_c gd), .ref aD, .int (nI nh), .ref a1, .ref a2, .ref a3, .ref a4, .int (nI ((T ++ [(nI (48 + ((v / 100) % 10)))]).length)), .ref aL, .int (nI J.length), .ref aY, .int (nI ms), .ref aM, .int (nI ip), .int (nI it), .int ir, .int (nI il), .ref bN, .ref bS, .ref bC, .ref bB, .ref bR, .ref bO, .ref aU])), (aL, .inl (cA 1, 240, .inl lf2_36))] := hD
    refine lv_iload_n hx hb d_Mo_sayNumber_39 rfl (lv_at hl 0 rfl) ?_
    refine lv_bipush (v := nI 10) hx hb d_Mo_sayNumber_40 (by decide) ?_
    refine wn_idiv (by omega) (by omega) (by omega) hx hb d_Mo_sayNumber_42 ?_
    refine wn_nat (b := 10) rfl ?_
    refine lv_istore_n (lv' := [(2, .int (nI 10)), (0, .ref mo), (1, .int (nI v))]) hx hb d_Mo_sayNumber_43 rfl hl (by decide) rfl (fun ls hl => ?_)
    refine lv_goto (tgt := 21) hx hb d_Mo_sayNumber_44 (by decide) ?_
    refine lv_iload_n hx hb d_Mo_sayNumber_21 rfl (lv_at hl 0 rfl) ?_
    refine lv_if_le (tgt := 47) hx hb d_Mo_sayNumber_22 (by decide) (fun h9 => absurd h9 (by decide)) (fun _ => ?_)
    refine lv_aload_n hx hb d_Mo_sayNumber_25 rfl (lv_at hl 1 rfl) ?_
    refine lv_bipush (v := nI 48) hx hb d_Mo_sayNumber_26 (by decide) ?_
    refine lv_iload_n hx hb d_Mo_sayNumber_28 rfl (lv_at hl 2 rfl) ?_
    refine lv_iload_n hx hb d_Mo_sayNumber_29 rfl (lv_at hl 0 rfl) ?_
    refine wn_idiv (by omega) (by omega) (by omega) hx hb d_Mo_sayNumber_30 ?_
    refine lv_bipush (v := nI 10) hx hb d_Mo_sayNumber_31 (by decide) ?_
    refine wn_irem (by omega) (by omega) (by omega) hx hb d_Mo_sayNumber_33 ?_
    refine wn_iadd hx hb d_Mo_sayNumber_34 ?_
    refine lv_i2c (v := nI (48 + ((v / 10) % 10))) hx hb d_Mo_sayNumber_35 (ch_c (ch_nI (by omega))) ?_
    refine ck_cVv (C := "ReadMapperModel") (ci := 8) (rest := []) (wr := []) (ws2 := fun u => [(mo, .inr (8, [.int zt, .int (nI L.length), .ref ta, .int (nI np), .ref aN, .ref aS, .ref aC, .int (nI tot), .ref aB, .int (bz_c rd), .int (nI rt), .int (nI pl), .ref aR, .ref aO, .int (nI sg), .ref aW, .int (bz_c mp), .int (nI rn), .int (nI rs), .int (bz_c gd), .ref aD, .int (nI nh), .ref a1, .ref a2, .ref a3, .ref a4, .int (nI (((T ++ [(nI (48 + ((v / 100) % 10)))]) ++ [(nI (48 + ((v / 10) % 10)))]).length)), .ref aL, .int (nI J.length), .ref aY, .int (nI ms), .ref aM, .int (nI ip), .int (nI it), .int ir, .int (nI il), .ref bN, .ref bS, .ref bC, .ref bB, .ref bR, .ref bO, .ref aU])), (aL, .inl (cA 1, 240, .inl u))]) (c_Mo_say l D cA K mo ta aN aS aC aB aR aO aW aD a1 a2 a3 a4 aL aY aM bN bS bC bB bR bO aU rd mp gd zt ir np tot rt pl sg rn rs nh ms ip it il L J (T ++ [(nI (48 + ((v / 100) % 10)))]) lf2_36 (nI (48 + ((v / 10) % 10))) (by first | assumption | omega) (by first | omega | (simp only [List.length_append, List.length_cons, List.length_nil]; omega)) (ch_nI (by omega))) hx hb hml hown hts hK hE hA hP hD hS k_Mo_say m_1098 (by decide) 0 rfl rfl rfl hl.1 rfl (Nat.le_of_ble_eq_true rfl) d_Mo_sayNumber_36  [0, 1] [] [0, 1] rfl rfl (by decide) (fun _ => rfl) (fun u36 H locs hq36 hP hD hS => ?_)
    obtain ⟨lf2_36, rfl⟩ : ∃ z, z = u36 := ⟨_, rfl⟩
    try dsimp only at hq36
    have hP : va_P D vwCl [(mo, .inr (8, [.int zt, .int (nI L.length), .ref ta, .int (nI np), .ref aN, .ref aS, .ref aC, .int (nI tot), .ref aB, .int (bz_c rd), .int (nI rt), .int (nI pl), .ref aR, .ref aO, .int (nI sg), .ref aW, .int (bz_c mp), .int (nI rn), .int (nI rs), .int (bz_c gd), .ref aD, .int (nI nh), .ref a1, .ref a2, .ref a3, .ref a4, .int (nI (((T ++ [(nI (48 + ((v / 100) % 10)))]) ++ [(nI (48 + ((v / 10) % 10)))]).length)), .ref aL, .int (nI J.length), .ref aY, .int (nI ms), .ref aM, .int (nI ip), .int (nI it), .int ir, .int (nI il), .ref bN, .ref bS, .ref bC, .ref bB, .ref bR, .ref bO, .ref aU])), (aL, .inl (cA 1, 240, .inl lf2_36))] H := hP
    have hD : va_D A [(mo, .inr (8, [.int zt, .int (nI L.length), .ref ta, .int (nI np), .ref aN, .ref aS, .ref aC, .int (nI tot), .ref aB, .int (bz_c rd), .int (nI rt), .int (nI pl), .ref aR, .ref aO, .int (nI sg), .ref aW, .int (bz_c mp), .int (nI rn), .int (nI rs), .int (bz_c gd), .ref aD, .int (nI nh), .ref a1, .ref a2, .ref a3, .ref a4, .int (nI (((T ++ [(nI (48 + ((v / 100) % 10)))]) ++ [(nI (48 + ((v / 10) % 10)))]).length)), .ref aL, .int (nI J.length), .ref aY, .int (nI ms), .ref aM, .int (nI ip), .int (nI it), .int ir, .int (nI il), .ref bN, .ref bS, .ref bC, .ref bB, .ref bR, .ref bO, .ref aU])), (aL, .inl (cA 1, 240, .inl lf2_36))] := hD
    refine lv_iload_n hx hb d_Mo_sayNumber_39 rfl (lv_at hl 0 rfl) ?_
    refine lv_bipush (v := nI 10) hx hb d_Mo_sayNumber_40 (by decide) ?_
    refine wn_idiv (by omega) (by omega) (by omega) hx hb d_Mo_sayNumber_42 ?_
    refine wn_nat (b := 1) rfl ?_
    refine lv_istore_n (lv' := [(2, .int (nI 1)), (0, .ref mo), (1, .int (nI v))]) hx hb d_Mo_sayNumber_43 rfl hl (by decide) rfl (fun ls hl => ?_)
    refine lv_goto (tgt := 21) hx hb d_Mo_sayNumber_44 (by decide) ?_
    refine lv_iload_n hx hb d_Mo_sayNumber_21 rfl (lv_at hl 0 rfl) ?_
    refine lv_if_le (tgt := 47) hx hb d_Mo_sayNumber_22 (by decide) (fun h9 => absurd h9 (by decide)) (fun _ => ?_)
    refine lv_aload_n hx hb d_Mo_sayNumber_25 rfl (lv_at hl 1 rfl) ?_
    refine lv_bipush (v := nI 48) hx hb d_Mo_sayNumber_26 (by decide) ?_
    refine lv_iload_n hx hb d_Mo_sayNumber_28 rfl (lv_at hl 2 rfl) ?_
    refine lv_iload_n hx hb d_Mo_sayNumber_29 rfl (lv_at hl 0 rfl) ?_
    refine wn_idiv (by omega) (by omega) (by omega) hx hb d_Mo_sayNumber_30 ?_
    refine lv_bipush (v := nI 10) hx hb d_Mo_sayNumber_31 (by decide) ?_
    refine wn_irem (by omega) (by omega) (by omega) hx hb d_Mo_sayNumber_33 ?_
    refine wn_iadd hx hb d_Mo_sayNumber_34 ?_
    refine lv_i2c (v := nI (48 + ((v / 1) % 10))) hx hb d_Mo_sayNumber_35 (ch_c (ch_nI (by omega))) ?_
    refine ck_cVv (C := "ReadMapperModel") (ci := 8) (rest := []) (wr := []) (ws2 := fun u => [(mo, .inr (8, [.int zt, .int (nI L.length), .ref ta, .int (nI np), .ref aN, .ref aS, .ref aC, .int (nI tot), .ref aB, .int (bz_c rd), .int (nI rt), .int (nI pl), .ref aR, .ref aO, .int (nI sg), .ref aW, .int (bz_c mp), .int (nI rn), .int (nI rs), .int (bz_c gd), .ref aD, .int (nI nh), .ref a1, .ref a2, .ref a3, .ref a4, .int (nI ((((T ++ [(nI (48 + ((v / 100) % 10)))]) ++ [(nI (48 + ((v / 10) % 10)))]) ++ [(nI (48 + ((v / 1) % 10)))]).length)), .ref aL, .int (nI J.length), .ref aY, .int (nI ms), .ref aM, .int (nI ip), .int (nI it), .int ir, .int (nI il), .ref bN, .ref bS, .ref bC, .ref bB, .ref bR, .ref bO, .ref aU])), (aL, .inl (cA 1, 240, .inl u))]) (c_Mo_say l D cA K mo ta aN aS aC aB aR aO aW aD a1 a2 a3 a4 aL aY aM bN bS bC bB bR bO aU rd mp gd zt ir np tot rt pl sg rn rs nh ms ip it il L J ((T ++ [(nI (48 + ((v / 100) % 10)))]) ++ [(nI (48 + ((v / 10) % 10)))]) lf2_36 (nI (48 + ((v / 1) % 10))) (by first | assumption | omega) (by first | omega | (simp only [List.length_append, List.length_cons, List.length_nil]; omega)) (ch_nI (by omega))) hx hb hml hown hts hK hE hA hP hD hS k_Mo_say m_1098 (by decide) 0 rfl rfl rfl hl.1 rfl (Nat.le_of_ble_eq_true rfl) d_Mo_sayNumber_36  [0, 1] [] [0, 1] rfl rfl (by decide) (fun _ => rfl) (fun u36 H locs hq36 hP hD hS => ?_)
    obtain ⟨lf2_36, rfl⟩ : ∃ z, z = u36 := ⟨_, rfl⟩
    try dsimp only at hq36
    have hP : va_P D vwCl [(mo, .inr (8, [.int zt, .int (nI L.length), .ref ta, .int (nI np), .ref aN, .ref aS, .ref aC, .int (nI tot), .ref aB, .int (bz_c rd), .int (nI rt), .int (nI pl), .ref aR, .ref aO, .int (nI sg), .ref aW, .int (bz_c mp), .int (nI rn), .int (nI rs), .int (bz_c gd), .ref aD, .int (nI nh), .ref a1, .ref a2, .ref a3, .ref a4, .int (nI ((((T ++ [(nI (48 + ((v / 100) % 10)))]) ++ [(nI (48 + ((v / 10) % 10)))]) ++ [(nI (48 + ((v / 1) % 10)))]).length)), .ref aL, .int (nI J.length), .ref aY, .int (nI ms), .ref aM, .int (nI ip), .int (nI it), .int ir, .int (nI il), .ref bN, .ref bS, .ref bC, .ref bB, .ref bR, .ref bO, .ref aU])), (aL, .inl (cA 1, 240, .inl lf2_36))] H := hP
    have hD : va_D A [(mo, .inr (8, [.int zt, .int (nI L.length), .ref ta, .int (nI np), .ref aN, .ref aS, .ref aC, .int (nI tot), .ref aB, .int (bz_c rd), .int (nI rt), .int (nI pl), .ref aR, .ref aO, .int (nI sg), .ref aW, .int (bz_c mp), .int (nI rn), .int (nI rs), .int (bz_c gd), .ref aD, .int (nI nh), .ref a1, .ref a2, .ref a3, .ref a4, .int (nI ((((T ++ [(nI (48 + ((v / 100) % 10)))]) ++ [(nI (48 + ((v / 10) % 10)))]) ++ [(nI (48 + ((v / 1) % 10)))]).length)), .ref aL, .int (nI J.length), .ref aY, .int (nI ms), .ref aM, .int (nI ip), .int (nI it), .int ir, .int (nI il), .ref bN, .ref bS, .ref bC, .ref bB, .ref bR, .ref bO, .ref aU])), (aL, .inl (cA 1, 240, .inl lf2_36))] := hD
    refine lv_iload_n hx hb d_Mo_sayNumber_39 rfl (lv_at hl 0 rfl) ?_
    refine lv_bipush (v := nI 10) hx hb d_Mo_sayNumber_40 (by decide) ?_
    refine wn_idiv (by omega) (by omega) (by omega) hx hb d_Mo_sayNumber_42 ?_
    refine wn_nat (b := 0) rfl ?_
    refine lv_istore_n (lv' := [(2, .int (nI 0)), (0, .ref mo), (1, .int (nI v))]) hx hb d_Mo_sayNumber_43 rfl hl (by decide) rfl (fun ls hl => ?_)
    refine lv_goto (tgt := 21) hx hb d_Mo_sayNumber_44 (by decide) ?_
    refine lv_iload_n hx hb d_Mo_sayNumber_21 rfl (lv_at hl 0 rfl) ?_
    refine lv_if_le (tgt := 47) hx hb d_Mo_sayNumber_22 (by decide) (fun _ => ?_) (fun h9 => absurd h9 (by decide))
    have e9 : (((T ++ [(nI (48 + ((v / 100) % 10)))]) ++ [(nI (48 + ((v / 10) % 10)))]) ++ [(nI (48 + ((v / 1) % 10)))]) = T ++ dg_c v := (dn_3 h10)
    rw [e9] at hq36
    have hP : va_P D vwCl [(mo, .inr (8, [.int zt, .int (nI L.length), .ref ta, .int (nI np), .ref aN, .ref aS, .ref aC, .int (nI tot), .ref aB, .int (bz_c rd), .int (nI rt), .int (nI pl), .ref aR, .ref aO, .int (nI sg), .ref aW, .int (bz_c mp), .int (nI rn), .int (nI rs), .int (bz_c gd), .ref aD, .int (nI nh), .ref a1, .ref a2, .ref a3, .ref a4, .int (nI ((T ++ dg_c v).length)), .ref aL, .int (nI J.length), .ref aY, .int (nI ms), .ref aM, .int (nI ip), .int (nI it), .int ir, .int (nI il), .ref bN, .ref bS, .ref bC, .ref bB, .ref bR, .ref bO, .ref aU])), (aL, .inl (cA 1, 240, .inl lf2_36))] H := by rw [e9] at hP; exact hP
    have hD : va_D A [(mo, .inr (8, [.int zt, .int (nI L.length), .ref ta, .int (nI np), .ref aN, .ref aS, .ref aC, .int (nI tot), .ref aB, .int (bz_c rd), .int (nI rt), .int (nI pl), .ref aR, .ref aO, .int (nI sg), .ref aW, .int (bz_c mp), .int (nI rn), .int (nI rs), .int (bz_c gd), .ref aD, .int (nI nh), .ref a1, .ref a2, .ref a3, .ref a4, .int (nI ((T ++ dg_c v).length)), .ref aL, .int (nI J.length), .ref aY, .int (nI ms), .ref aM, .int (nI ip), .int (nI it), .int ir, .int (nI il), .ref bN, .ref bS, .ref bC, .ref bB, .ref bR, .ref bO, .ref aU])), (aL, .inl (cA 1, 240, .inl lf2_36))] := by rw [e9] at hD; exact hD
    exact hret lf2_36 _ _ _ 47 d_Mo_sayNumber_47 hq36 hP hD hS
  · intro h10
    refine lv_iload_n hx hb d_Mo_sayNumber_13 rfl (lv_at hl 0 rfl) ?_
    refine lv_bipush (v := nI 10) hx hb d_Mo_sayNumber_14 (by decide) ?_
    refine wn_idiv (by omega) (by omega) (by omega) hx hb d_Mo_sayNumber_16 ?_
    refine wn_nat (b := 10) rfl ?_
    refine lv_istore_n (lv' := [(2, .int (nI 10)), (0, .ref mo), (1, .int (nI v))]) hx hb d_Mo_sayNumber_17 rfl hl (by decide) rfl (fun ls hl => ?_)
    refine lv_goto (tgt := 3) hx hb d_Mo_sayNumber_18 (by decide) ?_
    refine lv_iload_n hx hb d_Mo_sayNumber_3 rfl (lv_at hl 0 rfl) ?_
    refine lv_iconst (v := nI 1) hx hb d_Mo_sayNumber_4 (by decide) ?_
    refine lv_icmp_le (tgt := 21) hx hb d_Mo_sayNumber_5 (by decide) (fun h9 => absurd h9 (by decide)) (fun _ => ?_)
    refine lv_iload_n hx hb d_Mo_sayNumber_8 rfl (lv_at hl 2 rfl) ?_
    refine lv_iload_n hx hb d_Mo_sayNumber_9 rfl (lv_at hl 0 rfl) ?_
    refine wn_icmp_ge (by omega) (by omega) (tgt := 21) hx hb d_Mo_sayNumber_10 (by decide) ?_ ?_
    · intro h10_2
      refine lv_iload_n hx hb d_Mo_sayNumber_21 rfl (lv_at hl 0 rfl) ?_
      refine lv_if_le (tgt := 47) hx hb d_Mo_sayNumber_22 (by decide) (fun h9 => absurd h9 (by decide)) (fun _ => ?_)
      refine lv_aload_n hx hb d_Mo_sayNumber_25 rfl (lv_at hl 1 rfl) ?_
      refine lv_bipush (v := nI 48) hx hb d_Mo_sayNumber_26 (by decide) ?_
      refine lv_iload_n hx hb d_Mo_sayNumber_28 rfl (lv_at hl 2 rfl) ?_
      refine lv_iload_n hx hb d_Mo_sayNumber_29 rfl (lv_at hl 0 rfl) ?_
      refine wn_idiv (by omega) (by omega) (by omega) hx hb d_Mo_sayNumber_30 ?_
      refine lv_bipush (v := nI 10) hx hb d_Mo_sayNumber_31 (by decide) ?_
      refine wn_irem (by omega) (by omega) (by omega) hx hb d_Mo_sayNumber_33 ?_
      refine wn_iadd hx hb d_Mo_sayNumber_34 ?_
      refine lv_i2c (v := nI (48 + ((v / 10) % 10))) hx hb d_Mo_sayNumber_35 (ch_c (ch_nI (by omega))) ?_
      refine ck_cVv (C := "ReadMapperModel") (ci := 8) (rest := []) (wr := []) (ws2 := fun u => [(mo, .inr (8, [.int zt, .int (nI L.length), .ref ta, .int (nI np), .ref aN, .ref aS, .ref aC, .int (nI tot), .ref aB, .int (bz_c rd), .int (nI rt), .int (nI pl), .ref aR, .ref aO, .int (nI sg), .ref aW, .int (bz_c mp), .int (nI rn), .int (nI rs), .int (bz_c gd), .ref aD, .int (nI nh), .ref a1, .ref a2, .ref a3, .ref a4, .int (nI ((T ++ [(nI (48 + ((v / 10) % 10)))]).length)), .ref aL, .int (nI J.length), .ref aY, .int (nI ms), .ref aM, .int (nI ip), .int (nI it), .int ir, .int (nI il), .ref bN, .ref bS, .ref bC, .ref bB, .ref bR, .ref bO, .ref aU])), (aL, .inl (cA 1, 240, .inl u))]) (c_Mo_say l D cA K mo ta aN aS aC aB aR aO aW aD a1 a2 a3 a4 aL aY aM bN bS bC bB bR bO aU rd mp gd zt ir np tot rt pl sg rn rs nh ms ip it il L J T lf (nI (48 + ((v / 10) % 10))) (by first | assumption | omega) (by first | omega | (simp only [List.length_append, List.length_cons, List.length_nil]; omega)) (ch_nI (by omega))) hx hb hml hown hts hK hE hA hP hD hS k_Mo_say m_1098 (by decide) 0 rfl rfl rfl hl.1 rfl (Nat.le_of_ble_eq_true rfl) d_Mo_sayNumber_36  [0, 1] [] [0, 1] rfl rfl (by decide) (fun _ => rfl) (fun u36 H locs hq36 hP hD hS => ?_)
      obtain ⟨lf2_36, rfl⟩ : ∃ z, z = u36 := ⟨_, rfl⟩
      try dsimp only at hq36
      have hP : va_P D vwCl [(mo, .inr (8, [.int zt, .int (nI L.length), .ref ta, .int (nI np), .ref aN, .ref aS, .ref aC, .int (nI tot), .ref aB, .int (bz_c rd), .int (nI rt), .int (nI pl), .ref aR, .ref aO, .int (nI sg), .ref aW, .int (bz_c mp), .int (nI rn), .int (nI rs), .int (bz_c gd), .ref aD, .int (nI nh), .ref a1, .ref a2, .ref a3, .ref a4, .int (nI ((T ++ [(nI (48 + ((v / 10) % 10)))]).length)), .ref aL, .int (nI J.length), .ref aY, .int (nI ms), .ref aM, .int (nI ip), .int (nI it), .int ir, .int (nI il), .ref bN, .ref bS, .ref bC, .ref bB, .ref bR, .ref bO, .ref aU])), (aL, .inl (cA 1, 240, .inl lf2_36))] H := hP
      have hD : va_D A [(mo, .inr (8, [.int zt, .int (nI L.length), .ref ta, .int (nI np), .ref aN, .ref aS, .ref aC, .int (nI tot), .ref aB, .int (bz_c rd), .int (nI rt), .int (nI pl), .ref aR, .ref aO, .int (nI sg), .ref aW, .int (bz_c mp), .int (nI rn), .int (nI rs), .int (bz_c gd), .ref aD, .int (nI nh), .ref a1, .ref a2, .ref a3, .ref a4, .int (nI ((T ++ [(nI (48 + ((v / 10) % 10)))]).length)), .ref aL, .int (nI J.length), .ref aY, .int (nI ms), .ref aM, .int (nI ip), .int (nI it), .int ir, .int (nI il), .ref bN, .ref bS, .ref bC, .ref bB, .ref bR, .ref bO, .ref aU])), (aL, .inl (cA 1, 240, .inl lf2_36))] := hD
      refine lv_iload_n hx hb d_Mo_sayNumber_39 rfl (lv_at hl 0 rfl) ?_
      refine lv_bipush (v := nI 10) hx hb d_Mo_sayNumber_40 (by decide) ?_
      refine wn_idiv (by omega) (by omega) (by omega) hx hb d_Mo_sayNumber_42 ?_
      refine wn_nat (b := 1) rfl ?_
      refine lv_istore_n (lv' := [(2, .int (nI 1)), (0, .ref mo), (1, .int (nI v))]) hx hb d_Mo_sayNumber_43 rfl hl (by decide) rfl (fun ls hl => ?_)
      refine lv_goto (tgt := 21) hx hb d_Mo_sayNumber_44 (by decide) ?_
      refine lv_iload_n hx hb d_Mo_sayNumber_21 rfl (lv_at hl 0 rfl) ?_
      refine lv_if_le (tgt := 47) hx hb d_Mo_sayNumber_22 (by decide) (fun h9 => absurd h9 (by decide)) (fun _ => ?_)
      refine lv_aload_n hx hb d_Mo_sayNumber_25 rfl (lv_at hl 1 rfl) ?_
      refine lv_bipush (v := nI 48) hx hb d_Mo_sayNumber_26 (by decide) ?_
      refine lv_iload_n hx hb d_Mo_sayNumber_28 rfl (lv_at hl 2 rfl) ?_
      refine lv_iload_n hx hb d_Mo_sayNumber_29 rfl (lv_at hl 0 rfl) ?_
      refine wn_idiv (by omega) (by omega) (by omega) hx hb d_Mo_sayNumber_30 ?_
      refine lv_bipush (v := nI 10) hx hb d_Mo_sayNumber_31 (by decide) ?_
      refine wn_irem (by omega) (by omega) (by omega) hx hb d_Mo_sayNumber_33 ?_
      refine wn_iadd hx hb d_Mo_sayNumber_34 ?_
      refine lv_i2c (v := nI (48 + ((v / 1) % 10))) hx hb d_Mo_sayNumber_35 (ch_c (ch_nI (by omega))) ?_
      refine ck_cVv (C := "ReadMapperModel") (ci := 8) (rest := []) (wr := []) (ws2 := fun u => [(mo, .inr (8, [.int zt, .int (nI L.length), .ref ta, .int (nI np), .ref aN, .ref aS, .ref aC, .int (nI tot), .ref aB, .int (bz_c rd), .int (nI rt), .int (nI pl), .ref aR, .ref aO, .int (nI sg), .ref aW, .int (bz_c mp), .int (nI rn), .int (nI rs), .int (bz_c gd), .ref aD, .int (nI nh), .ref a1, .ref a2, .ref a3, .ref a4, .int (nI (((T ++ [(nI (48 + ((v / 10) % 10)))]) ++ [(nI (48 + ((v / 1) % 10)))]).length)), .ref aL, .int (nI J.length), .ref aY, .int (nI ms), .ref aM, .int (nI ip), .int (nI it), .int ir, .int (nI il), .ref bN, .ref bS, .ref bC, .ref bB, .ref bR, .ref bO, .ref aU])), (aL, .inl (cA 1, 240, .inl u))]) (c_Mo_say l D cA K mo ta aN aS aC aB aR aO aW aD a1 a2 a3 a4 aL aY aM bN bS bC bB bR bO aU rd mp gd zt ir np tot rt pl sg rn rs nh ms ip it il L J (T ++ [(nI (48 + ((v / 10) % 10)))]) lf2_36 (nI (48 + ((v / 1) % 10))) (by first | assumption | omega) (by first | omega | (simp only [List.length_append, List.length_cons, List.length_nil]; omega)) (ch_nI (by omega))) hx hb hml hown hts hK hE hA hP hD hS k_Mo_say m_1098 (by decide) 0 rfl rfl rfl hl.1 rfl (Nat.le_of_ble_eq_true rfl) d_Mo_sayNumber_36  [0, 1] [] [0, 1] rfl rfl (by decide) (fun _ => rfl) (fun u36 H locs hq36 hP hD hS => ?_)
      obtain ⟨lf2_36, rfl⟩ : ∃ z, z = u36 := ⟨_, rfl⟩
      try dsimp only at hq36
      have hP : va_P D vwCl [(mo, .inr (8, [.int zt, .int (nI L.length), .ref ta, .int (nI np), .ref aN, .ref aS, .ref aC, .int (nI tot), .ref aB, .int (bz_c rd), .int (nI rt), .int (nI pl), .ref aR, .ref aO, .int (nI sg), .ref aW, .int (bz_c mp), .int (nI rn), .int (nI rs), .int (bz_c gd), .ref aD, .int (nI nh), .ref a1, .ref a2, .ref a3, .ref a4, .int (nI (((T ++ [(nI (48 + ((v / 10) % 10)))]) ++ [(nI (48 + ((v / 1) % 10)))]).length)), .ref aL, .int (nI J.length), .ref aY, .int (nI ms), .ref aM, .int (nI ip), .int (nI it), .int ir, .int (nI il), .ref bN, .ref bS, .ref bC, .ref bB, .ref bR, .ref bO, .ref aU])), (aL, .inl (cA 1, 240, .inl lf2_36))] H := hP
      have hD : va_D A [(mo, .inr (8, [.int zt, .int (nI L.length), .ref ta, .int (nI np), .ref aN, .ref aS, .ref aC, .int (nI tot), .ref aB, .int (bz_c rd), .int (nI rt), .int (nI pl), .ref aR, .ref aO, .int (nI sg), .ref aW, .int (bz_c mp), .int (nI rn), .int (nI rs), .int (bz_c gd), .ref aD, .int (nI nh), .ref a1, .ref a2, .ref a3, .ref a4, .int (nI (((T ++ [(nI (48 + ((v / 10) % 10)))]) ++ [(nI (48 + ((v / 1) % 10)))]).length)), .ref aL, .int (nI J.length), .ref aY, .int (nI ms), .ref aM, .int (nI ip), .int (nI it), .int ir, .int (nI il), .ref bN, .ref bS, .ref bC, .ref bB, .ref bR, .ref bO, .ref aU])), (aL, .inl (cA 1, 240, .inl lf2_36))] := hD
      refine lv_iload_n hx hb d_Mo_sayNumber_39 rfl (lv_at hl 0 rfl) ?_
      refine lv_bipush (v := nI 10) hx hb d_Mo_sayNumber_40 (by decide) ?_
      refine wn_idiv (by omega) (by omega) (by omega) hx hb d_Mo_sayNumber_42 ?_
      refine wn_nat (b := 0) rfl ?_
      refine lv_istore_n (lv' := [(2, .int (nI 0)), (0, .ref mo), (1, .int (nI v))]) hx hb d_Mo_sayNumber_43 rfl hl (by decide) rfl (fun ls hl => ?_)
      refine lv_goto (tgt := 21) hx hb d_Mo_sayNumber_44 (by decide) ?_
      refine lv_iload_n hx hb d_Mo_sayNumber_21 rfl (lv_at hl 0 rfl) ?_
      refine lv_if_le (tgt := 47) hx hb d_Mo_sayNumber_22 (by decide) (fun _ => ?_) (fun h9 => absurd h9 (by decide))
      have e9 : ((T ++ [(nI (48 + ((v / 10) % 10)))]) ++ [(nI (48 + ((v / 1) % 10)))]) = T ++ dg_c v := (dn_2 (by omega) h10_2)
      rw [e9] at hq36
      have hP : va_P D vwCl [(mo, .inr (8, [.int zt, .int (nI L.length), .ref ta, .int (nI np), .ref aN, .ref aS, .ref aC, .int (nI tot), .ref aB, .int (bz_c rd), .int (nI rt), .int (nI pl), .ref aR, .ref aO, .int (nI sg), .ref aW, .int (bz_c mp), .int (nI rn), .int (nI rs), .int (bz_c gd), .ref aD, .int (nI nh), .ref a1, .ref a2, .ref a3, .ref a4, .int (nI ((T ++ dg_c v).length)), .ref aL, .int (nI J.length), .ref aY, .int (nI ms), .ref aM, .int (nI ip), .int (nI it), .int ir, .int (nI il), .ref bN, .ref bS, .ref bC, .ref bB, .ref bR, .ref bO, .ref aU])), (aL, .inl (cA 1, 240, .inl lf2_36))] H := by rw [e9] at hP; exact hP
      have hD : va_D A [(mo, .inr (8, [.int zt, .int (nI L.length), .ref ta, .int (nI np), .ref aN, .ref aS, .ref aC, .int (nI tot), .ref aB, .int (bz_c rd), .int (nI rt), .int (nI pl), .ref aR, .ref aO, .int (nI sg), .ref aW, .int (bz_c mp), .int (nI rn), .int (nI rs), .int (bz_c gd), .ref aD, .int (nI nh), .ref a1, .ref a2, .ref a3, .ref a4, .int (nI ((T ++ dg_c v).length)), .ref aL, .int (nI J.length), .ref aY, .int (nI ms), .ref aM, .int (nI ip), .int (nI it), .int ir, .int (nI il), .ref bN, .ref bS, .ref bC, .ref bB, .ref bR, .ref bO, .ref aU])), (aL, .inl (cA 1, 240, .inl lf2_36))] := by rw [e9] at hD; exact hD
      exact hret lf2_36 _ _ _ 47 d_Mo_sayNumber_47 hq36 hP hD hS
    · intro h10_2
      refine lv_iload_n hx hb d_Mo_sayNumber_13 rfl (lv_at hl 0 rfl) ?_
      refine lv_bipush (v := nI 10) hx hb d_Mo_sayNumber_14 (by decide) ?_
      refine wn_idiv (by omega) (by omega) (by omega) hx hb d_Mo_sayNumber_16 ?_
      refine wn_nat (b := 1) rfl ?_
      refine lv_istore_n (lv' := [(2, .int (nI 1)), (0, .ref mo), (1, .int (nI v))]) hx hb d_Mo_sayNumber_17 rfl hl (by decide) rfl (fun ls hl => ?_)
      refine lv_goto (tgt := 3) hx hb d_Mo_sayNumber_18 (by decide) ?_
      refine lv_iload_n hx hb d_Mo_sayNumber_3 rfl (lv_at hl 0 rfl) ?_
      refine lv_iconst (v := nI 1) hx hb d_Mo_sayNumber_4 (by decide) ?_
      refine lv_icmp_le (tgt := 21) hx hb d_Mo_sayNumber_5 (by decide) (fun _ => ?_) (fun h9 => absurd h9 (by decide))
      refine lv_iload_n hx hb d_Mo_sayNumber_21 rfl (lv_at hl 0 rfl) ?_
      refine lv_if_le (tgt := 47) hx hb d_Mo_sayNumber_22 (by decide) (fun h9 => absurd h9 (by decide)) (fun _ => ?_)
      refine lv_aload_n hx hb d_Mo_sayNumber_25 rfl (lv_at hl 1 rfl) ?_
      refine lv_bipush (v := nI 48) hx hb d_Mo_sayNumber_26 (by decide) ?_
      refine lv_iload_n hx hb d_Mo_sayNumber_28 rfl (lv_at hl 2 rfl) ?_
      refine lv_iload_n hx hb d_Mo_sayNumber_29 rfl (lv_at hl 0 rfl) ?_
      refine wn_idiv (by omega) (by omega) (by omega) hx hb d_Mo_sayNumber_30 ?_
      refine lv_bipush (v := nI 10) hx hb d_Mo_sayNumber_31 (by decide) ?_
      refine wn_irem (by omega) (by omega) (by omega) hx hb d_Mo_sayNumber_33 ?_
      refine wn_iadd hx hb d_Mo_sayNumber_34 ?_
      refine lv_i2c (v := nI (48 + ((v / 1) % 10))) hx hb d_Mo_sayNumber_35 (ch_c (ch_nI (by omega))) ?_
      refine ck_cVv (C := "ReadMapperModel") (ci := 8) (rest := []) (wr := []) (ws2 := fun u => [(mo, .inr (8, [.int zt, .int (nI L.length), .ref ta, .int (nI np), .ref aN, .ref aS, .ref aC, .int (nI tot), .ref aB, .int (bz_c rd), .int (nI rt), .int (nI pl), .ref aR, .ref aO, .int (nI sg), .ref aW, .int (bz_c mp), .int (nI rn), .int (nI rs), .int (bz_c gd), .ref aD, .int (nI nh), .ref a1, .ref a2, .ref a3, .ref a4, .int (nI ((T ++ [(nI (48 + ((v / 1) % 10)))]).length)), .ref aL, .int (nI J.length), .ref aY, .int (nI ms), .ref aM, .int (nI ip), .int (nI it), .int ir, .int (nI il), .ref bN, .ref bS, .ref bC, .ref bB, .ref bR, .ref bO, .ref aU])), (aL, .inl (cA 1, 240, .inl u))]) (c_Mo_say l D cA K mo ta aN aS aC aB aR aO aW aD a1 a2 a3 a4 aL aY aM bN bS bC bB bR bO aU rd mp gd zt ir np tot rt pl sg rn rs nh ms ip it il L J T lf (nI (48 + ((v / 1) % 10))) (by first | assumption | omega) (by first | omega | (simp only [List.length_append, List.length_cons, List.length_nil]; omega)) (ch_nI (by omega))) hx hb hml hown hts hK hE hA hP hD hS k_Mo_say m_1098 (by decide) 0 rfl rfl rfl hl.1 rfl (Nat.le_of_ble_eq_true rfl) d_Mo_sayNumber_36  [0, 1] [] [0, 1] rfl rfl (by decide) (fun _ => rfl) (fun u36 H locs hq36 hP hD hS => ?_)
      obtain ⟨lf2_36, rfl⟩ : ∃ z, z = u36 := ⟨_, rfl⟩
      try dsimp only at hq36
      have hP : va_P D vwCl [(mo, .inr (8, [.int zt, .int (nI L.length), .ref ta, .int (nI np), .ref aN, .ref aS, .ref aC, .int (nI tot), .ref aB, .int (bz_c rd), .int (nI rt), .int (nI pl), .ref aR, .ref aO, .int (nI sg), .ref aW, .int (bz_c mp), .int (nI rn), .int (nI rs), .int (bz_c gd), .ref aD, .int (nI nh), .ref a1, .ref a2, .ref a3, .ref a4, .int (nI ((T ++ [(nI (48 + ((v / 1) % 10)))]).length)), .ref aL, .int (nI J.length), .ref aY, .int (nI ms), .ref aM, .int (nI ip), .int (nI it), .int ir, .int (nI il), .ref bN, .ref bS, .ref bC, .ref bB, .ref bR, .ref bO, .ref aU])), (aL, .inl (cA 1, 240, .inl lf2_36))] H := hP
      have hD : va_D A [(mo, .inr (8, [.int zt, .int (nI L.length), .ref ta, .int (nI np), .ref aN, .ref aS, .ref aC, .int (nI tot), .ref aB, .int (bz_c rd), .int (nI rt), .int (nI pl), .ref aR, .ref aO, .int (nI sg), .ref aW, .int (bz_c mp), .int (nI rn), .int (nI rs), .int (bz_c gd), .ref aD, .int (nI nh), .ref a1, .ref a2, .ref a3, .ref a4, .int (nI ((T ++ [(nI (48 + ((v / 1) % 10)))]).length)), .ref aL, .int (nI J.length), .ref aY, .int (nI ms), .ref aM, .int (nI ip), .int (nI it), .int ir, .int (nI il), .ref bN, .ref bS, .ref bC, .ref bB, .ref bR, .ref bO, .ref aU])), (aL, .inl (cA 1, 240, .inl lf2_36))] := hD
      refine lv_iload_n hx hb d_Mo_sayNumber_39 rfl (lv_at hl 0 rfl) ?_
      refine lv_bipush (v := nI 10) hx hb d_Mo_sayNumber_40 (by decide) ?_
      refine wn_idiv (by omega) (by omega) (by omega) hx hb d_Mo_sayNumber_42 ?_
      refine wn_nat (b := 0) rfl ?_
      refine lv_istore_n (lv' := [(2, .int (nI 0)), (0, .ref mo), (1, .int (nI v))]) hx hb d_Mo_sayNumber_43 rfl hl (by decide) rfl (fun ls hl => ?_)
      refine lv_goto (tgt := 21) hx hb d_Mo_sayNumber_44 (by decide) ?_
      refine lv_iload_n hx hb d_Mo_sayNumber_21 rfl (lv_at hl 0 rfl) ?_
      refine lv_if_le (tgt := 47) hx hb d_Mo_sayNumber_22 (by decide) (fun _ => ?_) (fun h9 => absurd h9 (by decide))
      have e9 : (T ++ [(nI (48 + ((v / 1) % 10)))]) = T ++ dg_c v := (dn_1 (by omega))
      rw [e9] at hq36
      have hP : va_P D vwCl [(mo, .inr (8, [.int zt, .int (nI L.length), .ref ta, .int (nI np), .ref aN, .ref aS, .ref aC, .int (nI tot), .ref aB, .int (bz_c rd), .int (nI rt), .int (nI pl), .ref aR, .ref aO, .int (nI sg), .ref aW, .int (bz_c mp), .int (nI rn), .int (nI rs), .int (bz_c gd), .ref aD, .int (nI nh), .ref a1, .ref a2, .ref a3, .ref a4, .int (nI ((T ++ dg_c v).length)), .ref aL, .int (nI J.length), .ref aY, .int (nI ms), .ref aM, .int (nI ip), .int (nI it), .int ir, .int (nI il), .ref bN, .ref bS, .ref bC, .ref bB, .ref bR, .ref bO, .ref aU])), (aL, .inl (cA 1, 240, .inl lf2_36))] H := by rw [e9] at hP; exact hP
      have hD : va_D A [(mo, .inr (8, [.int zt, .int (nI L.length), .ref ta, .int (nI np), .ref aN, .ref aS, .ref aC, .int (nI tot), .ref aB, .int (bz_c rd), .int (nI rt), .int (nI pl), .ref aR, .ref aO, .int (nI sg), .ref aW, .int (bz_c mp), .int (nI rn), .int (nI rs), .int (bz_c gd), .ref aD, .int (nI nh), .ref a1, .ref a2, .ref a3, .ref a4, .int (nI ((T ++ dg_c v).length)), .ref aL, .int (nI J.length), .ref aY, .int (nI ms), .ref aM, .int (nI ip), .int (nI it), .int ir, .int (nI il), .ref bN, .ref bS, .ref bC, .ref bB, .ref bR, .ref bO, .ref aU])), (aL, .inl (cA 1, 240, .inl lf2_36))] := by rw [e9] at hD; exact hD
      exact hret lf2_36 _ _ _ 47 d_Mo_sayNumber_47 hq36 hP hD hS
theorem k_Mo_sayNumber : cf_V y_Mo_sayNumber b_Mo_sayNumber 3 none "ReadMapperModel" 1 := ⟨⟨m_1116, (wm_s (q := (y_Mo_sayNumber, 43)) (by decide +kernel)), m_9, m_1117⟩, by decide +kernel⟩
set_option maxHeartbeats 4000000 in
set_option maxRecDepth 100000 in
theorem c_Mo_sayNothing (l : Launch) (D : va_G) (cA : Nat → ClassId) (K : Nat → Nat) (mo ta aN aS aC aB aR aO aW aD a1 a2 a3 a4 aL aY aM bN bS bC bB bR bO aU : Nat) (rd mp gd : Bool) (zt ir : Int32) (np tot rt pl sg rn rs nh ms ip it il : Nat) (L J : List Int32) (T : List Int32) (lf : Nat → Int32) (hy : cd_r 240 lf T) (hr : T.length + 6 ≤ 240) : ck_V l y_Mo_sayNothing (Cond.code y_Mo_sayNothing b_Mo_sayNothing 1 none :: w_all) 3 D cA K [.ref mo] [(mo, .inr (8, [.int zt, .int (nI L.length), .ref ta, .int (nI np), .ref aN, .ref aS, .ref aC, .int (nI tot), .ref aB, .int (bz_c rd), .int (nI rt), .int (nI pl), .ref aR, .ref aO, .int (nI sg), .ref aW, .int (bz_c mp), .int (nI rn), .int (nI rs), .int (bz_c gd), .ref aD, .int (nI nh), .ref a1, .ref a2, .ref a3, .ref a4, .int (nI T.length), .ref aL, .int (nI J.length), .ref aY, .int (nI ms), .ref aM, .int (nI ip), .int (nI it), .int ir, .int (nI il), .ref bN, .ref bS, .ref bC, .ref bB, .ref bR, .ref bO, .ref aU])), (aL, .inl (cA 1, 240, .inl lf))] (fun (u : Nat → Int32) => cd_r 240 u (T ++ [42, 9, 48, 9, 48, 9])) (fun u => [(mo, .inr (8, [.int zt, .int (nI L.length), .ref ta, .int (nI np), .ref aN, .ref aS, .ref aC, .int (nI tot), .ref aB, .int (bz_c rd), .int (nI rt), .int (nI pl), .ref aR, .ref aO, .int (nI sg), .ref aW, .int (bz_c mp), .int (nI rn), .int (nI rs), .int (bz_c gd), .ref aD, .int (nI nh), .ref a1, .ref a2, .ref a3, .ref a4, .int (nI ((T ++ [42, 9, 48, 9, 48, 9]).length)), .ref aL, .int (nI J.length), .ref aY, .int (nI ms), .ref aM, .int (nI ip), .int (nI it), .int ir, .int (nI il), .ref bN, .ref bS, .ref bC, .ref bB, .ref bR, .ref bO, .ref aU])), (aL, .inl (cA 1, 240, .inl u))]) := by
  refine ck_mkV (by decide) (Nat.le_of_ble_eq_true rfl) ?_
  intro pG eG sG mG argsG belowG methG cG Q A H locs ls hx hb hml hown hts hK hE hA hP hD hS hl hret
  have hl : lv_has ls 1 [(0, .ref mo)] := hl
  refine lv_aload_n hx hb d_Mo_sayNothing_0 rfl (lv_at hl 0 rfl) ?_
  refine lv_bipush (v := 42) hx hb d_Mo_sayNothing_1 (by decide) ?_
  refine ck_cVv (C := "ReadMapperModel") (ci := 8) (rest := []) (wr := []) (ws2 := fun u => [(mo, .inr (8, [.int zt, .int (nI L.length), .ref ta, .int (nI np), .ref aN, .ref aS, .ref aC, .int (nI tot), .ref aB, .int (bz_c rd), .int (nI rt), .int (nI pl), .ref aR, .ref aO, .int (nI sg), .ref aW, .int (bz_c mp), .int (nI rn), .int (nI rs), .int (bz_c gd), .ref aD, .int (nI nh), .ref a1, .ref a2, .ref a3, .ref a4, .int (nI ((T ++ [42]).length)), .ref aL, .int (nI J.length), .ref aY, .int (nI ms), .ref aM, .int (nI ip), .int (nI it), .int ir, .int (nI il), .ref bN, .ref bS, .ref bC, .ref bB, .ref bR, .ref bO, .ref aU])), (aL, .inl (cA 1, 240, .inl u))]) (c_Mo_say l D cA K mo ta aN aS aC aB aR aO aW aD a1 a2 a3 a4 aL aY aM bN bS bC bB bR bO aU rd mp gd zt ir np tot rt pl sg rn rs nh ms ip it il L J T lf 42 (by first | assumption | omega) (by first | omega | (simp only [List.length_append, List.length_cons, List.length_nil]; omega)) ⟨by decide, by decide⟩) hx hb hml hown hts hK hE hA hP hD hS k_Mo_say m_1098 (by decide) 0 rfl rfl rfl hl.1 rfl (Nat.le_of_ble_eq_true rfl) d_Mo_sayNothing_3  [0, 1] [] [0, 1] rfl rfl (by decide) (fun _ => rfl) (fun u3 H locs hq3 hP hD hS => ?_)
  obtain ⟨lf2_3, rfl⟩ : ∃ z, z = u3 := ⟨_, rfl⟩
  try dsimp only at hq3
  have hP : va_P D vwCl [(mo, .inr (8, [.int zt, .int (nI L.length), .ref ta, .int (nI np), .ref aN, .ref aS, .ref aC, .int (nI tot), .ref aB, .int (bz_c rd), .int (nI rt), .int (nI pl), .ref aR, .ref aO, .int (nI sg), .ref aW, .int (bz_c mp), .int (nI rn), .int (nI rs), .int (bz_c gd), .ref aD, .int (nI nh), .ref a1, .ref a2, .ref a3, .ref a4, .int (nI ((T ++ [42]).length)), .ref aL, .int (nI J.length), .ref aY, .int (nI ms), .ref aM, .int (nI ip), .int (nI it), .int ir, .int (nI il), .ref bN, .ref bS, .ref bC, .ref bB, .ref bR, .ref bO, .ref aU])), (aL, .inl (cA 1, 240, .inl lf2_3))] H := hP
  have hD : va_D A [(mo, .inr (8, [.int zt, .int (nI L.length), .ref ta, .int (nI np), .ref aN, .ref aS, .ref aC, .int (nI tot), .ref aB, .int (bz_c rd), .int (nI rt), .int (nI pl), .ref aR, .ref aO, .int (nI sg), .ref aW, .int (bz_c mp), .int (nI rn), .int (nI rs), .int (bz_c gd), .ref aD, .int (nI nh), .ref a1, .ref a2, .ref a3, .ref a4, .int (nI ((T ++ [42]).length)), .ref aL, .int (nI J.length), .ref aY, .int (nI ms), .ref aM, .int (nI ip), .int (nI it), .int ir, .int (nI il), .ref bN, .ref bS, .ref bC, .ref bB, .ref bR, .ref bO, .ref aU])), (aL, .inl (cA 1, 240, .inl lf2_3))] := hD
  refine lv_aload_n hx hb d_Mo_sayNothing_6 rfl (lv_at hl 0 rfl) ?_
  refine ck_cVv (C := "ReadMapperModel") (ci := 8) (rest := []) (wr := []) (ws2 := fun u => [(mo, .inr (8, [.int zt, .int (nI L.length), .ref ta, .int (nI np), .ref aN, .ref aS, .ref aC, .int (nI tot), .ref aB, .int (bz_c rd), .int (nI rt), .int (nI pl), .ref aR, .ref aO, .int (nI sg), .ref aW, .int (bz_c mp), .int (nI rn), .int (nI rs), .int (bz_c gd), .ref aD, .int (nI nh), .ref a1, .ref a2, .ref a3, .ref a4, .int (nI (((T ++ [42]) ++ [9]).length)), .ref aL, .int (nI J.length), .ref aY, .int (nI ms), .ref aM, .int (nI ip), .int (nI it), .int ir, .int (nI il), .ref bN, .ref bS, .ref bC, .ref bB, .ref bR, .ref bO, .ref aU])), (aL, .inl (cA 1, 240, .inl u))]) (c_Mo_tab l D cA K mo ta aN aS aC aB aR aO aW aD a1 a2 a3 a4 aL aY aM bN bS bC bB bR bO aU rd mp gd zt ir np tot rt pl sg rn rs nh ms ip it il L J (T ++ [42]) lf2_3 (by first | assumption | omega) (by first | omega | (simp only [List.length_append, List.length_cons, List.length_nil]; omega))) hx hb hml hown hts hK hE hA hP hD hS k_Mo_tab m_1102 (by decide) 0 rfl rfl rfl hl.1 rfl (Nat.le_of_ble_eq_true rfl) d_Mo_sayNothing_7  [0, 1] [] [0, 1] rfl rfl (by decide) (fun _ => rfl) (fun u7 H locs hq7 hP hD hS => ?_)
  obtain ⟨lf2_7, rfl⟩ : ∃ z, z = u7 := ⟨_, rfl⟩
  try dsimp only at hq7
  have hP : va_P D vwCl [(mo, .inr (8, [.int zt, .int (nI L.length), .ref ta, .int (nI np), .ref aN, .ref aS, .ref aC, .int (nI tot), .ref aB, .int (bz_c rd), .int (nI rt), .int (nI pl), .ref aR, .ref aO, .int (nI sg), .ref aW, .int (bz_c mp), .int (nI rn), .int (nI rs), .int (bz_c gd), .ref aD, .int (nI nh), .ref a1, .ref a2, .ref a3, .ref a4, .int (nI (((T ++ [42]) ++ [9]).length)), .ref aL, .int (nI J.length), .ref aY, .int (nI ms), .ref aM, .int (nI ip), .int (nI it), .int ir, .int (nI il), .ref bN, .ref bS, .ref bC, .ref bB, .ref bR, .ref bO, .ref aU])), (aL, .inl (cA 1, 240, .inl lf2_7))] H := hP
  have hD : va_D A [(mo, .inr (8, [.int zt, .int (nI L.length), .ref ta, .int (nI np), .ref aN, .ref aS, .ref aC, .int (nI tot), .ref aB, .int (bz_c rd), .int (nI rt), .int (nI pl), .ref aR, .ref aO, .int (nI sg), .ref aW, .int (bz_c mp), .int (nI rn), .int (nI rs), .int (bz_c gd), .ref aD, .int (nI nh), .ref a1, .ref a2, .ref a3, .ref a4, .int (nI (((T ++ [42]) ++ [9]).length)), .ref aL, .int (nI J.length), .ref aY, .int (nI ms), .ref aM, .int (nI ip), .int (nI it), .int ir, .int (nI il), .ref bN, .ref bS, .ref bC, .ref bB, .ref bR, .ref bO, .ref aU])), (aL, .inl (cA 1, 240, .inl lf2_7))] := hD
  refine lv_aload_n hx hb d_Mo_sayNothing_10 rfl (lv_at hl 0 rfl) ?_
  refine lv_bipush (v := 48) hx hb d_Mo_sayNothing_11 (by decide) ?_
  refine ck_cVv (C := "ReadMapperModel") (ci := 8) (rest := []) (wr := []) (ws2 := fun u => [(mo, .inr (8, [.int zt, .int (nI L.length), .ref ta, .int (nI np), .ref aN, .ref aS, .ref aC, .int (nI tot), .ref aB, .int (bz_c rd), .int (nI rt), .int (nI pl), .ref aR, .ref aO, .int (nI sg), .ref aW, .int (bz_c mp), .int (nI rn), .int (nI rs), .int (bz_c gd), .ref aD, .int (nI nh), .ref a1, .ref a2, .ref a3, .ref a4, .int (nI ((((T ++ [42]) ++ [9]) ++ [48]).length)), .ref aL, .int (nI J.length), .ref aY, .int (nI ms), .ref aM, .int (nI ip), .int (nI it), .int ir, .int (nI il), .ref bN, .ref bS, .ref bC, .ref bB, .ref bR, .ref bO, .ref aU])), (aL, .inl (cA 1, 240, .inl u))]) (c_Mo_say l D cA K mo ta aN aS aC aB aR aO aW aD a1 a2 a3 a4 aL aY aM bN bS bC bB bR bO aU rd mp gd zt ir np tot rt pl sg rn rs nh ms ip it il L J ((T ++ [42]) ++ [9]) lf2_7 48 (by first | assumption | omega) (by first | omega | (simp only [List.length_append, List.length_cons, List.length_nil]; omega)) ⟨by decide, by decide⟩) hx hb hml hown hts hK hE hA hP hD hS k_Mo_say m_1098 (by decide) 0 rfl rfl rfl hl.1 rfl (Nat.le_of_ble_eq_true rfl) d_Mo_sayNothing_13  [0, 1] [] [0, 1] rfl rfl (by decide) (fun _ => rfl) (fun u13 H locs hq13 hP hD hS => ?_)
  obtain ⟨lf2_13, rfl⟩ : ∃ z, z = u13 := ⟨_, rfl⟩
  try dsimp only at hq13
  have hP : va_P D vwCl [(mo, .inr (8, [.int zt, .int (nI L.length), .ref ta, .int (nI np), .ref aN, .ref aS, .ref aC, .int (nI tot), .ref aB, .int (bz_c rd), .int (nI rt), .int (nI pl), .ref aR, .ref aO, .int (nI sg), .ref aW, .int (bz_c mp), .int (nI rn), .int (nI rs), .int (bz_c gd), .ref aD, .int (nI nh), .ref a1, .ref a2, .ref a3, .ref a4, .int (nI ((((T ++ [42]) ++ [9]) ++ [48]).length)), .ref aL, .int (nI J.length), .ref aY, .int (nI ms), .ref aM, .int (nI ip), .int (nI it), .int ir, .int (nI il), .ref bN, .ref bS, .ref bC, .ref bB, .ref bR, .ref bO, .ref aU])), (aL, .inl (cA 1, 240, .inl lf2_13))] H := hP
  have hD : va_D A [(mo, .inr (8, [.int zt, .int (nI L.length), .ref ta, .int (nI np), .ref aN, .ref aS, .ref aC, .int (nI tot), .ref aB, .int (bz_c rd), .int (nI rt), .int (nI pl), .ref aR, .ref aO, .int (nI sg), .ref aW, .int (bz_c mp), .int (nI rn), .int (nI rs), .int (bz_c gd), .ref aD, .int (nI nh), .ref a1, .ref a2, .ref a3, .ref a4, .int (nI ((((T ++ [42]) ++ [9]) ++ [48]).length)), .ref aL, .int (nI J.length), .ref aY, .int (nI ms), .ref aM, .int (nI ip), .int (nI it), .int ir, .int (nI il), .ref bN, .ref bS, .ref bC, .ref bB, .ref bR, .ref bO, .ref aU])), (aL, .inl (cA 1, 240, .inl lf2_13))] := hD
  refine lv_aload_n hx hb d_Mo_sayNothing_16 rfl (lv_at hl 0 rfl) ?_
  refine ck_cVv (C := "ReadMapperModel") (ci := 8) (rest := []) (wr := []) (ws2 := fun u => [(mo, .inr (8, [.int zt, .int (nI L.length), .ref ta, .int (nI np), .ref aN, .ref aS, .ref aC, .int (nI tot), .ref aB, .int (bz_c rd), .int (nI rt), .int (nI pl), .ref aR, .ref aO, .int (nI sg), .ref aW, .int (bz_c mp), .int (nI rn), .int (nI rs), .int (bz_c gd), .ref aD, .int (nI nh), .ref a1, .ref a2, .ref a3, .ref a4, .int (nI (((((T ++ [42]) ++ [9]) ++ [48]) ++ [9]).length)), .ref aL, .int (nI J.length), .ref aY, .int (nI ms), .ref aM, .int (nI ip), .int (nI it), .int ir, .int (nI il), .ref bN, .ref bS, .ref bC, .ref bB, .ref bR, .ref bO, .ref aU])), (aL, .inl (cA 1, 240, .inl u))]) (c_Mo_tab l D cA K mo ta aN aS aC aB aR aO aW aD a1 a2 a3 a4 aL aY aM bN bS bC bB bR bO aU rd mp gd zt ir np tot rt pl sg rn rs nh ms ip it il L J (((T ++ [42]) ++ [9]) ++ [48]) lf2_13 (by first | assumption | omega) (by first | omega | (simp only [List.length_append, List.length_cons, List.length_nil]; omega))) hx hb hml hown hts hK hE hA hP hD hS k_Mo_tab m_1102 (by decide) 0 rfl rfl rfl hl.1 rfl (Nat.le_of_ble_eq_true rfl) d_Mo_sayNothing_17  [0, 1] [] [0, 1] rfl rfl (by decide) (fun _ => rfl) (fun u17 H locs hq17 hP hD hS => ?_)
  obtain ⟨lf2_17, rfl⟩ : ∃ z, z = u17 := ⟨_, rfl⟩
  try dsimp only at hq17
  have hP : va_P D vwCl [(mo, .inr (8, [.int zt, .int (nI L.length), .ref ta, .int (nI np), .ref aN, .ref aS, .ref aC, .int (nI tot), .ref aB, .int (bz_c rd), .int (nI rt), .int (nI pl), .ref aR, .ref aO, .int (nI sg), .ref aW, .int (bz_c mp), .int (nI rn), .int (nI rs), .int (bz_c gd), .ref aD, .int (nI nh), .ref a1, .ref a2, .ref a3, .ref a4, .int (nI (((((T ++ [42]) ++ [9]) ++ [48]) ++ [9]).length)), .ref aL, .int (nI J.length), .ref aY, .int (nI ms), .ref aM, .int (nI ip), .int (nI it), .int ir, .int (nI il), .ref bN, .ref bS, .ref bC, .ref bB, .ref bR, .ref bO, .ref aU])), (aL, .inl (cA 1, 240, .inl lf2_17))] H := hP
  have hD : va_D A [(mo, .inr (8, [.int zt, .int (nI L.length), .ref ta, .int (nI np), .ref aN, .ref aS, .ref aC, .int (nI tot), .ref aB, .int (bz_c rd), .int (nI rt), .int (nI pl), .ref aR, .ref aO, .int (nI sg), .ref aW, .int (bz_c mp), .int (nI rn), .int (nI rs), .int (bz_c gd), .ref aD, .int (nI nh), .ref a1, .ref a2, .ref a3, .ref a4, .int (nI (((((T ++ [42]) ++ [9]) ++ [48]) ++ [9]).length)), .ref aL, .int (nI J.length), .ref aY, .int (nI ms), .ref aM, .int (nI ip), .int (nI it), .int ir, .int (nI il), .ref bN, .ref bS, .ref bC, .ref bB, .ref bR, .ref bO, .ref aU])), (aL, .inl (cA 1, 240, .inl lf2_17))] := hD
  refine lv_aload_n hx hb d_Mo_sayNothing_20 rfl (lv_at hl 0 rfl) ?_
  refine lv_bipush (v := 48) hx hb d_Mo_sayNothing_21 (by decide) ?_
  refine ck_cVv (C := "ReadMapperModel") (ci := 8) (rest := []) (wr := []) (ws2 := fun u => [(mo, .inr (8, [.int zt, .int (nI L.length), .ref ta, .int (nI np), .ref aN, .ref aS, .ref aC, .int (nI tot), .ref aB, .int (bz_c rd), .int (nI rt), .int (nI pl), .ref aR, .ref aO, .int (nI sg), .ref aW, .int (bz_c mp), .int (nI rn), .int (nI rs), .int (bz_c gd), .ref aD, .int (nI nh), .ref a1, .ref a2, .ref a3, .ref a4, .int (nI ((((((T ++ [42]) ++ [9]) ++ [48]) ++ [9]) ++ [48]).length)), .ref aL, .int (nI J.length), .ref aY, .int (nI ms), .ref aM, .int (nI ip), .int (nI it), .int ir, .int (nI il), .ref bN, .ref bS, .ref bC, .ref bB, .ref bR, .ref bO, .ref aU])), (aL, .inl (cA 1, 240, .inl u))]) (c_Mo_say l D cA K mo ta aN aS aC aB aR aO aW aD a1 a2 a3 a4 aL aY aM bN bS bC bB bR bO aU rd mp gd zt ir np tot rt pl sg rn rs nh ms ip it il L J ((((T ++ [42]) ++ [9]) ++ [48]) ++ [9]) lf2_17 48 (by first | assumption | omega) (by first | omega | (simp only [List.length_append, List.length_cons, List.length_nil]; omega)) ⟨by decide, by decide⟩) hx hb hml hown hts hK hE hA hP hD hS k_Mo_say m_1098 (by decide) 0 rfl rfl rfl hl.1 rfl (Nat.le_of_ble_eq_true rfl) d_Mo_sayNothing_23  [0, 1] [] [0, 1] rfl rfl (by decide) (fun _ => rfl) (fun u23 H locs hq23 hP hD hS => ?_)
  obtain ⟨lf2_23, rfl⟩ : ∃ z, z = u23 := ⟨_, rfl⟩
  try dsimp only at hq23
  have hP : va_P D vwCl [(mo, .inr (8, [.int zt, .int (nI L.length), .ref ta, .int (nI np), .ref aN, .ref aS, .ref aC, .int (nI tot), .ref aB, .int (bz_c rd), .int (nI rt), .int (nI pl), .ref aR, .ref aO, .int (nI sg), .ref aW, .int (bz_c mp), .int (nI rn), .int (nI rs), .int (bz_c gd), .ref aD, .int (nI nh), .ref a1, .ref a2, .ref a3, .ref a4, .int (nI ((((((T ++ [42]) ++ [9]) ++ [48]) ++ [9]) ++ [48]).length)), .ref aL, .int (nI J.length), .ref aY, .int (nI ms), .ref aM, .int (nI ip), .int (nI it), .int ir, .int (nI il), .ref bN, .ref bS, .ref bC, .ref bB, .ref bR, .ref bO, .ref aU])), (aL, .inl (cA 1, 240, .inl lf2_23))] H := hP
  have hD : va_D A [(mo, .inr (8, [.int zt, .int (nI L.length), .ref ta, .int (nI np), .ref aN, .ref aS, .ref aC, .int (nI tot), .ref aB, .int (bz_c rd), .int (nI rt), .int (nI pl), .ref aR, .ref aO, .int (nI sg), .ref aW, .int (bz_c mp), .int (nI rn), .int (nI rs), .int (bz_c gd), .ref aD, .int (nI nh), .ref a1, .ref a2, .ref a3, .ref a4, .int (nI ((((((T ++ [42]) ++ [9]) ++ [48]) ++ [9]) ++ [48]).length)), .ref aL, .int (nI J.length), .ref aY, .int (nI ms), .ref aM, .int (nI ip), .int (nI it), .int ir, .int (nI il), .ref bN, .ref bS, .ref bC, .ref bB, .ref bR, .ref bO, .ref aU])), (aL, .inl (cA 1, 240, .inl lf2_23))] := hD
  refine lv_aload_n hx hb d_Mo_sayNothing_26 rfl (lv_at hl 0 rfl) ?_
  refine ck_cVv (C := "ReadMapperModel") (ci := 8) (rest := []) (wr := []) (ws2 := fun u => [(mo, .inr (8, [.int zt, .int (nI L.length), .ref ta, .int (nI np), .ref aN, .ref aS, .ref aC, .int (nI tot), .ref aB, .int (bz_c rd), .int (nI rt), .int (nI pl), .ref aR, .ref aO, .int (nI sg), .ref aW, .int (bz_c mp), .int (nI rn), .int (nI rs), .int (bz_c gd), .ref aD, .int (nI nh), .ref a1, .ref a2, .ref a3, .ref a4, .int (nI (((((((T ++ [42]) ++ [9]) ++ [48]) ++ [9]) ++ [48]) ++ [9]).length)), .ref aL, .int (nI J.length), .ref aY, .int (nI ms), .ref aM, .int (nI ip), .int (nI it), .int ir, .int (nI il), .ref bN, .ref bS, .ref bC, .ref bB, .ref bR, .ref bO, .ref aU])), (aL, .inl (cA 1, 240, .inl u))]) (c_Mo_tab l D cA K mo ta aN aS aC aB aR aO aW aD a1 a2 a3 a4 aL aY aM bN bS bC bB bR bO aU rd mp gd zt ir np tot rt pl sg rn rs nh ms ip it il L J (((((T ++ [42]) ++ [9]) ++ [48]) ++ [9]) ++ [48]) lf2_23 (by first | assumption | omega) (by first | omega | (simp only [List.length_append, List.length_cons, List.length_nil]; omega))) hx hb hml hown hts hK hE hA hP hD hS k_Mo_tab m_1102 (by decide) 0 rfl rfl rfl hl.1 rfl (Nat.le_of_ble_eq_true rfl) d_Mo_sayNothing_27  [0, 1] [] [0, 1] rfl rfl (by decide) (fun _ => rfl) (fun u27 H locs hq27 hP hD hS => ?_)
  obtain ⟨lf2_27, rfl⟩ : ∃ z, z = u27 := ⟨_, rfl⟩
  try dsimp only at hq27
  have hP : va_P D vwCl [(mo, .inr (8, [.int zt, .int (nI L.length), .ref ta, .int (nI np), .ref aN, .ref aS, .ref aC, .int (nI tot), .ref aB, .int (bz_c rd), .int (nI rt), .int (nI pl), .ref aR, .ref aO, .int (nI sg), .ref aW, .int (bz_c mp), .int (nI rn), .int (nI rs), .int (bz_c gd), .ref aD, .int (nI nh), .ref a1, .ref a2, .ref a3, .ref a4, .int (nI (((((((T ++ [42]) ++ [9]) ++ [48]) ++ [9]) ++ [48]) ++ [9]).length)), .ref aL, .int (nI J.length), .ref aY, .int (nI ms), .ref aM, .int (nI ip), .int (nI it), .int ir, .int (nI il), .ref bN, .ref bS, .ref bC, .ref bB, .ref bR, .ref bO, .ref aU])), (aL, .inl (cA 1, 240, .inl lf2_27))] H := hP
  have hD : va_D A [(mo, .inr (8, [.int zt, .int (nI L.length), .ref ta, .int (nI np), .ref aN, .ref aS, .ref aC, .int (nI tot), .ref aB, .int (bz_c rd), .int (nI rt), .int (nI pl), .ref aR, .ref aO, .int (nI sg), .ref aW, .int (bz_c mp), .int (nI rn), .int (nI rs), .int (bz_c gd), .ref aD, .int (nI nh), .ref a1, .ref a2, .ref a3, .ref a4, .int (nI (((((((T ++ [42]) ++ [9]) ++ [48]) ++ [9]) ++ [48]) ++ [9]).length)), .ref aL, .int (nI J.length), .ref aY, .int (nI ms), .ref aM, .int (nI ip), .int (nI it), .int ir, .int (nI il), .ref bN, .ref bS, .ref bC, .ref bB, .ref bR, .ref bO, .ref aU])), (aL, .inl (cA 1, 240, .inl lf2_27))] := hD
  have e9 : ((((((T ++ [42]) ++ [9]) ++ [48]) ++ [9]) ++ [48]) ++ [9]) = T ++ [42, 9, 48, 9, 48, 9] := (by simp only [List.append_assoc, List.cons_append, List.nil_append])
  rw [e9] at hq27
  have hP : va_P D vwCl [(mo, .inr (8, [.int zt, .int (nI L.length), .ref ta, .int (nI np), .ref aN, .ref aS, .ref aC, .int (nI tot), .ref aB, .int (bz_c rd), .int (nI rt), .int (nI pl), .ref aR, .ref aO, .int (nI sg), .ref aW, .int (bz_c mp), .int (nI rn), .int (nI rs), .int (bz_c gd), .ref aD, .int (nI nh), .ref a1, .ref a2, .ref a3, .ref a4, .int (nI ((T ++ [42, 9, 48, 9, 48, 9]).length)), .ref aL, .int (nI J.length), .ref aY, .int (nI ms), .ref aM, .int (nI ip), .int (nI it), .int ir, .int (nI il), .ref bN, .ref bS, .ref bC, .ref bB, .ref bR, .ref bO, .ref aU])), (aL, .inl (cA 1, 240, .inl lf2_27))] H := by rw [e9] at hP; exact hP
  have hD : va_D A [(mo, .inr (8, [.int zt, .int (nI L.length), .ref ta, .int (nI np), .ref aN, .ref aS, .ref aC, .int (nI tot), .ref aB, .int (bz_c rd), .int (nI rt), .int (nI pl), .ref aR, .ref aO, .int (nI sg), .ref aW, .int (bz_c mp), .int (nI rn), .int (nI rs), .int (bz_c gd), .ref aD, .int (nI nh), .ref a1, .ref a2, .ref a3, .ref a4, .int (nI ((T ++ [42, 9, 48, 9, 48, 9]).length)), .ref aL, .int (nI J.length), .ref aY, .int (nI ms), .ref aM, .int (nI ip), .int (nI it), .int ir, .int (nI il), .ref bN, .ref bS, .ref bC, .ref bB, .ref bR, .ref bO, .ref aU])), (aL, .inl (cA 1, 240, .inl lf2_27))] := by rw [e9] at hD; exact hD
  exact hret lf2_27 _ _ _ 30 d_Mo_sayNothing_30 hq27 hP hD hS
theorem k_Mo_sayNothing : cf_V y_Mo_sayNothing b_Mo_sayNothing 1 none "ReadMapperModel" 0 := ⟨⟨m_1128, (wm_s (q := (y_Mo_sayNothing, 43)) (by decide +kernel)), m_9, m_1129⟩, by decide +kernel⟩
set_option maxHeartbeats 4000000 in
set_option maxRecDepth 100000 in
theorem c_Mo_sayRead (l : Launch) (D : va_G) (cA : Nat → ClassId) (K : Nat → Nat) (mo ta aN aS aC aB aR aO aW aD a1 a2 a3 a4 aL aY aM bN bS bC bB bR bO aU : Nat) (rd mp gd : Bool) (zt ir : Int32) (np tot rt pl sg rn rs nh ms ip it il : Nat) (L J : List Int32) (T : List Int32) (lf : Nat → Int32) (df : Nat → Int32) (RL F : List Int32) (sd : Nat) (hy : cd_r 240 lf T) (hd : cd_r 72 df RL) (hF : F = (sl_p RL (rn + 1) (rn + 1 + rs)).map sy_c) (hrl : rn + 1 + rs ≤ RL.length) (hrs : 1 ≤ rs ∧ rs ≤ 20) (hgq : gd = true → RL.length = rn + rs + 2 + rs) (hch : ∀ j, j < RL.length → ch_p (RL.getD j 0)) (hr : T.length + 41 ≤ 240) (hs1 : sd ≤ 1) : ck_V l y_Mo_sayRead (Cond.code y_Mo_sayRead b_Mo_sayRead 4 none :: w_all) 3 D cA K [.ref mo, .int (nI sd)] [(mo, .inr (8, [.int zt, .int (nI L.length), .ref ta, .int (nI np), .ref aN, .ref aS, .ref aC, .int (nI tot), .ref aB, .int (bz_c rd), .int (nI rt), .int (nI pl), .ref aR, .ref aO, .int (nI sg), .ref aW, .int (bz_c mp), .int (nI rn), .int (nI rs), .int (bz_c gd), .ref aD, .int (nI nh), .ref a1, .ref a2, .ref a3, .ref a4, .int (nI T.length), .ref aL, .int (nI J.length), .ref aY, .int (nI ms), .ref aM, .int (nI ip), .int (nI it), .int ir, .int (nI il), .ref bN, .ref bS, .ref bC, .ref bB, .ref bR, .ref bO, .ref aU])), (aL, .inl (cA 1, 240, .inl lf)), (aD, .inl (cA 1, 72, .inl df))] (fun (u : (Nat → Int32) × (List Int32)) => cd_r 240 u.1 u.2 ∧ u.2 = T ++ sr_c RL F gd rn rs sd) (fun u => [(mo, .inr (8, [.int zt, .int (nI L.length), .ref ta, .int (nI np), .ref aN, .ref aS, .ref aC, .int (nI tot), .ref aB, .int (bz_c rd), .int (nI rt), .int (nI pl), .ref aR, .ref aO, .int (nI sg), .ref aW, .int (bz_c mp), .int (nI rn), .int (nI rs), .int (bz_c gd), .ref aD, .int (nI nh), .ref a1, .ref a2, .ref a3, .ref a4, .int (nI u.2.length), .ref aL, .int (nI J.length), .ref aY, .int (nI ms), .ref aM, .int (nI ip), .int (nI it), .int ir, .int (nI il), .ref bN, .ref bS, .ref bC, .ref bB, .ref bR, .ref bO, .ref aU])), (aL, .inl (cA 1, 240, .inl u.1)), (aD, .inl (cA 1, 72, .inl df))]) := by
  refine ck_mkV (by decide) (Nat.le_of_ble_eq_true rfl) ?_
  intro pG eG sG mG argsG belowG methG cG Q A H locs ls hx hb hml hown hts hK hE hA hP hD hS hl hret
  have hl : lv_has ls 4 [(0, .ref mo), (1, .int (nI sd))] := hl
  have hl1 := cd_len hd
  have hTl := (cd_len hy).1
  refine lv_iconst (v := nI 0) hx hb d_Mo_sayRead_0 (by decide) ?_
  refine lv_istore_n (lv' := [(2, .int (nI 0)), (0, .ref mo), (1, .int (nI sd))]) hx hb d_Mo_sayRead_1 rfl hl (by decide) rfl (fun ls hl => ?_)
  have L2 : ∀ (nG : Nat) (k : Nat) (T1 : List Int32) (lf1 : Nat → Int32) (H : Heap) (locs : List Loc) (ls : Array Slot), rs - k = nG → (k ≤ rs) → (T1 = T ++ tk_c (fun i => lt_c (os_c F sd i)) k) → (cd_r 240 lf1 T1) →  va_P D vwCl [(mo, .inr (8, [.int zt, .int (nI L.length), .ref ta, .int (nI np), .ref aN, .ref aS, .ref aC, .int (nI tot), .ref aB, .int (bz_c rd), .int (nI rt), .int (nI pl), .ref aR, .ref aO, .int (nI sg), .ref aW, .int (bz_c mp), .int (nI rn), .int (nI rs), .int (bz_c gd), .ref aD, .int (nI nh), .ref a1, .ref a2, .ref a3, .ref a4, .int (nI T1.length), .ref aL, .int (nI J.length), .ref aY, .int (nI ms), .ref aM, .int (nI ip), .int (nI it), .int ir, .int (nI il), .ref bN, .ref bS, .ref bC, .ref bB, .ref bR, .ref bO, .ref aU])), (aL, .inl (cA 1, 240, .inl lf1)), (aD, .inl (cA 1, 72, .inl df))] H → va_D A [(mo, .inr (8, [.int zt, .int (nI L.length), .ref ta, .int (nI np), .ref aN, .ref aS, .ref aC, .int (nI tot), .ref aB, .int (bz_c rd), .int (nI rt), .int (nI pl), .ref aR, .ref aO, .int (nI sg), .ref aW, .int (bz_c mp), .int (nI rn), .int (nI rs), .int (bz_c gd), .ref aD, .int (nI nh), .ref a1, .ref a2, .ref a3, .ref a4, .int (nI T1.length), .ref aL, .int (nI J.length), .ref aY, .int (nI ms), .ref aM, .int (nI ip), .int (nI it), .int ir, .int (nI il), .ref bN, .ref bS, .ref bC, .ref bB, .ref bR, .ref bO, .ref aU])), (aL, .inl (cA 1, 240, .inl lf1)), (aD, .inl (cA 1, 72, .inl df))] → va_S A sG.heap H locs → lv_has ls 4 [(0, .ref mo), (1, .int (nI sd)), (2, .int (nI k))] → W pG l eG (rm_d 3) sG mG argsG belowG methG cG H locs 0 0 Q (F0 mG 2 ls []) := by
    intro nG
    induction nG using Nat.strongRecOn with
    | ind nG ih2 =>
      intro k T1 lf1 H locs ls hn2 hk hT1 hy1 hP hD hS hl
      have hT1l := congrArg List.length hT1
      rw [List.length_append, tk_len] at hT1l
      refine lv_iload_n hx hb d_Mo_sayRead_2 rfl (lv_at hl 2 rfl) ?_
      refine lv_aload_n hx hb d_Mo_sayRead_3 rfl (lv_at hl 0 rfl) ?_
      refine va_get (C := RX8) (T := TX8) (N := 43) hx hb hts inX8 hown hK hP 0 rfl rfl 18 (by decide) (hts _ m_863) (fun _ h9 => h9) rfl d_Mo_sayRead_4 ?_
      refine wn_icmp_ge (by omega) (by omega) (tgt := 29) hx hb d_Mo_sayRead_7 (by decide) ?_ ?_
      · intro h7
        refine lv_aload_n hx hb d_Mo_sayRead_29 rfl (lv_at hl 0 rfl) ?_
        refine ck_cVv (C := "ReadMapperModel") (ci := 8) (rest := []) (wr := [(aD, .inl (cA 1, 72, .inl df))]) (ws2 := fun u => [(mo, .inr (8, [.int zt, .int (nI L.length), .ref ta, .int (nI np), .ref aN, .ref aS, .ref aC, .int (nI tot), .ref aB, .int (bz_c rd), .int (nI rt), .int (nI pl), .ref aR, .ref aO, .int (nI sg), .ref aW, .int (bz_c mp), .int (nI rn), .int (nI rs), .int (bz_c gd), .ref aD, .int (nI nh), .ref a1, .ref a2, .ref a3, .ref a4, .int (nI ((T1 ++ [9]).length)), .ref aL, .int (nI J.length), .ref aY, .int (nI ms), .ref aM, .int (nI ip), .int (nI it), .int ir, .int (nI il), .ref bN, .ref bS, .ref bC, .ref bB, .ref bR, .ref bO, .ref aU])), (aL, .inl (cA 1, 240, .inl u)), (aD, .inl (cA 1, 72, .inl df))]) (c_Mo_tab l D cA K mo ta aN aS aC aB aR aO aW aD a1 a2 a3 a4 aL aY aM bN bS bC bB bR bO aU rd mp gd zt ir np tot rt pl sg rn rs nh ms ip it il L J T1 lf1 (by first | assumption | omega) (by first | omega | (simp only [List.length_append, List.length_cons, List.length_nil]; omega))) hx hb hml hown hts hK hE hA hP hD hS k_Mo_tab m_1102 (by decide) 0 rfl rfl rfl hl.1 rfl (Nat.le_of_ble_eq_true rfl) d_Mo_sayRead_30  [0, 1] [2] [1, 2, 0] rfl rfl (by decide) (fun _ => rfl) (fun u30 H locs hq30 hP hD hS => ?_)
        obtain ⟨lf2_30, rfl⟩ : ∃ z, z = u30 := ⟨_, rfl⟩
        try dsimp only at hq30
        have hP : va_P D vwCl [(mo, .inr (8, [.int zt, .int (nI L.length), .ref ta, .int (nI np), .ref aN, .ref aS, .ref aC, .int (nI tot), .ref aB, .int (bz_c rd), .int (nI rt), .int (nI pl), .ref aR, .ref aO, .int (nI sg), .ref aW, .int (bz_c mp), .int (nI rn), .int (nI rs), .int (bz_c gd), .ref aD, .int (nI nh), .ref a1, .ref a2, .ref a3, .ref a4, .int (nI ((T1 ++ [9]).length)), .ref aL, .int (nI J.length), .ref aY, .int (nI ms), .ref aM, .int (nI ip), .int (nI it), .int ir, .int (nI il), .ref bN, .ref bS, .ref bC, .ref bB, .ref bR, .ref bO, .ref aU])), (aL, .inl (cA 1, 240, .inl lf2_30)), (aD, .inl (cA 1, 72, .inl df))] H := hP
        have hD : va_D A [(mo, .inr (8, [.int zt, .int (nI L.length), .ref ta, .int (nI np), .ref aN, .ref aS, .ref aC, .int (nI tot), .ref aB, .int (bz_c rd), .int (nI rt), .int (nI pl), .ref aR, .ref aO, .int (nI sg), .ref aW, .int (bz_c mp), .int (nI rn), .int (nI rs), .int (bz_c gd), .ref aD, .int (nI nh), .ref a1, .ref a2, .ref a3, .ref a4, .int (nI ((T1 ++ [9]).length)), .ref aL, .int (nI J.length), .ref aY, .int (nI ms), .ref aM, .int (nI ip), .int (nI it), .int ir, .int (nI il), .ref bN, .ref bS, .ref bC, .ref bB, .ref bR, .ref bO, .ref aU])), (aL, .inl (cA 1, 240, .inl lf2_30)), (aD, .inl (cA 1, 72, .inl df))] := hD
        refine lv_iconst (v := nI 0) hx hb d_Mo_sayRead_33 (by decide) ?_
        refine lv_istore_n (lv' := [(2, .int (nI 0)), (0, .ref mo), (1, .int (nI sd))]) hx hb d_Mo_sayRead_34 rfl hl (by decide) rfl (fun ls hl => ?_)
        have L35 : ∀ (nG : Nat) (k3 : Nat) (T3 : List Int32) (lf1 : Nat → Int32) (H : Heap) (locs : List Loc) (ls : Array Slot), rs - k3 = nG → (k3 ≤ rs) → (gd = false → k3 = 0) → (T3 = (T1 ++ [9]) ++ tk_c (fun i => RL.getD (rn + rs + 2 + (if sd = 0 then i else rs - 1 - i)) 0) k3) → (cd_r 240 lf1 T3) →  va_P D vwCl [(mo, .inr (8, [.int zt, .int (nI L.length), .ref ta, .int (nI np), .ref aN, .ref aS, .ref aC, .int (nI tot), .ref aB, .int (bz_c rd), .int (nI rt), .int (nI pl), .ref aR, .ref aO, .int (nI sg), .ref aW, .int (bz_c mp), .int (nI rn), .int (nI rs), .int (bz_c gd), .ref aD, .int (nI nh), .ref a1, .ref a2, .ref a3, .ref a4, .int (nI T3.length), .ref aL, .int (nI J.length), .ref aY, .int (nI ms), .ref aM, .int (nI ip), .int (nI it), .int ir, .int (nI il), .ref bN, .ref bS, .ref bC, .ref bB, .ref bR, .ref bO, .ref aU])), (aL, .inl (cA 1, 240, .inl lf1)), (aD, .inl (cA 1, 72, .inl df))] H → va_D A [(mo, .inr (8, [.int zt, .int (nI L.length), .ref ta, .int (nI np), .ref aN, .ref aS, .ref aC, .int (nI tot), .ref aB, .int (bz_c rd), .int (nI rt), .int (nI pl), .ref aR, .ref aO, .int (nI sg), .ref aW, .int (bz_c mp), .int (nI rn), .int (nI rs), .int (bz_c gd), .ref aD, .int (nI nh), .ref a1, .ref a2, .ref a3, .ref a4, .int (nI T3.length), .ref aL, .int (nI J.length), .ref aY, .int (nI ms), .ref aM, .int (nI ip), .int (nI it), .int ir, .int (nI il), .ref bN, .ref bS, .ref bC, .ref bB, .ref bR, .ref bO, .ref aU])), (aL, .inl (cA 1, 240, .inl lf1)), (aD, .inl (cA 1, 72, .inl df))] → va_S A sG.heap H locs → lv_has ls 4 [(0, .ref mo), (1, .int (nI sd)), (2, .int (nI k3))] → W pG l eG (rm_d 3) sG mG argsG belowG methG cG H locs 0 0 Q (F0 mG 35 ls []) := by
          intro nG
          induction nG using Nat.strongRecOn with
          | ind nG ih35 =>
            intro k3 T3 lf1 H locs ls hn35 hk3 hg0 hT3 hy1 hP hD hS hl
            have hT3l := congrArg List.length hT3
            rw [List.length_append, tk_len, List.length_append] at hT3l
            have e1 : ([9] : List Int32).length = 1 := rfl
            refine lv_iload_n hx hb d_Mo_sayRead_35 rfl (lv_at hl 2 rfl) ?_
            refine lv_aload_n hx hb d_Mo_sayRead_36 rfl (lv_at hl 0 rfl) ?_
            refine va_get (C := RX8) (T := TX8) (N := 43) hx hb hts inX8 hown hK hP 0 rfl rfl 18 (by decide) (hts _ m_863) (fun _ h9 => h9) rfl d_Mo_sayRead_37 ?_
            refine wn_icmp_ge (by omega) (by omega) (tgt := 95) hx hb d_Mo_sayRead_40 (by decide) ?_ ?_
            · intro h40
              refine lv_aload_n hx hb d_Mo_sayRead_95 rfl (lv_at hl 0 rfl) ?_
              refine va_get (C := RX8) (T := TX8) (N := 43) hx hb hts inX8 hown hK hP 0 rfl rfl 19 (by decide) (hts _ m_864) (fun _ h9 => h9) rfl d_Mo_sayRead_96 ?_
              refine lv_if_ne (tgt := 108) hx hb d_Mo_sayRead_99 (by decide) ?_ ?_
              · intro h99
                exact hret (lf1, T3) _ _ _ 108 d_Mo_sayRead_108 (by first | exact ⟨hy1, by rw [hT3, hT1, show k = rs by omega, show k3 = rs by omega]; exact sr_t hF hrl (bz_1 h99) (hgq (bz_1 h99))⟩ | exact absurd (bz_0 h47) (by rw [bz_1 h99]; decide)) hP hD hS
              · intro h99
                refine lv_aload_n hx hb d_Mo_sayRead_102 rfl (lv_at hl 0 rfl) ?_
                refine lv_bipush (v := 42) hx hb d_Mo_sayRead_103 (by decide) ?_
                refine ck_cVv (C := "ReadMapperModel") (ci := 8) (rest := []) (wr := [(aD, .inl (cA 1, 72, .inl df))]) (ws2 := fun u => [(mo, .inr (8, [.int zt, .int (nI L.length), .ref ta, .int (nI np), .ref aN, .ref aS, .ref aC, .int (nI tot), .ref aB, .int (bz_c rd), .int (nI rt), .int (nI pl), .ref aR, .ref aO, .int (nI sg), .ref aW, .int (bz_c mp), .int (nI rn), .int (nI rs), .int (bz_c gd), .ref aD, .int (nI nh), .ref a1, .ref a2, .ref a3, .ref a4, .int (nI ((T3 ++ [42]).length)), .ref aL, .int (nI J.length), .ref aY, .int (nI ms), .ref aM, .int (nI ip), .int (nI it), .int ir, .int (nI il), .ref bN, .ref bS, .ref bC, .ref bB, .ref bR, .ref bO, .ref aU])), (aL, .inl (cA 1, 240, .inl u)), (aD, .inl (cA 1, 72, .inl df))]) (c_Mo_say l D cA K mo ta aN aS aC aB aR aO aW aD a1 a2 a3 a4 aL aY aM bN bS bC bB bR bO aU rd mp gd zt ir np tot rt pl sg rn rs nh ms ip it il L J T3 lf1 42 (by first | assumption | omega) (by have := hg0 (bz_0 h99); omega) ⟨by decide, by decide⟩) hx hb hml hown hts hK hE hA hP hD hS k_Mo_say m_1098 (by decide) 0 rfl rfl rfl hl.1 rfl (Nat.le_of_ble_eq_true rfl) d_Mo_sayRead_105  [0, 1] [2] [1, 2, 0] rfl rfl (by decide) (fun _ => rfl) (fun u105 H locs hq105 hP hD hS => ?_)
                obtain ⟨lf2_105, rfl⟩ : ∃ z, z = u105 := ⟨_, rfl⟩
                try dsimp only at hq105
                have hP : va_P D vwCl [(mo, .inr (8, [.int zt, .int (nI L.length), .ref ta, .int (nI np), .ref aN, .ref aS, .ref aC, .int (nI tot), .ref aB, .int (bz_c rd), .int (nI rt), .int (nI pl), .ref aR, .ref aO, .int (nI sg), .ref aW, .int (bz_c mp), .int (nI rn), .int (nI rs), .int (bz_c gd), .ref aD, .int (nI nh), .ref a1, .ref a2, .ref a3, .ref a4, .int (nI ((T3 ++ [42]).length)), .ref aL, .int (nI J.length), .ref aY, .int (nI ms), .ref aM, .int (nI ip), .int (nI it), .int ir, .int (nI il), .ref bN, .ref bS, .ref bC, .ref bB, .ref bR, .ref bO, .ref aU])), (aL, .inl (cA 1, 240, .inl lf2_105)), (aD, .inl (cA 1, 72, .inl df))] H := hP
                have hD : va_D A [(mo, .inr (8, [.int zt, .int (nI L.length), .ref ta, .int (nI np), .ref aN, .ref aS, .ref aC, .int (nI tot), .ref aB, .int (bz_c rd), .int (nI rt), .int (nI pl), .ref aR, .ref aO, .int (nI sg), .ref aW, .int (bz_c mp), .int (nI rn), .int (nI rs), .int (bz_c gd), .ref aD, .int (nI nh), .ref a1, .ref a2, .ref a3, .ref a4, .int (nI ((T3 ++ [42]).length)), .ref aL, .int (nI J.length), .ref aY, .int (nI ms), .ref aM, .int (nI ip), .int (nI it), .int ir, .int (nI il), .ref bN, .ref bS, .ref bC, .ref bB, .ref bR, .ref bO, .ref aU])), (aL, .inl (cA 1, 240, .inl lf2_105)), (aD, .inl (cA 1, 72, .inl df))] := hD
                exact hret (lf2_105, T3 ++ [42]) _ _ _ 108 d_Mo_sayRead_108 ⟨hq105, by rw [hT3, hT1, show k = rs by omega, hg0 (bz_0 h99)]; exact sr_f hF hrl (bz_0 h99)⟩ hP hD hS
            · intro h40
              refine lv_aload_n hx hb d_Mo_sayRead_43 rfl (lv_at hl 0 rfl) ?_
              refine va_get (C := RX8) (T := TX8) (N := 43) hx hb hts inX8 hown hK hP 0 rfl rfl 19 (by decide) (hts _ m_864) (fun _ h9 => h9) rfl d_Mo_sayRead_44 ?_
              refine lv_if_eq (tgt := 95) hx hb d_Mo_sayRead_47 (by decide) ?_ ?_
              · intro h47
                refine lv_aload_n hx hb d_Mo_sayRead_95 rfl (lv_at hl 0 rfl) ?_
                refine va_get (C := RX8) (T := TX8) (N := 43) hx hb hts inX8 hown hK hP 0 rfl rfl 19 (by decide) (hts _ m_864) (fun _ h9 => h9) rfl d_Mo_sayRead_96 ?_
                refine lv_if_ne (tgt := 108) hx hb d_Mo_sayRead_99 (by decide) ?_ ?_
                · intro h99
                  exact hret (lf1, T3) _ _ _ 108 d_Mo_sayRead_108 (by first | exact ⟨hy1, by rw [hT3, hT1, show k = rs by omega, show k3 = rs by omega]; exact sr_t hF hrl (bz_1 h99) (hgq (bz_1 h99))⟩ | exact absurd (bz_0 h47) (by rw [bz_1 h99]; decide)) hP hD hS
                · intro h99
                  refine lv_aload_n hx hb d_Mo_sayRead_102 rfl (lv_at hl 0 rfl) ?_
                  refine lv_bipush (v := 42) hx hb d_Mo_sayRead_103 (by decide) ?_
                  refine ck_cVv (C := "ReadMapperModel") (ci := 8) (rest := []) (wr := [(aD, .inl (cA 1, 72, .inl df))]) (ws2 := fun u => [(mo, .inr (8, [.int zt, .int (nI L.length), .ref ta, .int (nI np), .ref aN, .ref aS, .ref aC, .int (nI tot), .ref aB, .int (bz_c rd), .int (nI rt), .int (nI pl), .ref aR, .ref aO, .int (nI sg), .ref aW, .int (bz_c mp), .int (nI rn), .int (nI rs), .int (bz_c gd), .ref aD, .int (nI nh), .ref a1, .ref a2, .ref a3, .ref a4, .int (nI ((T3 ++ [42]).length)), .ref aL, .int (nI J.length), .ref aY, .int (nI ms), .ref aM, .int (nI ip), .int (nI it), .int ir, .int (nI il), .ref bN, .ref bS, .ref bC, .ref bB, .ref bR, .ref bO, .ref aU])), (aL, .inl (cA 1, 240, .inl u)), (aD, .inl (cA 1, 72, .inl df))]) (c_Mo_say l D cA K mo ta aN aS aC aB aR aO aW aD a1 a2 a3 a4 aL aY aM bN bS bC bB bR bO aU rd mp gd zt ir np tot rt pl sg rn rs nh ms ip it il L J T3 lf1 42 (by first | assumption | omega) (by have := hg0 (bz_0 h99); omega) ⟨by decide, by decide⟩) hx hb hml hown hts hK hE hA hP hD hS k_Mo_say m_1098 (by decide) 0 rfl rfl rfl hl.1 rfl (Nat.le_of_ble_eq_true rfl) d_Mo_sayRead_105  [0, 1] [2] [1, 2, 0] rfl rfl (by decide) (fun _ => rfl) (fun u105 H locs hq105 hP hD hS => ?_)
                  obtain ⟨lf2_105, rfl⟩ : ∃ z, z = u105 := ⟨_, rfl⟩
                  try dsimp only at hq105
                  have hP : va_P D vwCl [(mo, .inr (8, [.int zt, .int (nI L.length), .ref ta, .int (nI np), .ref aN, .ref aS, .ref aC, .int (nI tot), .ref aB, .int (bz_c rd), .int (nI rt), .int (nI pl), .ref aR, .ref aO, .int (nI sg), .ref aW, .int (bz_c mp), .int (nI rn), .int (nI rs), .int (bz_c gd), .ref aD, .int (nI nh), .ref a1, .ref a2, .ref a3, .ref a4, .int (nI ((T3 ++ [42]).length)), .ref aL, .int (nI J.length), .ref aY, .int (nI ms), .ref aM, .int (nI ip), .int (nI it), .int ir, .int (nI il), .ref bN, .ref bS, .ref bC, .ref bB, .ref bR, .ref bO, .ref aU])), (aL, .inl (cA 1, 240, .inl lf2_105)), (aD, .inl (cA 1, 72, .inl df))] H := hP
                  have hD : va_D A [(mo, .inr (8, [.int zt, .int (nI L.length), .ref ta, .int (nI np), .ref aN, .ref aS, .ref aC, .int (nI tot), .ref aB, .int (bz_c rd), .int (nI rt), .int (nI pl), .ref aR, .ref aO, .int (nI sg), .ref aW, .int (bz_c mp), .int (nI rn), .int (nI rs), .int (bz_c gd), .ref aD, .int (nI nh), .ref a1, .ref a2, .ref a3, .ref a4, .int (nI ((T3 ++ [42]).length)), .ref aL, .int (nI J.length), .ref aY, .int (nI ms), .ref aM, .int (nI ip), .int (nI it), .int ir, .int (nI il), .ref bN, .ref bS, .ref bC, .ref bB, .ref bR, .ref bO, .ref aU])), (aL, .inl (cA 1, 240, .inl lf2_105)), (aD, .inl (cA 1, 72, .inl df))] := hD
                  exact hret (lf2_105, T3 ++ [42]) _ _ _ 108 d_Mo_sayRead_108 ⟨hq105, by rw [hT3, hT1, show k = rs by omega, hg0 (bz_0 h99)]; exact sr_f hF hrl (bz_0 h99)⟩ hP hD hS
              · intro h47
                have hgl := hgq (bz_1 h47)
                refine lv_aload_n hx hb d_Mo_sayRead_50 rfl (lv_at hl 0 rfl) ?_
                refine va_get (C := RX8) (T := TX8) (N := 43) hx hb hts inX8 hown hK hP 0 rfl rfl 17 (by decide) (hts _ m_862) (fun _ h9 => h9) rfl d_Mo_sayRead_51 ?_
                refine lv_aload_n hx hb d_Mo_sayRead_54 rfl (lv_at hl 0 rfl) ?_
                refine va_get (C := RX8) (T := TX8) (N := 43) hx hb hts inX8 hown hK hP 0 rfl rfl 18 (by decide) (hts _ m_863) (fun _ h9 => h9) rfl d_Mo_sayRead_55 ?_
                refine wn_iadd hx hb d_Mo_sayRead_58 ?_
                refine lv_iconst (v := nI 2) hx hb d_Mo_sayRead_59 (by decide) ?_
                refine wn_iadd hx hb d_Mo_sayRead_60 ?_
                refine lv_iload_n hx hb d_Mo_sayRead_61 rfl (lv_at hl 1 rfl) ?_
                refine wn_if_ne (by omega) (tgt := 69) hx hb d_Mo_sayRead_62 (by decide) ?_ ?_
                · intro h62
                  refine lv_aload_n hx hb d_Mo_sayRead_69 rfl (lv_at hl 0 rfl) ?_
                  refine va_get (C := RX8) (T := TX8) (N := 43) hx hb hts inX8 hown hK hP 0 rfl rfl 18 (by decide) (hts _ m_863) (fun _ h9 => h9) rfl d_Mo_sayRead_70 ?_
                  refine lv_iconst (v := nI 1) hx hb d_Mo_sayRead_73 (by decide) ?_
                  refine wn_isub (by omega) hx hb d_Mo_sayRead_74 ?_
                  refine lv_iload_n hx hb d_Mo_sayRead_75 rfl (lv_at hl 2 rfl) ?_
                  refine wn_isub (by omega) hx hb d_Mo_sayRead_76 ?_
                  refine wn_iadd hx hb d_Mo_sayRead_77 ?_
                  refine lv_istore_n (lv' := [(3, .int (nI (((rn + rs) + 2) + ((rs - 1) - k3)))), (0, .ref mo), (1, .int (nI sd)), (2, .int (nI k3))]) hx hb d_Mo_sayRead_78 rfl hl (by decide) rfl (fun ls hl => ?_)
                  refine lv_aload_n hx hb d_Mo_sayRead_79 rfl (lv_at hl 1 rfl) ?_
                  refine lv_aload_n hx hb d_Mo_sayRead_80 rfl (lv_at hl 1 rfl) ?_
                  refine va_get (C := RX8) (T := TX8) (N := 43) hx hb hts inX8 hown hK hP 0 rfl rfl 20 (by decide) (hts _ m_865) (fun _ h9 => h9) rfl d_Mo_sayRead_81 ?_
                  refine lv_iload_n hx hb d_Mo_sayRead_84 rfl (lv_at hl 0 rfl) ?_
                  refine wn_cald hx hb hK hP 2 1 rfl rfl (by omega) (by omega) d_Mo_sayRead_85 ?_
                  refine wn_eq (y := RL.getD (((rn + rs) + 2) + ((rs - 1) - k3)) 0) (hd.2.2 _ (by omega)) ?_
                  refine ck_cVv (C := "ReadMapperModel") (ci := 8) (rest := []) (wr := [(aD, .inl (cA 1, 72, .inl df))]) (ws2 := fun u => [(mo, .inr (8, [.int zt, .int (nI L.length), .ref ta, .int (nI np), .ref aN, .ref aS, .ref aC, .int (nI tot), .ref aB, .int (bz_c rd), .int (nI rt), .int (nI pl), .ref aR, .ref aO, .int (nI sg), .ref aW, .int (bz_c mp), .int (nI rn), .int (nI rs), .int (bz_c gd), .ref aD, .int (nI nh), .ref a1, .ref a2, .ref a3, .ref a4, .int (nI ((T3 ++ [(RL.getD (((rn + rs) + 2) + ((rs - 1) - k3)) 0)]).length)), .ref aL, .int (nI J.length), .ref aY, .int (nI ms), .ref aM, .int (nI ip), .int (nI it), .int ir, .int (nI il), .ref bN, .ref bS, .ref bC, .ref bB, .ref bR, .ref bO, .ref aU])), (aL, .inl (cA 1, 240, .inl u)), (aD, .inl (cA 1, 72, .inl df))]) (c_Mo_say l D cA K mo ta aN aS aC aB aR aO aW aD a1 a2 a3 a4 aL aY aM bN bS bC bB bR bO aU rd mp gd zt ir np tot rt pl sg rn rs nh ms ip it il L J T3 lf1 (RL.getD (((rn + rs) + 2) + ((rs - 1) - k3)) 0) (by first | assumption | omega) (by first | omega | (simp only [List.length_append, List.length_cons, List.length_nil]; omega)) (hch _ (by omega))) hx hb hml hown hts hK hE hA hP hD hS k_Mo_say m_1098 (by decide) 0 rfl rfl rfl hl.1 rfl (Nat.le_of_ble_eq_true rfl) d_Mo_sayRead_86  [0, 1] [2] [1, 2, 0] rfl rfl (by decide) (fun _ => rfl) (fun u86 H locs hq86 hP hD hS => ?_)
                  obtain ⟨lf2_86, rfl⟩ : ∃ z, z = u86 := ⟨_, rfl⟩
                  try dsimp only at hq86
                  have hP : va_P D vwCl [(mo, .inr (8, [.int zt, .int (nI L.length), .ref ta, .int (nI np), .ref aN, .ref aS, .ref aC, .int (nI tot), .ref aB, .int (bz_c rd), .int (nI rt), .int (nI pl), .ref aR, .ref aO, .int (nI sg), .ref aW, .int (bz_c mp), .int (nI rn), .int (nI rs), .int (bz_c gd), .ref aD, .int (nI nh), .ref a1, .ref a2, .ref a3, .ref a4, .int (nI ((T3 ++ [(RL.getD (((rn + rs) + 2) + ((rs - 1) - k3)) 0)]).length)), .ref aL, .int (nI J.length), .ref aY, .int (nI ms), .ref aM, .int (nI ip), .int (nI it), .int ir, .int (nI il), .ref bN, .ref bS, .ref bC, .ref bB, .ref bR, .ref bO, .ref aU])), (aL, .inl (cA 1, 240, .inl lf2_86)), (aD, .inl (cA 1, 72, .inl df))] H := hP
                  have hD : va_D A [(mo, .inr (8, [.int zt, .int (nI L.length), .ref ta, .int (nI np), .ref aN, .ref aS, .ref aC, .int (nI tot), .ref aB, .int (bz_c rd), .int (nI rt), .int (nI pl), .ref aR, .ref aO, .int (nI sg), .ref aW, .int (bz_c mp), .int (nI rn), .int (nI rs), .int (bz_c gd), .ref aD, .int (nI nh), .ref a1, .ref a2, .ref a3, .ref a4, .int (nI ((T3 ++ [(RL.getD (((rn + rs) + 2) + ((rs - 1) - k3)) 0)]).length)), .ref aL, .int (nI J.length), .ref aY, .int (nI ms), .ref aM, .int (nI ip), .int (nI it), .int ir, .int (nI il), .ref bN, .ref bS, .ref bC, .ref bB, .ref bR, .ref bO, .ref aU])), (aL, .inl (cA 1, 240, .inl lf2_86)), (aD, .inl (cA 1, 72, .inl df))] := hD
                  refine lv_iinc (k := 3) (v := nI (k3 + 1)) (lv' := [(2, .int (nI (k3 + 1))), (3, .int (nI (((rn + rs) + 2) + ((rs - 1) - k3)))), (0, .ref mo), (1, .int (nI sd))]) hx hb d_Mo_sayRead_89 hl rfl (wi_inc1 _) (by decide) rfl (fun ls hl => ?_)
                  refine lv_goto (tgt := 35) hx hb d_Mo_sayRead_92 (by decide) ?_
                  exact ih35 _ (by omega) (k3 + 1) (T3 ++ [(RL.getD (((rn + rs) + 2) + ((rs - 1) - k3)) 0)]) lf2_86 _ _ _ rfl (by first | assumption | omega) (fun e => absurd (bz_1 h47) (by rw [e]; decide)) (by first | (rw [hT3, List.append_assoc]; exact congrArg _ (tq_0 h62)) | (rw [hT3, List.append_assoc]; exact congrArg _ (tq_1 h62))) hq86 hP hD hS (lv_sub hl [2, 3, 0] rfl)
                · intro h62
                  refine lv_iload_n hx hb d_Mo_sayRead_65 rfl (lv_at hl 2 rfl) ?_
                  refine lv_goto (tgt := 77) hx hb d_Mo_sayRead_66 (by decide) ?_
                  refine wn_iadd hx hb d_Mo_sayRead_77 ?_
                  refine lv_istore_n (lv' := [(3, .int (nI (((rn + rs) + 2) + k3))), (0, .ref mo), (1, .int (nI sd)), (2, .int (nI k3))]) hx hb d_Mo_sayRead_78 rfl hl (by decide) rfl (fun ls hl => ?_)
                  refine lv_aload_n hx hb d_Mo_sayRead_79 rfl (lv_at hl 1 rfl) ?_
                  refine lv_aload_n hx hb d_Mo_sayRead_80 rfl (lv_at hl 1 rfl) ?_
                  refine va_get (C := RX8) (T := TX8) (N := 43) hx hb hts inX8 hown hK hP 0 rfl rfl 20 (by decide) (hts _ m_865) (fun _ h9 => h9) rfl d_Mo_sayRead_81 ?_
                  refine lv_iload_n hx hb d_Mo_sayRead_84 rfl (lv_at hl 0 rfl) ?_
                  refine wn_cald hx hb hK hP 2 1 rfl rfl (by omega) (by omega) d_Mo_sayRead_85 ?_
                  refine wn_eq (y := RL.getD (((rn + rs) + 2) + k3) 0) (hd.2.2 _ (by omega)) ?_
                  refine ck_cVv (C := "ReadMapperModel") (ci := 8) (rest := []) (wr := [(aD, .inl (cA 1, 72, .inl df))]) (ws2 := fun u => [(mo, .inr (8, [.int zt, .int (nI L.length), .ref ta, .int (nI np), .ref aN, .ref aS, .ref aC, .int (nI tot), .ref aB, .int (bz_c rd), .int (nI rt), .int (nI pl), .ref aR, .ref aO, .int (nI sg), .ref aW, .int (bz_c mp), .int (nI rn), .int (nI rs), .int (bz_c gd), .ref aD, .int (nI nh), .ref a1, .ref a2, .ref a3, .ref a4, .int (nI ((T3 ++ [(RL.getD (((rn + rs) + 2) + k3) 0)]).length)), .ref aL, .int (nI J.length), .ref aY, .int (nI ms), .ref aM, .int (nI ip), .int (nI it), .int ir, .int (nI il), .ref bN, .ref bS, .ref bC, .ref bB, .ref bR, .ref bO, .ref aU])), (aL, .inl (cA 1, 240, .inl u)), (aD, .inl (cA 1, 72, .inl df))]) (c_Mo_say l D cA K mo ta aN aS aC aB aR aO aW aD a1 a2 a3 a4 aL aY aM bN bS bC bB bR bO aU rd mp gd zt ir np tot rt pl sg rn rs nh ms ip it il L J T3 lf1 (RL.getD (((rn + rs) + 2) + k3) 0) (by first | assumption | omega) (by first | omega | (simp only [List.length_append, List.length_cons, List.length_nil]; omega)) (hch _ (by omega))) hx hb hml hown hts hK hE hA hP hD hS k_Mo_say m_1098 (by decide) 0 rfl rfl rfl hl.1 rfl (Nat.le_of_ble_eq_true rfl) d_Mo_sayRead_86  [0, 1] [2] [1, 2, 0] rfl rfl (by decide) (fun _ => rfl) (fun u86 H locs hq86 hP hD hS => ?_)
                  obtain ⟨lf2_86, rfl⟩ : ∃ z, z = u86 := ⟨_, rfl⟩
                  try dsimp only at hq86
                  have hP : va_P D vwCl [(mo, .inr (8, [.int zt, .int (nI L.length), .ref ta, .int (nI np), .ref aN, .ref aS, .ref aC, .int (nI tot), .ref aB, .int (bz_c rd), .int (nI rt), .int (nI pl), .ref aR, .ref aO, .int (nI sg), .ref aW, .int (bz_c mp), .int (nI rn), .int (nI rs), .int (bz_c gd), .ref aD, .int (nI nh), .ref a1, .ref a2, .ref a3, .ref a4, .int (nI ((T3 ++ [(RL.getD (((rn + rs) + 2) + k3) 0)]).length)), .ref aL, .int (nI J.length), .ref aY, .int (nI ms), .ref aM, .int (nI ip), .int (nI it), .int ir, .int (nI il), .ref bN, .ref bS, .ref bC, .ref bB, .ref bR, .ref bO, .ref aU])), (aL, .inl (cA 1, 240, .inl lf2_86)), (aD, .inl (cA 1, 72, .inl df))] H := hP
                  have hD : va_D A [(mo, .inr (8, [.int zt, .int (nI L.length), .ref ta, .int (nI np), .ref aN, .ref aS, .ref aC, .int (nI tot), .ref aB, .int (bz_c rd), .int (nI rt), .int (nI pl), .ref aR, .ref aO, .int (nI sg), .ref aW, .int (bz_c mp), .int (nI rn), .int (nI rs), .int (bz_c gd), .ref aD, .int (nI nh), .ref a1, .ref a2, .ref a3, .ref a4, .int (nI ((T3 ++ [(RL.getD (((rn + rs) + 2) + k3) 0)]).length)), .ref aL, .int (nI J.length), .ref aY, .int (nI ms), .ref aM, .int (nI ip), .int (nI it), .int ir, .int (nI il), .ref bN, .ref bS, .ref bC, .ref bB, .ref bR, .ref bO, .ref aU])), (aL, .inl (cA 1, 240, .inl lf2_86)), (aD, .inl (cA 1, 72, .inl df))] := hD
                  refine lv_iinc (k := 3) (v := nI (k3 + 1)) (lv' := [(2, .int (nI (k3 + 1))), (3, .int (nI (((rn + rs) + 2) + k3))), (0, .ref mo), (1, .int (nI sd))]) hx hb d_Mo_sayRead_89 hl rfl (wi_inc1 _) (by decide) rfl (fun ls hl => ?_)
                  refine lv_goto (tgt := 35) hx hb d_Mo_sayRead_92 (by decide) ?_
                  exact ih35 _ (by omega) (k3 + 1) (T3 ++ [(RL.getD (((rn + rs) + 2) + k3) 0)]) lf2_86 _ _ _ rfl (by first | assumption | omega) (fun e => absurd (bz_1 h47) (by rw [e]; decide)) (by first | (rw [hT3, List.append_assoc]; exact congrArg _ (tq_0 h62)) | (rw [hT3, List.append_assoc]; exact congrArg _ (tq_1 h62))) hq86 hP hD hS (lv_sub hl [2, 3, 0] rfl)
        exact L35 _ 0 (T1 ++ [9]) lf2_30 _ _ _ rfl (by first | assumption | omega) (fun _ => rfl) (List.append_nil _).symm hq30 hP hD hS (lv_sub hl [1, 2, 0] rfl)
      · intro h7
        refine lv_aload_n hx hb d_Mo_sayRead_10 rfl (lv_at hl 0 rfl) ?_
        refine lv_aload_n hx hb d_Mo_sayRead_11 rfl (lv_at hl 0 rfl) ?_
        refine lv_iload_n hx hb d_Mo_sayRead_12 rfl (lv_at hl 1 rfl) ?_
        refine lv_iload_n hx hb d_Mo_sayRead_13 rfl (lv_at hl 2 rfl) ?_
        refine ck_cV (C := "ReadMapperModel") (ci := 8) (rest := [.ref mo]) (wr := [(aL, .inl (cA 1, 240, .inl lf1))]) (ws2 := fun u => [(mo, .inr (8, [.int zt, .int (nI L.length), .ref ta, .int (nI np), .ref aN, .ref aS, .ref aC, .int (nI tot), .ref aB, .int (bz_c rd), .int (nI rt), .int (nI pl), .ref aR, .ref aO, .int (nI sg), .ref aW, .int (bz_c mp), .int (nI rn), .int (nI rs), .int (bz_c gd), .ref aD, .int (nI nh), .ref a1, .ref a2, .ref a3, .ref a4, .int (nI T1.length), .ref aL, .int (nI J.length), .ref aY, .int (nI ms), .ref aM, .int (nI ip), .int (nI it), .int ir, .int (nI il), .ref bN, .ref bS, .ref bC, .ref bB, .ref bR, .ref bO, .ref aU])), (aL, .inl (cA 1, 240, .inl lf1)), (aD, .inl (cA 1, 72, .inl df))]) (c_Mo_onStrand l D cA K mo ta aN aS aC aB aR aO aW aD a1 a2 a3 a4 aL aY aM bN bS bC bB bR bO aU rd mp gd zt ir np tot rt pl sg rn rs nh T1.length ms ip it il L J df RL F sd k hd (by first | assumption | omega) (by first | assumption | omega) (by first | assumption | omega) (by first | assumption | omega)) hx hb hml hown hts hK hE hA hP hD hS k_Mo_onStrand m_1079 (by decide) 0 rfl rfl rfl hl.1 rfl (Nat.le_of_ble_eq_true rfl) d_Mo_sayRead_14  [0, 2] [1] [1, 0, 2] rfl rfl (by decide) (fun _ => rfl) (fun r14 u14 H locs hq14 hP hD hS => ?_)
        try dsimp only at hq14
        have hP : va_P D vwCl [(mo, .inr (8, [.int zt, .int (nI L.length), .ref ta, .int (nI np), .ref aN, .ref aS, .ref aC, .int (nI tot), .ref aB, .int (bz_c rd), .int (nI rt), .int (nI pl), .ref aR, .ref aO, .int (nI sg), .ref aW, .int (bz_c mp), .int (nI rn), .int (nI rs), .int (bz_c gd), .ref aD, .int (nI nh), .ref a1, .ref a2, .ref a3, .ref a4, .int (nI T1.length), .ref aL, .int (nI J.length), .ref aY, .int (nI ms), .ref aM, .int (nI ip), .int (nI it), .int ir, .int (nI il), .ref bN, .ref bS, .ref bC, .ref bB, .ref bR, .ref bO, .ref aU])), (aL, .inl (cA 1, 240, .inl lf1)), (aD, .inl (cA 1, 72, .inl df))] H := hP
        have hD : va_D A [(mo, .inr (8, [.int zt, .int (nI L.length), .ref ta, .int (nI np), .ref aN, .ref aS, .ref aC, .int (nI tot), .ref aB, .int (bz_c rd), .int (nI rt), .int (nI pl), .ref aR, .ref aO, .int (nI sg), .ref aW, .int (bz_c mp), .int (nI rn), .int (nI rs), .int (bz_c gd), .ref aD, .int (nI nh), .ref a1, .ref a2, .ref a3, .ref a4, .int (nI T1.length), .ref aL, .int (nI J.length), .ref aY, .int (nI ms), .ref aM, .int (nI ip), .int (nI it), .int ir, .int (nI il), .ref bN, .ref bS, .ref bC, .ref bB, .ref bR, .ref bO, .ref aU])), (aL, .inl (cA 1, 240, .inl lf1)), (aD, .inl (cA 1, 72, .inl df))] := hD
        subst r14
        refine ck_cS (rest := [.ref mo]) (wr := [(mo, .inr (8, [.int zt, .int (nI L.length), .ref ta, .int (nI np), .ref aN, .ref aS, .ref aC, .int (nI tot), .ref aB, .int (bz_c rd), .int (nI rt), .int (nI pl), .ref aR, .ref aO, .int (nI sg), .ref aW, .int (bz_c mp), .int (nI rn), .int (nI rs), .int (bz_c gd), .ref aD, .int (nI nh), .ref a1, .ref a2, .ref a3, .ref a4, .int (nI T1.length), .ref aL, .int (nI J.length), .ref aY, .int (nI ms), .ref aM, .int (nI ip), .int (nI it), .int ir, .int (nI il), .ref bN, .ref bS, .ref bC, .ref bB, .ref bR, .ref bO, .ref aU])), (aL, .inl (cA 1, 240, .inl lf1)), (aD, .inl (cA 1, 72, .inl df))]) (ws2 := fun u => [(mo, .inr (8, [.int zt, .int (nI L.length), .ref ta, .int (nI np), .ref aN, .ref aS, .ref aC, .int (nI tot), .ref aB, .int (bz_c rd), .int (nI rt), .int (nI pl), .ref aR, .ref aO, .int (nI sg), .ref aW, .int (bz_c mp), .int (nI rn), .int (nI rs), .int (bz_c gd), .ref aD, .int (nI nh), .ref a1, .ref a2, .ref a3, .ref a4, .int (nI T1.length), .ref aL, .int (nI J.length), .ref aY, .int (nI ms), .ref aM, .int (nI ip), .int (nI it), .int ir, .int (nI il), .ref bN, .ref bS, .ref bC, .ref bB, .ref bR, .ref bO, .ref aU])), (aL, .inl (cA 1, 240, .inl lf1)), (aD, .inl (cA 1, 72, .inl df))]) (c_Mo_shown l D cA K (os_c F sd k) ) hx hb hml hown hts hK hE hA hP hD hS k_Mo_shown m_1134 (by decide) rfl hl.1 rfl (Nat.le_of_ble_eq_true rfl) d_Mo_sayRead_17 [] [0, 1, 2] [0, 1, 2] rfl rfl (by decide) (fun _ => rfl) (fun r17 u17 H locs hq17 hP hD hS => ?_)
        try dsimp only at hq17
        have hP : va_P D vwCl [(mo, .inr (8, [.int zt, .int (nI L.length), .ref ta, .int (nI np), .ref aN, .ref aS, .ref aC, .int (nI tot), .ref aB, .int (bz_c rd), .int (nI rt), .int (nI pl), .ref aR, .ref aO, .int (nI sg), .ref aW, .int (bz_c mp), .int (nI rn), .int (nI rs), .int (bz_c gd), .ref aD, .int (nI nh), .ref a1, .ref a2, .ref a3, .ref a4, .int (nI T1.length), .ref aL, .int (nI J.length), .ref aY, .int (nI ms), .ref aM, .int (nI ip), .int (nI it), .int ir, .int (nI il), .ref bN, .ref bS, .ref bC, .ref bB, .ref bR, .ref bO, .ref aU])), (aL, .inl (cA 1, 240, .inl lf1)), (aD, .inl (cA 1, 72, .inl df))] H := hP
        have hD : va_D A [(mo, .inr (8, [.int zt, .int (nI L.length), .ref ta, .int (nI np), .ref aN, .ref aS, .ref aC, .int (nI tot), .ref aB, .int (bz_c rd), .int (nI rt), .int (nI pl), .ref aR, .ref aO, .int (nI sg), .ref aW, .int (bz_c mp), .int (nI rn), .int (nI rs), .int (bz_c gd), .ref aD, .int (nI nh), .ref a1, .ref a2, .ref a3, .ref a4, .int (nI T1.length), .ref aL, .int (nI J.length), .ref aY, .int (nI ms), .ref aM, .int (nI ip), .int (nI it), .int ir, .int (nI il), .ref bN, .ref bS, .ref bC, .ref bB, .ref bR, .ref bO, .ref aU])), (aL, .inl (cA 1, 240, .inl lf1)), (aD, .inl (cA 1, 72, .inl df))] := hD
        subst r17
        refine ck_cVv (C := "ReadMapperModel") (ci := 8) (rest := []) (wr := [(aD, .inl (cA 1, 72, .inl df))]) (ws2 := fun u => [(mo, .inr (8, [.int zt, .int (nI L.length), .ref ta, .int (nI np), .ref aN, .ref aS, .ref aC, .int (nI tot), .ref aB, .int (bz_c rd), .int (nI rt), .int (nI pl), .ref aR, .ref aO, .int (nI sg), .ref aW, .int (bz_c mp), .int (nI rn), .int (nI rs), .int (bz_c gd), .ref aD, .int (nI nh), .ref a1, .ref a2, .ref a3, .ref a4, .int (nI ((T1 ++ [(lt_c (os_c F sd k))]).length)), .ref aL, .int (nI J.length), .ref aY, .int (nI ms), .ref aM, .int (nI ip), .int (nI it), .int ir, .int (nI il), .ref bN, .ref bS, .ref bC, .ref bB, .ref bR, .ref bO, .ref aU])), (aL, .inl (cA 1, 240, .inl u)), (aD, .inl (cA 1, 72, .inl df))]) (c_Mo_say l D cA K mo ta aN aS aC aB aR aO aW aD a1 a2 a3 a4 aL aY aM bN bS bC bB bR bO aU rd mp gd zt ir np tot rt pl sg rn rs nh ms ip it il L J T1 lf1 (lt_c (os_c F sd k)) (by first | assumption | omega) (by first | omega | (simp only [List.length_append, List.length_cons, List.length_nil]; omega)) (lt_ch _)) hx hb hml hown hts hK hE hA hP hD hS k_Mo_say m_1098 (by decide) 0 rfl rfl rfl hl.1 rfl (Nat.le_of_ble_eq_true rfl) d_Mo_sayRead_20  [0, 1] [2] [1, 2, 0] rfl rfl (by decide) (fun _ => rfl) (fun u20 H locs hq20 hP hD hS => ?_)
        obtain ⟨lf2_20, rfl⟩ : ∃ z, z = u20 := ⟨_, rfl⟩
        try dsimp only at hq20
        have hP : va_P D vwCl [(mo, .inr (8, [.int zt, .int (nI L.length), .ref ta, .int (nI np), .ref aN, .ref aS, .ref aC, .int (nI tot), .ref aB, .int (bz_c rd), .int (nI rt), .int (nI pl), .ref aR, .ref aO, .int (nI sg), .ref aW, .int (bz_c mp), .int (nI rn), .int (nI rs), .int (bz_c gd), .ref aD, .int (nI nh), .ref a1, .ref a2, .ref a3, .ref a4, .int (nI ((T1 ++ [(lt_c (os_c F sd k))]).length)), .ref aL, .int (nI J.length), .ref aY, .int (nI ms), .ref aM, .int (nI ip), .int (nI it), .int ir, .int (nI il), .ref bN, .ref bS, .ref bC, .ref bB, .ref bR, .ref bO, .ref aU])), (aL, .inl (cA 1, 240, .inl lf2_20)), (aD, .inl (cA 1, 72, .inl df))] H := hP
        have hD : va_D A [(mo, .inr (8, [.int zt, .int (nI L.length), .ref ta, .int (nI np), .ref aN, .ref aS, .ref aC, .int (nI tot), .ref aB, .int (bz_c rd), .int (nI rt), .int (nI pl), .ref aR, .ref aO, .int (nI sg), .ref aW, .int (bz_c mp), .int (nI rn), .int (nI rs), .int (bz_c gd), .ref aD, .int (nI nh), .ref a1, .ref a2, .ref a3, .ref a4, .int (nI ((T1 ++ [(lt_c (os_c F sd k))]).length)), .ref aL, .int (nI J.length), .ref aY, .int (nI ms), .ref aM, .int (nI ip), .int (nI it), .int ir, .int (nI il), .ref bN, .ref bS, .ref bC, .ref bB, .ref bR, .ref bO, .ref aU])), (aL, .inl (cA 1, 240, .inl lf2_20)), (aD, .inl (cA 1, 72, .inl df))] := hD
        refine lv_iinc (k := 2) (v := nI (k + 1)) (lv' := [(2, .int (nI (k + 1))), (0, .ref mo), (1, .int (nI sd))]) hx hb d_Mo_sayRead_23 hl rfl (wi_inc1 _) (by decide) rfl (fun ls hl => ?_)
        refine lv_goto (tgt := 2) hx hb d_Mo_sayRead_26 (by decide) ?_
        exact ih2 _ (by omega) (k + 1) (T1 ++ [(lt_c (os_c F sd k))]) lf2_20 _ _ _ rfl (by first | assumption | omega) (by rw [hT1, List.append_assoc]; rfl) hq20 hP hD hS (lv_sub hl [1, 2, 0] rfl)
  exact L2 _ 0 T lf _ _ _ rfl (by first | assumption | omega) (List.append_nil _).symm (by first | assumption | omega) hP hD hS (lv_sub hl [1, 2, 0] rfl)
theorem k_Mo_sayRead : cf_V y_Mo_sayRead b_Mo_sayRead 4 none "ReadMapperModel" 1 := ⟨⟨m_1132, (wm_s (q := (y_Mo_sayRead, 43)) (by decide +kernel)), m_9, m_1133⟩, by decide +kernel⟩
set_option maxHeartbeats 4000000 in
set_option maxRecDepth 100000 in
theorem c_Mo_sayMismatches (l : Launch) (D : va_G) (cA : Nat → ClassId) (K : Nat → Nat) (mo ta aN aS aC aB aR aO aW aD a1 a2 a3 a4 aL aY aM bN bS bC bB bR bO aU : Nat) (rd mp gd : Bool) (zt ir : Int32) (np tot rt pl sg rn rs ms ip it il : Nat) (L J : List Int32) (T : List Int32) (lf : Nat → Int32) (df : Nat → Int32) (RL F : List Int32) (bc : Nat → Int32) (bf : Nat → Int32) (q : Nat → Nat) (G : Nat → Int32) (f1 : Nat → Int32) (f2 : Nat → Int32) (f3 : Nat → Int32) (f4 : Nat → Int32) (X : List (Nat × Nat × Nat × Nat)) (xp xo xs xm j : Nat) (hy : cd_r 240 lf T) (hd : cd_r 72 df RL) (hF : F = (sl_p RL (rn + 1) (rn + 1 + rs)).map sy_c) (hrl : rn + 1 + rs ≤ RL.length) (hrs : 1 ≤ rs ∧ rs ≤ 20) (hnp : np ≤ 5) (htt : tt_c q np ≤ 60) (hbc : ∀ p, p < np → bc p = nI (q p)) (hG : ly_p np q (fun p t => bf (tt_c q p + t)) G) (hxp : xp < np) (hxo : 1 ≤ xo ∧ (xo - 1) + rs ≤ q xp) (hxs : xs ≤ 1) (hxm : xm ≤ 20) (hj : j < X.length) (hxe : X.getD j (0, 0, 0, 0) = (xp, xo, xs, xm)) (h1c : cd_r 128 f1 (hp_c X)) (h2c : cd_r 128 f2 (hl_c X)) (h3c : cd_r 128 f3 (hs_c X)) (h4c : cd_r 128 f4 (hm_c X)) (hr : T.length ≤ 170) : ck_V l y_Mo_sayMismatches (Cond.code y_Mo_sayMismatches b_Mo_sayMismatches 6 none :: w_all) 3 D cA K [.ref mo, .int (nI j)] [(mo, .inr (8, [.int zt, .int (nI L.length), .ref ta, .int (nI np), .ref aN, .ref aS, .ref aC, .int (nI tot), .ref aB, .int (bz_c rd), .int (nI rt), .int (nI pl), .ref aR, .ref aO, .int (nI sg), .ref aW, .int (bz_c mp), .int (nI rn), .int (nI rs), .int (bz_c gd), .ref aD, .int (nI X.length), .ref a1, .ref a2, .ref a3, .ref a4, .int (nI T.length), .ref aL, .int (nI J.length), .ref aY, .int (nI ms), .ref aM, .int (nI ip), .int (nI it), .int ir, .int (nI il), .ref bN, .ref bS, .ref bC, .ref bB, .ref bR, .ref bO, .ref aU])), (aL, .inl (cA 1, 240, .inl lf)), (aD, .inl (cA 1, 72, .inl df)), (aC, .inl (cA 0, 5, .inl bc)), (aB, .inl (cA 0, 64, .inl bf)), (a1, .inl (cA 0, 128, .inl f1)), (a2, .inl (cA 0, 128, .inl f2)), (a3, .inl (cA 0, 128, .inl f3)), (a4, .inl (cA 0, 128, .inl f4))] (fun (u : (Nat → Int32) × (List Int32)) => cd_r 240 u.1 u.2 ∧ u.2 = T ++ (mt_c G (tt_c q xp + xp + (xo - 1)) (if xs = 0 then F else tb_c F 0) rs ++ dg_c (ms_c G (tt_c q xp + xp + (xo - 1)) (if xs = 0 then F else tb_c F 0) rs))) (fun u => [(mo, .inr (8, [.int zt, .int (nI L.length), .ref ta, .int (nI np), .ref aN, .ref aS, .ref aC, .int (nI tot), .ref aB, .int (bz_c rd), .int (nI rt), .int (nI pl), .ref aR, .ref aO, .int (nI sg), .ref aW, .int (bz_c mp), .int (nI rn), .int (nI rs), .int (bz_c gd), .ref aD, .int (nI X.length), .ref a1, .ref a2, .ref a3, .ref a4, .int (nI u.2.length), .ref aL, .int (nI J.length), .ref aY, .int (nI ms), .ref aM, .int (nI ip), .int (nI it), .int ir, .int (nI il), .ref bN, .ref bS, .ref bC, .ref bB, .ref bR, .ref bO, .ref aU])), (aL, .inl (cA 1, 240, .inl u.1)), (aD, .inl (cA 1, 72, .inl df)), (aC, .inl (cA 0, 5, .inl bc)), (aB, .inl (cA 0, 64, .inl bf)), (a1, .inl (cA 0, 128, .inl f1)), (a2, .inl (cA 0, 128, .inl f2)), (a3, .inl (cA 0, 128, .inl f3)), (a4, .inl (cA 0, 128, .inl f4))]) := by
  refine ck_mkV (by decide) (Nat.le_of_ble_eq_true rfl) ?_
  intro pG eG sG mG argsG belowG methG cG Q A H locs ls hx hb hml hown hts hK hE hA hP hD hS hl hret
  have hl : lv_has ls 6 [(0, .ref mo), (1, .int (nI j))] := hl
  have hl1 := cd_len hd
  have hxl := cd_len h4c
  rw [hx_len4] at hxl
  have htm : tt_c q (xp + 1) ≤ tt_c q np := tt_mono q hxp
  have ht1 : tt_c q (xp + 1) = tt_c q xp + q xp := rfl
  refine lv_aload_n hx hb d_Mo_sayMismatches_0 rfl (lv_at hl 0 rfl) ?_
  refine va_get (C := RX8) (T := TX8) (N := 43) hx hb hts inX8 hown hK hP 0 rfl rfl 23 (by decide) (hts _ m_868) (fun _ h9 => h9) rfl d_Mo_sayMismatches_1 ?_
  refine lv_iload_n hx hb d_Mo_sayMismatches_4 rfl (lv_at hl 1 rfl) ?_
  refine wn_iald hx hb hK hP 6 0 rfl rfl (by omega) (by omega) d_Mo_sayMismatches_5 ?_
  refine wn_eq (y := nI xo) ((h2c.2.2 j (by rw [hx_len2]; exact hj)).trans ((hx_g2 hj).trans (by rw [hxe]))) ?_
  refine lv_iconst (v := nI 1) hx hb d_Mo_sayMismatches_6 (by decide) ?_
  refine wn_isub (by omega) hx hb d_Mo_sayMismatches_7 ?_
  refine lv_istore_n (lv' := [(2, .int (nI (xo - 1))), (0, .ref mo), (1, .int (nI j))]) hx hb d_Mo_sayMismatches_8 rfl hl (by decide) rfl (fun ls hl => ?_)
  refine lv_iconst (v := nI 0) hx hb d_Mo_sayMismatches_9 (by decide) ?_
  refine lv_istore_n (lv' := [(3, .int (nI 0)), (2, .int (nI (xo - 1))), (0, .ref mo), (1, .int (nI j))]) hx hb d_Mo_sayMismatches_10 rfl hl (by decide) rfl (fun ls hl => ?_)
  have L11 : ∀ (nG : Nat) (fr k : Nat) (H : Heap) (locs : List Loc) (ls : Array Slot), xp - k = nG → (k ≤ xp) → (fr = (xo - 1) + tt_c q k) →  va_P D vwCl [(mo, .inr (8, [.int zt, .int (nI L.length), .ref ta, .int (nI np), .ref aN, .ref aS, .ref aC, .int (nI tot), .ref aB, .int (bz_c rd), .int (nI rt), .int (nI pl), .ref aR, .ref aO, .int (nI sg), .ref aW, .int (bz_c mp), .int (nI rn), .int (nI rs), .int (bz_c gd), .ref aD, .int (nI X.length), .ref a1, .ref a2, .ref a3, .ref a4, .int (nI T.length), .ref aL, .int (nI J.length), .ref aY, .int (nI ms), .ref aM, .int (nI ip), .int (nI it), .int ir, .int (nI il), .ref bN, .ref bS, .ref bC, .ref bB, .ref bR, .ref bO, .ref aU])), (aL, .inl (cA 1, 240, .inl lf)), (aD, .inl (cA 1, 72, .inl df)), (aC, .inl (cA 0, 5, .inl bc)), (aB, .inl (cA 0, 64, .inl bf)), (a1, .inl (cA 0, 128, .inl f1)), (a2, .inl (cA 0, 128, .inl f2)), (a3, .inl (cA 0, 128, .inl f3)), (a4, .inl (cA 0, 128, .inl f4))] H → va_D A [(mo, .inr (8, [.int zt, .int (nI L.length), .ref ta, .int (nI np), .ref aN, .ref aS, .ref aC, .int (nI tot), .ref aB, .int (bz_c rd), .int (nI rt), .int (nI pl), .ref aR, .ref aO, .int (nI sg), .ref aW, .int (bz_c mp), .int (nI rn), .int (nI rs), .int (bz_c gd), .ref aD, .int (nI X.length), .ref a1, .ref a2, .ref a3, .ref a4, .int (nI T.length), .ref aL, .int (nI J.length), .ref aY, .int (nI ms), .ref aM, .int (nI ip), .int (nI it), .int ir, .int (nI il), .ref bN, .ref bS, .ref bC, .ref bB, .ref bR, .ref bO, .ref aU])), (aL, .inl (cA 1, 240, .inl lf)), (aD, .inl (cA 1, 72, .inl df)), (aC, .inl (cA 0, 5, .inl bc)), (aB, .inl (cA 0, 64, .inl bf)), (a1, .inl (cA 0, 128, .inl f1)), (a2, .inl (cA 0, 128, .inl f2)), (a3, .inl (cA 0, 128, .inl f3)), (a4, .inl (cA 0, 128, .inl f4))] → va_S A sG.heap H locs → lv_has ls 6 [(0, .ref mo), (1, .int (nI j)), (2, .int (nI fr)), (3, .int (nI k))] → W pG l eG (rm_d 3) sG mG argsG belowG methG cG H locs 0 0 Q (F0 mG 11 ls []) := by
    intro nG
    induction nG using Nat.strongRecOn with
    | ind nG ih11 =>
      intro fr k H locs ls hn11 hk hfr hP hD hS hl
      have hmk := tt_mono q hk
      refine lv_iload_n hx hb d_Mo_sayMismatches_11 rfl (lv_at hl 3 rfl) ?_
      refine lv_aload_n hx hb d_Mo_sayMismatches_12 rfl (lv_at hl 0 rfl) ?_
      refine va_get (C := RX8) (T := TX8) (N := 43) hx hb hts inX8 hown hK hP 0 rfl rfl 22 (by decide) (hts _ m_867) (fun _ h9 => h9) rfl d_Mo_sayMismatches_13 ?_
      refine lv_iload_n hx hb d_Mo_sayMismatches_16 rfl (lv_at hl 1 rfl) ?_
      refine wn_iald hx hb hK hP 5 0 rfl rfl (by omega) (by omega) d_Mo_sayMismatches_17 ?_
      refine wn_eq (y := nI xp) ((h1c.2.2 j (by rw [hx_len]; exact hj)).trans ((hx_g1 hj).trans (by rw [hxe]))) ?_
      refine wn_icmp_ge (by omega) (by omega) (tgt := 36) hx hb d_Mo_sayMismatches_18 (by decide) ?_ ?_
      · intro h18
        have hfe : fr = tt_c q xp + (xo - 1) := by rw [hfr, show k = xp by omega]; omega
        refine lv_iconst (v := nI 0) hx hb d_Mo_sayMismatches_36 (by decide) ?_
        refine lv_istore_n (lv' := [(3, .int (nI 0)), (0, .ref mo), (1, .int (nI j)), (2, .int (nI fr))]) hx hb d_Mo_sayMismatches_37 rfl hl (by decide) rfl (fun ls hl => ?_)
        refine lv_iconst (v := nI 0) hx hb d_Mo_sayMismatches_38 (by decide) ?_
        refine lv_istore (lv' := [(4, .int (nI 0)), (3, .int (nI 0)), (0, .ref mo), (1, .int (nI j)), (2, .int (nI fr))]) hx hb d_Mo_sayMismatches_39 hl (by decide) rfl (fun ls hl => ?_)
        have L41 : ∀ (nG : Nat) (sm k : Nat) (T1 : List Int32) (lf1 : Nat → Int32) (H : Heap) (locs : List Loc) (ls : Array Slot), rs - k = nG → (k ≤ rs) → (sm = ms_c G (tt_c q xp + xp + (xo - 1)) (if xs = 0 then F else tb_c F 0) k) → (T1 = T ++ mt_c G (tt_c q xp + xp + (xo - 1)) (if xs = 0 then F else tb_c F 0) k) → (cd_r 240 lf1 T1) →  va_P D vwCl [(mo, .inr (8, [.int zt, .int (nI L.length), .ref ta, .int (nI np), .ref aN, .ref aS, .ref aC, .int (nI tot), .ref aB, .int (bz_c rd), .int (nI rt), .int (nI pl), .ref aR, .ref aO, .int (nI sg), .ref aW, .int (bz_c mp), .int (nI rn), .int (nI rs), .int (bz_c gd), .ref aD, .int (nI X.length), .ref a1, .ref a2, .ref a3, .ref a4, .int (nI T1.length), .ref aL, .int (nI J.length), .ref aY, .int (nI ms), .ref aM, .int (nI ip), .int (nI it), .int ir, .int (nI il), .ref bN, .ref bS, .ref bC, .ref bB, .ref bR, .ref bO, .ref aU])), (aL, .inl (cA 1, 240, .inl lf1)), (aD, .inl (cA 1, 72, .inl df)), (aC, .inl (cA 0, 5, .inl bc)), (aB, .inl (cA 0, 64, .inl bf)), (a1, .inl (cA 0, 128, .inl f1)), (a2, .inl (cA 0, 128, .inl f2)), (a3, .inl (cA 0, 128, .inl f3)), (a4, .inl (cA 0, 128, .inl f4))] H → va_D A [(mo, .inr (8, [.int zt, .int (nI L.length), .ref ta, .int (nI np), .ref aN, .ref aS, .ref aC, .int (nI tot), .ref aB, .int (bz_c rd), .int (nI rt), .int (nI pl), .ref aR, .ref aO, .int (nI sg), .ref aW, .int (bz_c mp), .int (nI rn), .int (nI rs), .int (bz_c gd), .ref aD, .int (nI X.length), .ref a1, .ref a2, .ref a3, .ref a4, .int (nI T1.length), .ref aL, .int (nI J.length), .ref aY, .int (nI ms), .ref aM, .int (nI ip), .int (nI it), .int ir, .int (nI il), .ref bN, .ref bS, .ref bC, .ref bB, .ref bR, .ref bO, .ref aU])), (aL, .inl (cA 1, 240, .inl lf1)), (aD, .inl (cA 1, 72, .inl df)), (aC, .inl (cA 0, 5, .inl bc)), (aB, .inl (cA 0, 64, .inl bf)), (a1, .inl (cA 0, 128, .inl f1)), (a2, .inl (cA 0, 128, .inl f2)), (a3, .inl (cA 0, 128, .inl f3)), (a4, .inl (cA 0, 128, .inl f4))] → va_S A sG.heap H locs → lv_has ls 6 [(0, .ref mo), (1, .int (nI j)), (2, .int (nI fr)), (3, .int (nI sm)), (4, .int (nI k))] → W pG l eG (rm_d 3) sG mG argsG belowG methG cG H locs 0 0 Q (F0 mG 41 ls []) := by
          intro nG
          induction nG using Nat.strongRecOn with
          | ind nG ih41 =>
            intro sm k T1 lf1 H locs ls hn41 hk hsm hT1 hy1 hP hD hS hl
            have hsl := ms_le G (tt_c q xp + xp + (xo - 1)) (if xs = 0 then F else tb_c F 0) k
            rw [← hsm] at hsl
            have hmt := mt_len G (tt_c q xp + xp + (xo - 1)) (if xs = 0 then F else tb_c F 0) k (by omega)
            have hmm := mm_lb (rfl : mm_c G (tt_c q xp + xp + (xo - 1)) (if xs = 0 then F else tb_c F 0) k = _)
            have hT1l := congrArg List.length hT1
            rw [List.length_append] at hT1l
            refine lv_iload hx hb d_Mo_sayMismatches_41 (lv_at hl 4 rfl) ?_
            refine lv_aload_n hx hb d_Mo_sayMismatches_43 rfl (lv_at hl 0 rfl) ?_
            refine va_get (C := RX8) (T := TX8) (N := 43) hx hb hts inX8 hown hK hP 0 rfl rfl 18 (by decide) (hts _ m_863) (fun _ h9 => h9) rfl d_Mo_sayMismatches_44 ?_
            refine wn_icmp_ge (by omega) (by omega) (tgt := 119) hx hb d_Mo_sayMismatches_47 (by decide) ?_ ?_
            · intro h47
              refine lv_aload_n hx hb d_Mo_sayMismatches_119 rfl (lv_at hl 0 rfl) ?_
              refine lv_iload_n hx hb d_Mo_sayMismatches_120 rfl (lv_at hl 3 rfl) ?_
              refine ck_cVv (C := "ReadMapperModel") (ci := 8) (rest := []) (wr := [(aD, .inl (cA 1, 72, .inl df)), (aC, .inl (cA 0, 5, .inl bc)), (aB, .inl (cA 0, 64, .inl bf)), (a1, .inl (cA 0, 128, .inl f1)), (a2, .inl (cA 0, 128, .inl f2)), (a3, .inl (cA 0, 128, .inl f3)), (a4, .inl (cA 0, 128, .inl f4))]) (ws2 := fun u => [(mo, .inr (8, [.int zt, .int (nI L.length), .ref ta, .int (nI np), .ref aN, .ref aS, .ref aC, .int (nI tot), .ref aB, .int (bz_c rd), .int (nI rt), .int (nI pl), .ref aR, .ref aO, .int (nI sg), .ref aW, .int (bz_c mp), .int (nI rn), .int (nI rs), .int (bz_c gd), .ref aD, .int (nI X.length), .ref a1, .ref a2, .ref a3, .ref a4, .int (nI ((T1 ++ dg_c sm).length)), .ref aL, .int (nI J.length), .ref aY, .int (nI ms), .ref aM, .int (nI ip), .int (nI it), .int ir, .int (nI il), .ref bN, .ref bS, .ref bC, .ref bB, .ref bR, .ref bO, .ref aU])), (aL, .inl (cA 1, 240, .inl u)), (aD, .inl (cA 1, 72, .inl df)), (aC, .inl (cA 0, 5, .inl bc)), (aB, .inl (cA 0, 64, .inl bf)), (a1, .inl (cA 0, 128, .inl f1)), (a2, .inl (cA 0, 128, .inl f2)), (a3, .inl (cA 0, 128, .inl f3)), (a4, .inl (cA 0, 128, .inl f4))]) (c_Mo_sayNumber l D cA K mo ta aN aS aC aB aR aO aW aD a1 a2 a3 a4 aL aY aM bN bS bC bB bR bO aU rd mp gd zt ir np tot rt pl sg rn rs X.length ms ip it il L J T1 lf1 sm hy1 (by first | omega | (simp only [List.length_append, List.length_cons, List.length_nil]; omega)) (by omega)) hx hb hml hown hts hK hE hA hP hD hS k_Mo_sayNumber m_1114 (by decide) 0 rfl rfl rfl hl.1 rfl (Nat.le_of_ble_eq_true rfl) d_Mo_sayMismatches_121  [0, 1] [2, 3, 4, 5, 6, 7, 8] [7, 8, 0, 1, 2, 3, 4, 5, 6] rfl rfl (by decide) (fun _ => rfl) (fun u121 H locs hq121 hP hD hS => ?_)
              obtain ⟨lf2_121, rfl⟩ : ∃ z, z = u121 := ⟨_, rfl⟩
              try dsimp only at hq121
              have hP : va_P D vwCl [(mo, .inr (8, [.int zt, .int (nI L.length), .ref ta, .int (nI np), .ref aN, .ref aS, .ref aC, .int (nI tot), .ref aB, .int (bz_c rd), .int (nI rt), .int (nI pl), .ref aR, .ref aO, .int (nI sg), .ref aW, .int (bz_c mp), .int (nI rn), .int (nI rs), .int (bz_c gd), .ref aD, .int (nI X.length), .ref a1, .ref a2, .ref a3, .ref a4, .int (nI ((T1 ++ dg_c sm).length)), .ref aL, .int (nI J.length), .ref aY, .int (nI ms), .ref aM, .int (nI ip), .int (nI it), .int ir, .int (nI il), .ref bN, .ref bS, .ref bC, .ref bB, .ref bR, .ref bO, .ref aU])), (aL, .inl (cA 1, 240, .inl lf2_121)), (aD, .inl (cA 1, 72, .inl df)), (aC, .inl (cA 0, 5, .inl bc)), (aB, .inl (cA 0, 64, .inl bf)), (a1, .inl (cA 0, 128, .inl f1)), (a2, .inl (cA 0, 128, .inl f2)), (a3, .inl (cA 0, 128, .inl f3)), (a4, .inl (cA 0, 128, .inl f4))] H := hP
              have hD : va_D A [(mo, .inr (8, [.int zt, .int (nI L.length), .ref ta, .int (nI np), .ref aN, .ref aS, .ref aC, .int (nI tot), .ref aB, .int (bz_c rd), .int (nI rt), .int (nI pl), .ref aR, .ref aO, .int (nI sg), .ref aW, .int (bz_c mp), .int (nI rn), .int (nI rs), .int (bz_c gd), .ref aD, .int (nI X.length), .ref a1, .ref a2, .ref a3, .ref a4, .int (nI ((T1 ++ dg_c sm).length)), .ref aL, .int (nI J.length), .ref aY, .int (nI ms), .ref aM, .int (nI ip), .int (nI it), .int ir, .int (nI il), .ref bN, .ref bS, .ref bC, .ref bB, .ref bR, .ref bO, .ref aU])), (aL, .inl (cA 1, 240, .inl lf2_121)), (aD, .inl (cA 1, 72, .inl df)), (aC, .inl (cA 0, 5, .inl bc)), (aB, .inl (cA 0, 64, .inl bf)), (a1, .inl (cA 0, 128, .inl f1)), (a2, .inl (cA 0, 128, .inl f2)), (a3, .inl (cA 0, 128, .inl f3)), (a4, .inl (cA 0, 128, .inl f4))] := hD
              exact hret (lf2_121, T1 ++ dg_c sm) _ _ _ 124 d_Mo_sayMismatches_124 ⟨hq121, by rw [hT1, hsm, show k = rs by omega, List.append_assoc]⟩ hP hD hS
            · intro h47
              refine lv_aload_n hx hb d_Mo_sayMismatches_50 rfl (lv_at hl 0 rfl) ?_
              refine lv_aload_n hx hb d_Mo_sayMismatches_51 rfl (lv_at hl 0 rfl) ?_
              refine va_get (C := RX8) (T := TX8) (N := 43) hx hb hts inX8 hown hK hP 0 rfl rfl 24 (by decide) (hts _ m_869) (fun _ h9 => h9) rfl d_Mo_sayMismatches_52 ?_
              refine lv_iload_n hx hb d_Mo_sayMismatches_55 rfl (lv_at hl 1 rfl) ?_
              refine wn_iald hx hb hK hP 7 0 rfl rfl (by omega) (by omega) d_Mo_sayMismatches_56 ?_
              refine wn_eq (y := nI xs) ((h3c.2.2 j (by rw [hx_len3]; exact hj)).trans ((hx_g3 hj).trans (by rw [hxe]))) ?_
              refine lv_iload hx hb d_Mo_sayMismatches_57 (lv_at hl 4 rfl) ?_
              refine ck_cV (C := "ReadMapperModel") (ci := 8) (rest := []) (wr := [(aL, .inl (cA 1, 240, .inl lf1)), (aC, .inl (cA 0, 5, .inl bc)), (aB, .inl (cA 0, 64, .inl bf)), (a1, .inl (cA 0, 128, .inl f1)), (a2, .inl (cA 0, 128, .inl f2)), (a3, .inl (cA 0, 128, .inl f3)), (a4, .inl (cA 0, 128, .inl f4))]) (ws2 := fun u => [(mo, .inr (8, [.int zt, .int (nI L.length), .ref ta, .int (nI np), .ref aN, .ref aS, .ref aC, .int (nI tot), .ref aB, .int (bz_c rd), .int (nI rt), .int (nI pl), .ref aR, .ref aO, .int (nI sg), .ref aW, .int (bz_c mp), .int (nI rn), .int (nI rs), .int (bz_c gd), .ref aD, .int (nI X.length), .ref a1, .ref a2, .ref a3, .ref a4, .int (nI T1.length), .ref aL, .int (nI J.length), .ref aY, .int (nI ms), .ref aM, .int (nI ip), .int (nI it), .int ir, .int (nI il), .ref bN, .ref bS, .ref bC, .ref bB, .ref bR, .ref bO, .ref aU])), (aL, .inl (cA 1, 240, .inl lf1)), (aD, .inl (cA 1, 72, .inl df)), (aC, .inl (cA 0, 5, .inl bc)), (aB, .inl (cA 0, 64, .inl bf)), (a1, .inl (cA 0, 128, .inl f1)), (a2, .inl (cA 0, 128, .inl f2)), (a3, .inl (cA 0, 128, .inl f3)), (a4, .inl (cA 0, 128, .inl f4))]) (c_Mo_onStrand l D cA K mo ta aN aS aC aB aR aO aW aD a1 a2 a3 a4 aL aY aM bN bS bC bB bR bO aU rd mp gd zt ir np tot rt pl sg rn rs X.length T1.length ms ip it il L J df RL F xs k hd hF hrl (by first | assumption | omega) (by first | assumption | omega)) hx hb hml hown hts hK hE hA hP hD hS k_Mo_onStrand m_1079 (by decide) 0 rfl rfl rfl hl.1 rfl (Nat.le_of_ble_eq_true rfl) d_Mo_sayMismatches_59  [0, 2] [1, 3, 4, 5, 6, 7, 8] [7, 0, 8, 1, 2, 3, 4, 5, 6] rfl rfl (by decide) (fun _ => rfl) (fun r59 u59 H locs hq59 hP hD hS => ?_)
              try dsimp only at hq59
              have hP : va_P D vwCl [(mo, .inr (8, [.int zt, .int (nI L.length), .ref ta, .int (nI np), .ref aN, .ref aS, .ref aC, .int (nI tot), .ref aB, .int (bz_c rd), .int (nI rt), .int (nI pl), .ref aR, .ref aO, .int (nI sg), .ref aW, .int (bz_c mp), .int (nI rn), .int (nI rs), .int (bz_c gd), .ref aD, .int (nI X.length), .ref a1, .ref a2, .ref a3, .ref a4, .int (nI T1.length), .ref aL, .int (nI J.length), .ref aY, .int (nI ms), .ref aM, .int (nI ip), .int (nI it), .int ir, .int (nI il), .ref bN, .ref bS, .ref bC, .ref bB, .ref bR, .ref bO, .ref aU])), (aL, .inl (cA 1, 240, .inl lf1)), (aD, .inl (cA 1, 72, .inl df)), (aC, .inl (cA 0, 5, .inl bc)), (aB, .inl (cA 0, 64, .inl bf)), (a1, .inl (cA 0, 128, .inl f1)), (a2, .inl (cA 0, 128, .inl f2)), (a3, .inl (cA 0, 128, .inl f3)), (a4, .inl (cA 0, 128, .inl f4))] H := hP
              have hD : va_D A [(mo, .inr (8, [.int zt, .int (nI L.length), .ref ta, .int (nI np), .ref aN, .ref aS, .ref aC, .int (nI tot), .ref aB, .int (bz_c rd), .int (nI rt), .int (nI pl), .ref aR, .ref aO, .int (nI sg), .ref aW, .int (bz_c mp), .int (nI rn), .int (nI rs), .int (bz_c gd), .ref aD, .int (nI X.length), .ref a1, .ref a2, .ref a3, .ref a4, .int (nI T1.length), .ref aL, .int (nI J.length), .ref aY, .int (nI ms), .ref aM, .int (nI ip), .int (nI it), .int ir, .int (nI il), .ref bN, .ref bS, .ref bC, .ref bB, .ref bR, .ref bO, .ref aU])), (aL, .inl (cA 1, 240, .inl lf1)), (aD, .inl (cA 1, 72, .inl df)), (aC, .inl (cA 0, 5, .inl bc)), (aB, .inl (cA 0, 64, .inl bf)), (a1, .inl (cA 0, 128, .inl f1)), (a2, .inl (cA 0, 128, .inl f2)), (a3, .inl (cA 0, 128, .inl f3)), (a4, .inl (cA 0, 128, .inl f4))] := hD
              subst r59
              refine lv_istore (lv' := [(5, .int (os_c F xs k)), (0, .ref mo), (1, .int (nI j)), (2, .int (nI fr)), (3, .int (nI sm)), (4, .int (nI k))]) hx hb d_Mo_sayMismatches_62 hl (by decide) rfl (fun ls hl => ?_)
              refine lv_iload hx hb d_Mo_sayMismatches_64 (lv_at hl 0 rfl) ?_
              refine lv_iconst (v := 5) hx hb d_Mo_sayMismatches_66 (by decide) ?_
              refine lv_icmp_eq (tgt := 84) hx hb d_Mo_sayMismatches_67 (by decide) ?_ ?_
              · intro h67
                refine lv_aload_n hx hb d_Mo_sayMismatches_84 rfl (lv_at hl 1 rfl) ?_
                refine lv_iload_n hx hb d_Mo_sayMismatches_85 rfl (lv_at hl 4 rfl) ?_
                refine ck_cVv (C := "ReadMapperModel") (ci := 8) (rest := []) (wr := [(aD, .inl (cA 1, 72, .inl df)), (aC, .inl (cA 0, 5, .inl bc)), (aB, .inl (cA 0, 64, .inl bf)), (a1, .inl (cA 0, 128, .inl f1)), (a2, .inl (cA 0, 128, .inl f2)), (a3, .inl (cA 0, 128, .inl f3)), (a4, .inl (cA 0, 128, .inl f4))]) (ws2 := fun u => [(mo, .inr (8, [.int zt, .int (nI L.length), .ref ta, .int (nI np), .ref aN, .ref aS, .ref aC, .int (nI tot), .ref aB, .int (bz_c rd), .int (nI rt), .int (nI pl), .ref aR, .ref aO, .int (nI sg), .ref aW, .int (bz_c mp), .int (nI rn), .int (nI rs), .int (bz_c gd), .ref aD, .int (nI X.length), .ref a1, .ref a2, .ref a3, .ref a4, .int (nI ((T1 ++ dg_c sm).length)), .ref aL, .int (nI J.length), .ref aY, .int (nI ms), .ref aM, .int (nI ip), .int (nI it), .int ir, .int (nI il), .ref bN, .ref bS, .ref bC, .ref bB, .ref bR, .ref bO, .ref aU])), (aL, .inl (cA 1, 240, .inl u)), (aD, .inl (cA 1, 72, .inl df)), (aC, .inl (cA 0, 5, .inl bc)), (aB, .inl (cA 0, 64, .inl bf)), (a1, .inl (cA 0, 128, .inl f1)), (a2, .inl (cA 0, 128, .inl f2)), (a3, .inl (cA 0, 128, .inl f3)), (a4, .inl (cA 0, 128, .inl f4))]) (c_Mo_sayNumber l D cA K mo ta aN aS aC aB aR aO aW aD a1 a2 a3 a4 aL aY aM bN bS bC bB bR bO aU rd mp gd zt ir np tot rt pl sg rn rs X.length ms ip it il L J T1 lf1 sm hy1 (by first | omega | (simp only [List.length_append, List.length_cons, List.length_nil]; omega)) (by omega)) hx hb hml hown hts hK hE hA hP hD hS k_Mo_sayNumber m_1114 (by decide) 0 rfl rfl rfl hl.1 rfl (Nat.le_of_ble_eq_true rfl) d_Mo_sayMismatches_86  [0, 1] [2, 3, 4, 5, 6, 7, 8] [7, 8, 0, 1, 2, 3, 4, 5, 6] rfl rfl (by decide) (fun _ => rfl) (fun u86 H locs hq86 hP hD hS => ?_)
                obtain ⟨lf2_86, rfl⟩ : ∃ z, z = u86 := ⟨_, rfl⟩
                try dsimp only at hq86
                have hP : va_P D vwCl [(mo, .inr (8, [.int zt, .int (nI L.length), .ref ta, .int (nI np), .ref aN, .ref aS, .ref aC, .int (nI tot), .ref aB, .int (bz_c rd), .int (nI rt), .int (nI pl), .ref aR, .ref aO, .int (nI sg), .ref aW, .int (bz_c mp), .int (nI rn), .int (nI rs), .int (bz_c gd), .ref aD, .int (nI X.length), .ref a1, .ref a2, .ref a3, .ref a4, .int (nI ((T1 ++ dg_c sm).length)), .ref aL, .int (nI J.length), .ref aY, .int (nI ms), .ref aM, .int (nI ip), .int (nI it), .int ir, .int (nI il), .ref bN, .ref bS, .ref bC, .ref bB, .ref bR, .ref bO, .ref aU])), (aL, .inl (cA 1, 240, .inl lf2_86)), (aD, .inl (cA 1, 72, .inl df)), (aC, .inl (cA 0, 5, .inl bc)), (aB, .inl (cA 0, 64, .inl bf)), (a1, .inl (cA 0, 128, .inl f1)), (a2, .inl (cA 0, 128, .inl f2)), (a3, .inl (cA 0, 128, .inl f3)), (a4, .inl (cA 0, 128, .inl f4))] H := hP
                have hD : va_D A [(mo, .inr (8, [.int zt, .int (nI L.length), .ref ta, .int (nI np), .ref aN, .ref aS, .ref aC, .int (nI tot), .ref aB, .int (bz_c rd), .int (nI rt), .int (nI pl), .ref aR, .ref aO, .int (nI sg), .ref aW, .int (bz_c mp), .int (nI rn), .int (nI rs), .int (bz_c gd), .ref aD, .int (nI X.length), .ref a1, .ref a2, .ref a3, .ref a4, .int (nI ((T1 ++ dg_c sm).length)), .ref aL, .int (nI J.length), .ref aY, .int (nI ms), .ref aM, .int (nI ip), .int (nI it), .int ir, .int (nI il), .ref bN, .ref bS, .ref bC, .ref bB, .ref bR, .ref bO, .ref aU])), (aL, .inl (cA 1, 240, .inl lf2_86)), (aD, .inl (cA 1, 72, .inl df)), (aC, .inl (cA 0, 5, .inl bc)), (aB, .inl (cA 0, 64, .inl bf)), (a1, .inl (cA 0, 128, .inl f1)), (a2, .inl (cA 0, 128, .inl f2)), (a3, .inl (cA 0, 128, .inl f3)), (a4, .inl (cA 0, 128, .inl f4))] := hD
                have hdl := dg_len sm
                refine lv_aload_n hx hb d_Mo_sayMismatches_89 rfl (lv_at hl 1 rfl) ?_
                refine lv_aload_n hx hb d_Mo_sayMismatches_90 rfl (lv_at hl 1 rfl) ?_
                refine va_get (C := RX8) (T := TX8) (N := 43) hx hb hts inX8 hown hK hP 0 rfl rfl 8 (by decide) (hts _ m_853) (fun _ h9 => h9) rfl d_Mo_sayMismatches_91 ?_
                refine lv_iload_n hx hb d_Mo_sayMismatches_94 rfl (lv_at hl 3 rfl) ?_
                refine lv_iload hx hb d_Mo_sayMismatches_95 (lv_at hl 5 rfl) ?_
                refine wn_iadd hx hb d_Mo_sayMismatches_97 ?_
                refine wn_iald hx hb hK hP 4 0 rfl rfl (by omega) (by omega) d_Mo_sayMismatches_98 ?_
                refine wn_eq (y := G ((tt_c q xp + xp + (xo - 1)) + k)) (mg_b hG hxp hfe (by omega)) ?_
                refine ck_cS (rest := [.ref mo]) (wr := [(mo, .inr (8, [.int zt, .int (nI L.length), .ref ta, .int (nI np), .ref aN, .ref aS, .ref aC, .int (nI tot), .ref aB, .int (bz_c rd), .int (nI rt), .int (nI pl), .ref aR, .ref aO, .int (nI sg), .ref aW, .int (bz_c mp), .int (nI rn), .int (nI rs), .int (bz_c gd), .ref aD, .int (nI X.length), .ref a1, .ref a2, .ref a3, .ref a4, .int (nI ((T1 ++ dg_c sm).length)), .ref aL, .int (nI J.length), .ref aY, .int (nI ms), .ref aM, .int (nI ip), .int (nI it), .int ir, .int (nI il), .ref bN, .ref bS, .ref bC, .ref bB, .ref bR, .ref bO, .ref aU])), (aL, .inl (cA 1, 240, .inl lf2_86)), (aD, .inl (cA 1, 72, .inl df)), (aC, .inl (cA 0, 5, .inl bc)), (aB, .inl (cA 0, 64, .inl bf)), (a1, .inl (cA 0, 128, .inl f1)), (a2, .inl (cA 0, 128, .inl f2)), (a3, .inl (cA 0, 128, .inl f3)), (a4, .inl (cA 0, 128, .inl f4))]) (ws2 := fun u => [(mo, .inr (8, [.int zt, .int (nI L.length), .ref ta, .int (nI np), .ref aN, .ref aS, .ref aC, .int (nI tot), .ref aB, .int (bz_c rd), .int (nI rt), .int (nI pl), .ref aR, .ref aO, .int (nI sg), .ref aW, .int (bz_c mp), .int (nI rn), .int (nI rs), .int (bz_c gd), .ref aD, .int (nI X.length), .ref a1, .ref a2, .ref a3, .ref a4, .int (nI ((T1 ++ dg_c sm).length)), .ref aL, .int (nI J.length), .ref aY, .int (nI ms), .ref aM, .int (nI ip), .int (nI it), .int ir, .int (nI il), .ref bN, .ref bS, .ref bC, .ref bB, .ref bR, .ref bO, .ref aU])), (aL, .inl (cA 1, 240, .inl lf2_86)), (aD, .inl (cA 1, 72, .inl df)), (aC, .inl (cA 0, 5, .inl bc)), (aB, .inl (cA 0, 64, .inl bf)), (a1, .inl (cA 0, 128, .inl f1)), (a2, .inl (cA 0, 128, .inl f2)), (a3, .inl (cA 0, 128, .inl f3)), (a4, .inl (cA 0, 128, .inl f4))]) (c_Mo_shown l D cA K (G ((tt_c q xp + xp + (xo - 1)) + k)) ) hx hb hml hown hts hK hE hA hP hD hS k_Mo_shown m_1134 (by decide) rfl hl.1 rfl (Nat.le_of_ble_eq_true rfl) d_Mo_sayMismatches_99 [] [0, 1, 2, 3, 4, 5, 6, 7, 8] [0, 1, 2, 3, 4, 5, 6, 7, 8] rfl rfl (by decide) (fun _ => rfl) (fun r99 u99 H locs hq99 hP hD hS => ?_)
                try dsimp only at hq99
                have hP : va_P D vwCl [(mo, .inr (8, [.int zt, .int (nI L.length), .ref ta, .int (nI np), .ref aN, .ref aS, .ref aC, .int (nI tot), .ref aB, .int (bz_c rd), .int (nI rt), .int (nI pl), .ref aR, .ref aO, .int (nI sg), .ref aW, .int (bz_c mp), .int (nI rn), .int (nI rs), .int (bz_c gd), .ref aD, .int (nI X.length), .ref a1, .ref a2, .ref a3, .ref a4, .int (nI ((T1 ++ dg_c sm).length)), .ref aL, .int (nI J.length), .ref aY, .int (nI ms), .ref aM, .int (nI ip), .int (nI it), .int ir, .int (nI il), .ref bN, .ref bS, .ref bC, .ref bB, .ref bR, .ref bO, .ref aU])), (aL, .inl (cA 1, 240, .inl lf2_86)), (aD, .inl (cA 1, 72, .inl df)), (aC, .inl (cA 0, 5, .inl bc)), (aB, .inl (cA 0, 64, .inl bf)), (a1, .inl (cA 0, 128, .inl f1)), (a2, .inl (cA 0, 128, .inl f2)), (a3, .inl (cA 0, 128, .inl f3)), (a4, .inl (cA 0, 128, .inl f4))] H := hP
                have hD : va_D A [(mo, .inr (8, [.int zt, .int (nI L.length), .ref ta, .int (nI np), .ref aN, .ref aS, .ref aC, .int (nI tot), .ref aB, .int (bz_c rd), .int (nI rt), .int (nI pl), .ref aR, .ref aO, .int (nI sg), .ref aW, .int (bz_c mp), .int (nI rn), .int (nI rs), .int (bz_c gd), .ref aD, .int (nI X.length), .ref a1, .ref a2, .ref a3, .ref a4, .int (nI ((T1 ++ dg_c sm).length)), .ref aL, .int (nI J.length), .ref aY, .int (nI ms), .ref aM, .int (nI ip), .int (nI it), .int ir, .int (nI il), .ref bN, .ref bS, .ref bC, .ref bB, .ref bR, .ref bO, .ref aU])), (aL, .inl (cA 1, 240, .inl lf2_86)), (aD, .inl (cA 1, 72, .inl df)), (aC, .inl (cA 0, 5, .inl bc)), (aB, .inl (cA 0, 64, .inl bf)), (a1, .inl (cA 0, 128, .inl f1)), (a2, .inl (cA 0, 128, .inl f2)), (a3, .inl (cA 0, 128, .inl f3)), (a4, .inl (cA 0, 128, .inl f4))] := hD
                subst r99
                refine ck_cVv (C := "ReadMapperModel") (ci := 8) (rest := []) (wr := [(aD, .inl (cA 1, 72, .inl df)), (aC, .inl (cA 0, 5, .inl bc)), (aB, .inl (cA 0, 64, .inl bf)), (a1, .inl (cA 0, 128, .inl f1)), (a2, .inl (cA 0, 128, .inl f2)), (a3, .inl (cA 0, 128, .inl f3)), (a4, .inl (cA 0, 128, .inl f4))]) (ws2 := fun u => [(mo, .inr (8, [.int zt, .int (nI L.length), .ref ta, .int (nI np), .ref aN, .ref aS, .ref aC, .int (nI tot), .ref aB, .int (bz_c rd), .int (nI rt), .int (nI pl), .ref aR, .ref aO, .int (nI sg), .ref aW, .int (bz_c mp), .int (nI rn), .int (nI rs), .int (bz_c gd), .ref aD, .int (nI X.length), .ref a1, .ref a2, .ref a3, .ref a4, .int (nI (((T1 ++ dg_c sm) ++ [(lt_c (G ((tt_c q xp + xp + (xo - 1)) + k)))]).length)), .ref aL, .int (nI J.length), .ref aY, .int (nI ms), .ref aM, .int (nI ip), .int (nI it), .int ir, .int (nI il), .ref bN, .ref bS, .ref bC, .ref bB, .ref bR, .ref bO, .ref aU])), (aL, .inl (cA 1, 240, .inl u)), (aD, .inl (cA 1, 72, .inl df)), (aC, .inl (cA 0, 5, .inl bc)), (aB, .inl (cA 0, 64, .inl bf)), (a1, .inl (cA 0, 128, .inl f1)), (a2, .inl (cA 0, 128, .inl f2)), (a3, .inl (cA 0, 128, .inl f3)), (a4, .inl (cA 0, 128, .inl f4))]) (c_Mo_say l D cA K mo ta aN aS aC aB aR aO aW aD a1 a2 a3 a4 aL aY aM bN bS bC bB bR bO aU rd mp gd zt ir np tot rt pl sg rn rs X.length ms ip it il L J (T1 ++ dg_c sm) lf2_86 (lt_c (G ((tt_c q xp + xp + (xo - 1)) + k))) (by first | assumption | omega) (by first | omega | (simp only [List.length_append, List.length_cons, List.length_nil]; omega)) (lt_ch _)) hx hb hml hown hts hK hE hA hP hD hS k_Mo_say m_1098 (by decide) 0 rfl rfl rfl hl.1 rfl (Nat.le_of_ble_eq_true rfl) d_Mo_sayMismatches_102  [0, 1] [2, 3, 4, 5, 6, 7, 8] [7, 8, 0, 1, 2, 3, 4, 5, 6] rfl rfl (by decide) (fun _ => rfl) (fun u102 H locs hq102 hP hD hS => ?_)
                obtain ⟨lf2_102, rfl⟩ : ∃ z, z = u102 := ⟨_, rfl⟩
                try dsimp only at hq102
                have hP : va_P D vwCl [(mo, .inr (8, [.int zt, .int (nI L.length), .ref ta, .int (nI np), .ref aN, .ref aS, .ref aC, .int (nI tot), .ref aB, .int (bz_c rd), .int (nI rt), .int (nI pl), .ref aR, .ref aO, .int (nI sg), .ref aW, .int (bz_c mp), .int (nI rn), .int (nI rs), .int (bz_c gd), .ref aD, .int (nI X.length), .ref a1, .ref a2, .ref a3, .ref a4, .int (nI (((T1 ++ dg_c sm) ++ [(lt_c (G ((tt_c q xp + xp + (xo - 1)) + k)))]).length)), .ref aL, .int (nI J.length), .ref aY, .int (nI ms), .ref aM, .int (nI ip), .int (nI it), .int ir, .int (nI il), .ref bN, .ref bS, .ref bC, .ref bB, .ref bR, .ref bO, .ref aU])), (aL, .inl (cA 1, 240, .inl lf2_102)), (aD, .inl (cA 1, 72, .inl df)), (aC, .inl (cA 0, 5, .inl bc)), (aB, .inl (cA 0, 64, .inl bf)), (a1, .inl (cA 0, 128, .inl f1)), (a2, .inl (cA 0, 128, .inl f2)), (a3, .inl (cA 0, 128, .inl f3)), (a4, .inl (cA 0, 128, .inl f4))] H := hP
                have hD : va_D A [(mo, .inr (8, [.int zt, .int (nI L.length), .ref ta, .int (nI np), .ref aN, .ref aS, .ref aC, .int (nI tot), .ref aB, .int (bz_c rd), .int (nI rt), .int (nI pl), .ref aR, .ref aO, .int (nI sg), .ref aW, .int (bz_c mp), .int (nI rn), .int (nI rs), .int (bz_c gd), .ref aD, .int (nI X.length), .ref a1, .ref a2, .ref a3, .ref a4, .int (nI (((T1 ++ dg_c sm) ++ [(lt_c (G ((tt_c q xp + xp + (xo - 1)) + k)))]).length)), .ref aL, .int (nI J.length), .ref aY, .int (nI ms), .ref aM, .int (nI ip), .int (nI it), .int ir, .int (nI il), .ref bN, .ref bS, .ref bC, .ref bB, .ref bR, .ref bO, .ref aU])), (aL, .inl (cA 1, 240, .inl lf2_102)), (aD, .inl (cA 1, 72, .inl df)), (aC, .inl (cA 0, 5, .inl bc)), (aB, .inl (cA 0, 64, .inl bf)), (a1, .inl (cA 0, 128, .inl f1)), (a2, .inl (cA 0, 128, .inl f2)), (a3, .inl (cA 0, 128, .inl f3)), (a4, .inl (cA 0, 128, .inl f4))] := hD
                refine lv_iconst (v := nI 0) hx hb d_Mo_sayMismatches_105 (by decide) ?_
                refine lv_istore_n (lv' := [(3, .int (nI 0)), (5, .int (os_c F xs k)), (0, .ref mo), (1, .int (nI j)), (2, .int (nI fr)), (4, .int (nI k))]) hx hb d_Mo_sayMismatches_106 rfl hl (by decide) rfl (fun ls hl => ?_)
                refine lv_goto (tgt := 113) hx hb d_Mo_sayMismatches_107 (by decide) ?_
                refine lv_iinc (k := 5) (v := nI (k + 1)) (lv' := [(4, .int (nI (k + 1))), (3, .int (nI 0)), (5, .int (os_c F xs k)), (0, .ref mo), (1, .int (nI j)), (2, .int (nI fr))]) hx hb d_Mo_sayMismatches_113 hl rfl (wi_inc1 _) (by decide) rfl (fun ls hl => ?_)
                refine lv_goto (tgt := 41) hx hb d_Mo_sayMismatches_116 (by decide) ?_
                exact ih41 _ (by omega) 0 (k + 1) ((T1 ++ dg_c sm) ++ [(lt_c (G ((tt_c q xp + xp + (xo - 1)) + k)))]) lf2_102 _ _ _ rfl (by first | assumption | omega) (by first | exact (ms_1 (mt_d h67 h81)).symm | exact (ms_1 (mt_d2 h67)).symm | (rw [hsm]; exact (ms_0 (mt_e h67 h81)).symm)) (by first | (rw [hT1, hsm, List.append_assoc, List.append_assoc, mt_1 (mt_d h67 h81), List.append_assoc]) | (rw [hT1, hsm, List.append_assoc, List.append_assoc, mt_1 (mt_d2 h67), List.append_assoc]) | (rw [hT1, mt_0 (mt_e h67 h81)])) (by first | exact hq102 | exact hy1) hP hD hS (lv_sub hl [3, 4, 5, 1, 0] rfl)
              · intro h67
                refine lv_iload hx hb d_Mo_sayMismatches_70 (lv_at hl 0 rfl) ?_
                refine lv_aload_n hx hb d_Mo_sayMismatches_72 rfl (lv_at hl 1 rfl) ?_
                refine va_get (C := RX8) (T := TX8) (N := 43) hx hb hts inX8 hown hK hP 0 rfl rfl 8 (by decide) (hts _ m_853) (fun _ h9 => h9) rfl d_Mo_sayMismatches_73 ?_
                refine lv_iload_n hx hb d_Mo_sayMismatches_76 rfl (lv_at hl 3 rfl) ?_
                refine lv_iload hx hb d_Mo_sayMismatches_77 (lv_at hl 5 rfl) ?_
                refine wn_iadd hx hb d_Mo_sayMismatches_79 ?_
                refine wn_iald hx hb hK hP 4 0 rfl rfl (by omega) (by omega) d_Mo_sayMismatches_80 ?_
                refine wn_eq (y := G ((tt_c q xp + xp + (xo - 1)) + k)) (mg_b hG hxp hfe (by omega)) ?_
                refine lv_icmp_eq (tgt := 110) hx hb d_Mo_sayMismatches_81 (by decide) ?_ ?_
                · intro h81
                  refine lv_iinc (k := 4) (v := nI (sm + 1)) (lv' := [(3, .int (nI (sm + 1))), (5, .int (os_c F xs k)), (0, .ref mo), (1, .int (nI j)), (2, .int (nI fr)), (4, .int (nI k))]) hx hb d_Mo_sayMismatches_110 hl rfl (wi_inc1 _) (by decide) rfl (fun ls hl => ?_)
                  refine lv_iinc (k := 5) (v := nI (k + 1)) (lv' := [(4, .int (nI (k + 1))), (3, .int (nI (sm + 1))), (5, .int (os_c F xs k)), (0, .ref mo), (1, .int (nI j)), (2, .int (nI fr))]) hx hb d_Mo_sayMismatches_113 hl rfl (wi_inc1 _) (by decide) rfl (fun ls hl => ?_)
                  refine lv_goto (tgt := 41) hx hb d_Mo_sayMismatches_116 (by decide) ?_
                  exact ih41 _ (by omega) (sm + 1) (k + 1) T1 lf1 _ _ _ rfl (by first | assumption | omega) (by first | exact (ms_1 (mt_d h67 h81)).symm | exact (ms_1 (mt_d2 h67)).symm | (rw [hsm]; exact (ms_0 (mt_e h67 h81)).symm)) (by first | (rw [hT1, hsm, List.append_assoc, List.append_assoc, mt_1 (mt_d h67 h81), List.append_assoc]) | (rw [hT1, hsm, List.append_assoc, List.append_assoc, mt_1 (mt_d2 h67), List.append_assoc]) | (rw [hT1, mt_0 (mt_e h67 h81)])) (by first | exact hq102 | exact hy1) hP hD hS (lv_sub hl [3, 4, 5, 1, 0] rfl)
                · intro h81
                  refine lv_aload_n hx hb d_Mo_sayMismatches_84 rfl (lv_at hl 1 rfl) ?_
                  refine lv_iload_n hx hb d_Mo_sayMismatches_85 rfl (lv_at hl 4 rfl) ?_
                  refine ck_cVv (C := "ReadMapperModel") (ci := 8) (rest := []) (wr := [(aD, .inl (cA 1, 72, .inl df)), (aC, .inl (cA 0, 5, .inl bc)), (aB, .inl (cA 0, 64, .inl bf)), (a1, .inl (cA 0, 128, .inl f1)), (a2, .inl (cA 0, 128, .inl f2)), (a3, .inl (cA 0, 128, .inl f3)), (a4, .inl (cA 0, 128, .inl f4))]) (ws2 := fun u => [(mo, .inr (8, [.int zt, .int (nI L.length), .ref ta, .int (nI np), .ref aN, .ref aS, .ref aC, .int (nI tot), .ref aB, .int (bz_c rd), .int (nI rt), .int (nI pl), .ref aR, .ref aO, .int (nI sg), .ref aW, .int (bz_c mp), .int (nI rn), .int (nI rs), .int (bz_c gd), .ref aD, .int (nI X.length), .ref a1, .ref a2, .ref a3, .ref a4, .int (nI ((T1 ++ dg_c sm).length)), .ref aL, .int (nI J.length), .ref aY, .int (nI ms), .ref aM, .int (nI ip), .int (nI it), .int ir, .int (nI il), .ref bN, .ref bS, .ref bC, .ref bB, .ref bR, .ref bO, .ref aU])), (aL, .inl (cA 1, 240, .inl u)), (aD, .inl (cA 1, 72, .inl df)), (aC, .inl (cA 0, 5, .inl bc)), (aB, .inl (cA 0, 64, .inl bf)), (a1, .inl (cA 0, 128, .inl f1)), (a2, .inl (cA 0, 128, .inl f2)), (a3, .inl (cA 0, 128, .inl f3)), (a4, .inl (cA 0, 128, .inl f4))]) (c_Mo_sayNumber l D cA K mo ta aN aS aC aB aR aO aW aD a1 a2 a3 a4 aL aY aM bN bS bC bB bR bO aU rd mp gd zt ir np tot rt pl sg rn rs X.length ms ip it il L J T1 lf1 sm hy1 (by first | omega | (simp only [List.length_append, List.length_cons, List.length_nil]; omega)) (by omega)) hx hb hml hown hts hK hE hA hP hD hS k_Mo_sayNumber m_1114 (by decide) 0 rfl rfl rfl hl.1 rfl (Nat.le_of_ble_eq_true rfl) d_Mo_sayMismatches_86  [0, 1] [2, 3, 4, 5, 6, 7, 8] [7, 8, 0, 1, 2, 3, 4, 5, 6] rfl rfl (by decide) (fun _ => rfl) (fun u86 H locs hq86 hP hD hS => ?_)
                  obtain ⟨lf2_86, rfl⟩ : ∃ z, z = u86 := ⟨_, rfl⟩
                  try dsimp only at hq86
                  have hP : va_P D vwCl [(mo, .inr (8, [.int zt, .int (nI L.length), .ref ta, .int (nI np), .ref aN, .ref aS, .ref aC, .int (nI tot), .ref aB, .int (bz_c rd), .int (nI rt), .int (nI pl), .ref aR, .ref aO, .int (nI sg), .ref aW, .int (bz_c mp), .int (nI rn), .int (nI rs), .int (bz_c gd), .ref aD, .int (nI X.length), .ref a1, .ref a2, .ref a3, .ref a4, .int (nI ((T1 ++ dg_c sm).length)), .ref aL, .int (nI J.length), .ref aY, .int (nI ms), .ref aM, .int (nI ip), .int (nI it), .int ir, .int (nI il), .ref bN, .ref bS, .ref bC, .ref bB, .ref bR, .ref bO, .ref aU])), (aL, .inl (cA 1, 240, .inl lf2_86)), (aD, .inl (cA 1, 72, .inl df)), (aC, .inl (cA 0, 5, .inl bc)), (aB, .inl (cA 0, 64, .inl bf)), (a1, .inl (cA 0, 128, .inl f1)), (a2, .inl (cA 0, 128, .inl f2)), (a3, .inl (cA 0, 128, .inl f3)), (a4, .inl (cA 0, 128, .inl f4))] H := hP
                  have hD : va_D A [(mo, .inr (8, [.int zt, .int (nI L.length), .ref ta, .int (nI np), .ref aN, .ref aS, .ref aC, .int (nI tot), .ref aB, .int (bz_c rd), .int (nI rt), .int (nI pl), .ref aR, .ref aO, .int (nI sg), .ref aW, .int (bz_c mp), .int (nI rn), .int (nI rs), .int (bz_c gd), .ref aD, .int (nI X.length), .ref a1, .ref a2, .ref a3, .ref a4, .int (nI ((T1 ++ dg_c sm).length)), .ref aL, .int (nI J.length), .ref aY, .int (nI ms), .ref aM, .int (nI ip), .int (nI it), .int ir, .int (nI il), .ref bN, .ref bS, .ref bC, .ref bB, .ref bR, .ref bO, .ref aU])), (aL, .inl (cA 1, 240, .inl lf2_86)), (aD, .inl (cA 1, 72, .inl df)), (aC, .inl (cA 0, 5, .inl bc)), (aB, .inl (cA 0, 64, .inl bf)), (a1, .inl (cA 0, 128, .inl f1)), (a2, .inl (cA 0, 128, .inl f2)), (a3, .inl (cA 0, 128, .inl f3)), (a4, .inl (cA 0, 128, .inl f4))] := hD
                  have hdl := dg_len sm
                  refine lv_aload_n hx hb d_Mo_sayMismatches_89 rfl (lv_at hl 1 rfl) ?_
                  refine lv_aload_n hx hb d_Mo_sayMismatches_90 rfl (lv_at hl 1 rfl) ?_
                  refine va_get (C := RX8) (T := TX8) (N := 43) hx hb hts inX8 hown hK hP 0 rfl rfl 8 (by decide) (hts _ m_853) (fun _ h9 => h9) rfl d_Mo_sayMismatches_91 ?_
                  refine lv_iload_n hx hb d_Mo_sayMismatches_94 rfl (lv_at hl 3 rfl) ?_
                  refine lv_iload hx hb d_Mo_sayMismatches_95 (lv_at hl 5 rfl) ?_
                  refine wn_iadd hx hb d_Mo_sayMismatches_97 ?_
                  refine wn_iald hx hb hK hP 4 0 rfl rfl (by omega) (by omega) d_Mo_sayMismatches_98 ?_
                  refine wn_eq (y := G ((tt_c q xp + xp + (xo - 1)) + k)) (mg_b hG hxp hfe (by omega)) ?_
                  refine ck_cS (rest := [.ref mo]) (wr := [(mo, .inr (8, [.int zt, .int (nI L.length), .ref ta, .int (nI np), .ref aN, .ref aS, .ref aC, .int (nI tot), .ref aB, .int (bz_c rd), .int (nI rt), .int (nI pl), .ref aR, .ref aO, .int (nI sg), .ref aW, .int (bz_c mp), .int (nI rn), .int (nI rs), .int (bz_c gd), .ref aD, .int (nI X.length), .ref a1, .ref a2, .ref a3, .ref a4, .int (nI ((T1 ++ dg_c sm).length)), .ref aL, .int (nI J.length), .ref aY, .int (nI ms), .ref aM, .int (nI ip), .int (nI it), .int ir, .int (nI il), .ref bN, .ref bS, .ref bC, .ref bB, .ref bR, .ref bO, .ref aU])), (aL, .inl (cA 1, 240, .inl lf2_86)), (aD, .inl (cA 1, 72, .inl df)), (aC, .inl (cA 0, 5, .inl bc)), (aB, .inl (cA 0, 64, .inl bf)), (a1, .inl (cA 0, 128, .inl f1)), (a2, .inl (cA 0, 128, .inl f2)), (a3, .inl (cA 0, 128, .inl f3)), (a4, .inl (cA 0, 128, .inl f4))]) (ws2 := fun u => [(mo, .inr (8, [.int zt, .int (nI L.length), .ref ta, .int (nI np), .ref aN, .ref aS, .ref aC, .int (nI tot), .ref aB, .int (bz_c rd), .int (nI rt), .int (nI pl), .ref aR, .ref aO, .int (nI sg), .ref aW, .int (bz_c mp), .int (nI rn), .int (nI rs), .int (bz_c gd), .ref aD, .int (nI X.length), .ref a1, .ref a2, .ref a3, .ref a4, .int (nI ((T1 ++ dg_c sm).length)), .ref aL, .int (nI J.length), .ref aY, .int (nI ms), .ref aM, .int (nI ip), .int (nI it), .int ir, .int (nI il), .ref bN, .ref bS, .ref bC, .ref bB, .ref bR, .ref bO, .ref aU])), (aL, .inl (cA 1, 240, .inl lf2_86)), (aD, .inl (cA 1, 72, .inl df)), (aC, .inl (cA 0, 5, .inl bc)), (aB, .inl (cA 0, 64, .inl bf)), (a1, .inl (cA 0, 128, .inl f1)), (a2, .inl (cA 0, 128, .inl f2)), (a3, .inl (cA 0, 128, .inl f3)), (a4, .inl (cA 0, 128, .inl f4))]) (c_Mo_shown l D cA K (G ((tt_c q xp + xp + (xo - 1)) + k)) ) hx hb hml hown hts hK hE hA hP hD hS k_Mo_shown m_1134 (by decide) rfl hl.1 rfl (Nat.le_of_ble_eq_true rfl) d_Mo_sayMismatches_99 [] [0, 1, 2, 3, 4, 5, 6, 7, 8] [0, 1, 2, 3, 4, 5, 6, 7, 8] rfl rfl (by decide) (fun _ => rfl) (fun r99 u99 H locs hq99 hP hD hS => ?_)
                  try dsimp only at hq99
                  have hP : va_P D vwCl [(mo, .inr (8, [.int zt, .int (nI L.length), .ref ta, .int (nI np), .ref aN, .ref aS, .ref aC, .int (nI tot), .ref aB, .int (bz_c rd), .int (nI rt), .int (nI pl), .ref aR, .ref aO, .int (nI sg), .ref aW, .int (bz_c mp), .int (nI rn), .int (nI rs), .int (bz_c gd), .ref aD, .int (nI X.length), .ref a1, .ref a2, .ref a3, .ref a4, .int (nI ((T1 ++ dg_c sm).length)), .ref aL, .int (nI J.length), .ref aY, .int (nI ms), .ref aM, .int (nI ip), .int (nI it), .int ir, .int (nI il), .ref bN, .ref bS, .ref bC, .ref bB, .ref bR, .ref bO, .ref aU])), (aL, .inl (cA 1, 240, .inl lf2_86)), (aD, .inl (cA 1, 72, .inl df)), (aC, .inl (cA 0, 5, .inl bc)), (aB, .inl (cA 0, 64, .inl bf)), (a1, .inl (cA 0, 128, .inl f1)), (a2, .inl (cA 0, 128, .inl f2)), (a3, .inl (cA 0, 128, .inl f3)), (a4, .inl (cA 0, 128, .inl f4))] H := hP
                  have hD : va_D A [(mo, .inr (8, [.int zt, .int (nI L.length), .ref ta, .int (nI np), .ref aN, .ref aS, .ref aC, .int (nI tot), .ref aB, .int (bz_c rd), .int (nI rt), .int (nI pl), .ref aR, .ref aO, .int (nI sg), .ref aW, .int (bz_c mp), .int (nI rn), .int (nI rs), .int (bz_c gd), .ref aD, .int (nI X.length), .ref a1, .ref a2, .ref a3, .ref a4, .int (nI ((T1 ++ dg_c sm).length)), .ref aL, .int (nI J.length), .ref aY, .int (nI ms), .ref aM, .int (nI ip), .int (nI it), .int ir, .int (nI il), .ref bN, .ref bS, .ref bC, .ref bB, .ref bR, .ref bO, .ref aU])), (aL, .inl (cA 1, 240, .inl lf2_86)), (aD, .inl (cA 1, 72, .inl df)), (aC, .inl (cA 0, 5, .inl bc)), (aB, .inl (cA 0, 64, .inl bf)), (a1, .inl (cA 0, 128, .inl f1)), (a2, .inl (cA 0, 128, .inl f2)), (a3, .inl (cA 0, 128, .inl f3)), (a4, .inl (cA 0, 128, .inl f4))] := hD
                  subst r99
                  refine ck_cVv (C := "ReadMapperModel") (ci := 8) (rest := []) (wr := [(aD, .inl (cA 1, 72, .inl df)), (aC, .inl (cA 0, 5, .inl bc)), (aB, .inl (cA 0, 64, .inl bf)), (a1, .inl (cA 0, 128, .inl f1)), (a2, .inl (cA 0, 128, .inl f2)), (a3, .inl (cA 0, 128, .inl f3)), (a4, .inl (cA 0, 128, .inl f4))]) (ws2 := fun u => [(mo, .inr (8, [.int zt, .int (nI L.length), .ref ta, .int (nI np), .ref aN, .ref aS, .ref aC, .int (nI tot), .ref aB, .int (bz_c rd), .int (nI rt), .int (nI pl), .ref aR, .ref aO, .int (nI sg), .ref aW, .int (bz_c mp), .int (nI rn), .int (nI rs), .int (bz_c gd), .ref aD, .int (nI X.length), .ref a1, .ref a2, .ref a3, .ref a4, .int (nI (((T1 ++ dg_c sm) ++ [(lt_c (G ((tt_c q xp + xp + (xo - 1)) + k)))]).length)), .ref aL, .int (nI J.length), .ref aY, .int (nI ms), .ref aM, .int (nI ip), .int (nI it), .int ir, .int (nI il), .ref bN, .ref bS, .ref bC, .ref bB, .ref bR, .ref bO, .ref aU])), (aL, .inl (cA 1, 240, .inl u)), (aD, .inl (cA 1, 72, .inl df)), (aC, .inl (cA 0, 5, .inl bc)), (aB, .inl (cA 0, 64, .inl bf)), (a1, .inl (cA 0, 128, .inl f1)), (a2, .inl (cA 0, 128, .inl f2)), (a3, .inl (cA 0, 128, .inl f3)), (a4, .inl (cA 0, 128, .inl f4))]) (c_Mo_say l D cA K mo ta aN aS aC aB aR aO aW aD a1 a2 a3 a4 aL aY aM bN bS bC bB bR bO aU rd mp gd zt ir np tot rt pl sg rn rs X.length ms ip it il L J (T1 ++ dg_c sm) lf2_86 (lt_c (G ((tt_c q xp + xp + (xo - 1)) + k))) (by first | assumption | omega) (by first | omega | (simp only [List.length_append, List.length_cons, List.length_nil]; omega)) (lt_ch _)) hx hb hml hown hts hK hE hA hP hD hS k_Mo_say m_1098 (by decide) 0 rfl rfl rfl hl.1 rfl (Nat.le_of_ble_eq_true rfl) d_Mo_sayMismatches_102  [0, 1] [2, 3, 4, 5, 6, 7, 8] [7, 8, 0, 1, 2, 3, 4, 5, 6] rfl rfl (by decide) (fun _ => rfl) (fun u102 H locs hq102 hP hD hS => ?_)
                  obtain ⟨lf2_102, rfl⟩ : ∃ z, z = u102 := ⟨_, rfl⟩
                  try dsimp only at hq102
                  have hP : va_P D vwCl [(mo, .inr (8, [.int zt, .int (nI L.length), .ref ta, .int (nI np), .ref aN, .ref aS, .ref aC, .int (nI tot), .ref aB, .int (bz_c rd), .int (nI rt), .int (nI pl), .ref aR, .ref aO, .int (nI sg), .ref aW, .int (bz_c mp), .int (nI rn), .int (nI rs), .int (bz_c gd), .ref aD, .int (nI X.length), .ref a1, .ref a2, .ref a3, .ref a4, .int (nI (((T1 ++ dg_c sm) ++ [(lt_c (G ((tt_c q xp + xp + (xo - 1)) + k)))]).length)), .ref aL, .int (nI J.length), .ref aY, .int (nI ms), .ref aM, .int (nI ip), .int (nI it), .int ir, .int (nI il), .ref bN, .ref bS, .ref bC, .ref bB, .ref bR, .ref bO, .ref aU])), (aL, .inl (cA 1, 240, .inl lf2_102)), (aD, .inl (cA 1, 72, .inl df)), (aC, .inl (cA 0, 5, .inl bc)), (aB, .inl (cA 0, 64, .inl bf)), (a1, .inl (cA 0, 128, .inl f1)), (a2, .inl (cA 0, 128, .inl f2)), (a3, .inl (cA 0, 128, .inl f3)), (a4, .inl (cA 0, 128, .inl f4))] H := hP
                  have hD : va_D A [(mo, .inr (8, [.int zt, .int (nI L.length), .ref ta, .int (nI np), .ref aN, .ref aS, .ref aC, .int (nI tot), .ref aB, .int (bz_c rd), .int (nI rt), .int (nI pl), .ref aR, .ref aO, .int (nI sg), .ref aW, .int (bz_c mp), .int (nI rn), .int (nI rs), .int (bz_c gd), .ref aD, .int (nI X.length), .ref a1, .ref a2, .ref a3, .ref a4, .int (nI (((T1 ++ dg_c sm) ++ [(lt_c (G ((tt_c q xp + xp + (xo - 1)) + k)))]).length)), .ref aL, .int (nI J.length), .ref aY, .int (nI ms), .ref aM, .int (nI ip), .int (nI it), .int ir, .int (nI il), .ref bN, .ref bS, .ref bC, .ref bB, .ref bR, .ref bO, .ref aU])), (aL, .inl (cA 1, 240, .inl lf2_102)), (aD, .inl (cA 1, 72, .inl df)), (aC, .inl (cA 0, 5, .inl bc)), (aB, .inl (cA 0, 64, .inl bf)), (a1, .inl (cA 0, 128, .inl f1)), (a2, .inl (cA 0, 128, .inl f2)), (a3, .inl (cA 0, 128, .inl f3)), (a4, .inl (cA 0, 128, .inl f4))] := hD
                  refine lv_iconst (v := nI 0) hx hb d_Mo_sayMismatches_105 (by decide) ?_
                  refine lv_istore_n (lv' := [(3, .int (nI 0)), (5, .int (os_c F xs k)), (0, .ref mo), (1, .int (nI j)), (2, .int (nI fr)), (4, .int (nI k))]) hx hb d_Mo_sayMismatches_106 rfl hl (by decide) rfl (fun ls hl => ?_)
                  refine lv_goto (tgt := 113) hx hb d_Mo_sayMismatches_107 (by decide) ?_
                  refine lv_iinc (k := 5) (v := nI (k + 1)) (lv' := [(4, .int (nI (k + 1))), (3, .int (nI 0)), (5, .int (os_c F xs k)), (0, .ref mo), (1, .int (nI j)), (2, .int (nI fr))]) hx hb d_Mo_sayMismatches_113 hl rfl (wi_inc1 _) (by decide) rfl (fun ls hl => ?_)
                  refine lv_goto (tgt := 41) hx hb d_Mo_sayMismatches_116 (by decide) ?_
                  exact ih41 _ (by omega) 0 (k + 1) ((T1 ++ dg_c sm) ++ [(lt_c (G ((tt_c q xp + xp + (xo - 1)) + k)))]) lf2_102 _ _ _ rfl (by first | assumption | omega) (by first | exact (ms_1 (mt_d h67 h81)).symm | exact (ms_1 (mt_d2 h67)).symm | (rw [hsm]; exact (ms_0 (mt_e h67 h81)).symm)) (by first | (rw [hT1, hsm, List.append_assoc, List.append_assoc, mt_1 (mt_d h67 h81), List.append_assoc]) | (rw [hT1, hsm, List.append_assoc, List.append_assoc, mt_1 (mt_d2 h67), List.append_assoc]) | (rw [hT1, mt_0 (mt_e h67 h81)])) (by first | exact hq102 | exact hy1) hP hD hS (lv_sub hl [3, 4, 5, 1, 0] rfl)
        exact L41 _ 0 0 T lf _ _ _ rfl (by first | assumption | omega) rfl (List.append_nil _).symm (by first | assumption | omega) hP hD hS (lv_sub hl [2, 3, 4, 1, 0] rfl)
      · intro h18
        have hm2 : tt_c q (k + 1) ≤ tt_c q xp := tt_mono q h18
        have ht2 : tt_c q (k + 1) = tt_c q k + q k := rfl
        refine lv_iload_n hx hb d_Mo_sayMismatches_21 rfl (lv_at hl 2 rfl) ?_
        refine lv_aload_n hx hb d_Mo_sayMismatches_22 rfl (lv_at hl 0 rfl) ?_
        refine va_get (C := RX8) (T := TX8) (N := 43) hx hb hts inX8 hown hK hP 0 rfl rfl 6 (by decide) (hts _ m_851) (fun _ h9 => h9) rfl d_Mo_sayMismatches_23 ?_
        refine lv_iload_n hx hb d_Mo_sayMismatches_26 rfl (lv_at hl 3 rfl) ?_
        refine wn_iald hx hb hK hP 3 0 rfl rfl (by omega) (by omega) d_Mo_sayMismatches_27 ?_
        refine wn_eq (y := nI (q k)) (hbc k (by omega)) ?_
        refine wn_iadd hx hb d_Mo_sayMismatches_28 ?_
        refine lv_istore_n (lv' := [(2, .int (nI (fr + (q k)))), (0, .ref mo), (1, .int (nI j)), (3, .int (nI k))]) hx hb d_Mo_sayMismatches_29 rfl hl (by decide) rfl (fun ls hl => ?_)
        refine lv_iinc (k := 3) (v := nI (k + 1)) (lv' := [(3, .int (nI (k + 1))), (2, .int (nI (fr + (q k)))), (0, .ref mo), (1, .int (nI j))]) hx hb d_Mo_sayMismatches_30 hl rfl (wi_inc1 _) (by decide) rfl (fun ls hl => ?_)
        refine lv_goto (tgt := 11) hx hb d_Mo_sayMismatches_33 (by decide) ?_
        exact ih11 _ (by omega) (fr + (q k)) (k + 1) _ _ _ rfl (by first | assumption | omega) (by rw [hfr]; exact Nat.add_assoc _ _ _) hP hD hS (lv_sub hl [2, 3, 1, 0] rfl)
  exact L11 _ (xo - 1) 0 _ _ _ rfl (by first | assumption | omega) rfl hP hD hS (lv_sub hl [2, 3, 1, 0] rfl)
theorem k_Mo_sayMismatches : cf_V y_Mo_sayMismatches b_Mo_sayMismatches 6 none "ReadMapperModel" 1 := ⟨⟨m_1139, (wm_s (q := (y_Mo_sayMismatches, 43)) (by decide +kernel)), m_9, m_1140⟩, by decide +kernel⟩
