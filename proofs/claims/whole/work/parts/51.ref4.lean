/-! the reference: reads and their hits -/
theorem nl_pos {L : List Int32} {k : Nat} (h : nl_p L k) (hk : 0 < k) : k < L.length := by
  rcases h with h | ⟨e, _⟩
  · exact h.2.2.1
  · omega
theorem pr_nl {L : List Int32} {k e : Nat} (h : pr_ok L k e) : nl_y L k := by
  obtain ⟨h1, h2, ⟨a1, a2, a3, a4⟩, ⟨b1, b2, b3, b4⟩, h5⟩ := h
  refine ⟨a1, by omega, by omega, ?_, fun j hj => a4 j (Nat.zero_le _) hj⟩
  rcases h1 with z | z
  · omega
  · exact z.2.2.1
theorem sy_58 : sy_c 58 = -1 := by decide
theorem pr_nb {L : List Int32} {k e : Nat} (h : pr_ok L k e) : nb_p L (k + 1) e := by
  obtain ⟨h1, h2, h3, ⟨b1, b2, b3, b4⟩, h5⟩ := h
  refine ⟨by omega, Or.inl b3, fun j x y => b4 j x y, fun z => ?_⟩
  rcases h2 with y | y
  · omega
  · rw [y.2.2.1]; exact sy_58
theorem pr_b {L : List Int32} {k e : Nat} (hl : L.length ≤ 72) (h : pr_ok L k e) : 0 < k ∧ k + 1 < e ∧ e ≤ L.length ∧ e - (k + 1) ≤ 20 ∧ k ≤ 8 := ⟨h.2.2.1.1, h.2.2.2.1.1, h.2.2.2.1.2.2.1, h.2.2.2.1.2.1, by have := h.2.2.1.2.1; omega⟩
theorem ir_n {L : List Int32} {k1 k9 : Nat} (h1 : nl_p L k1) (h9 : nb_p L (k1 + 1) k9) (hz : ¬ pr_ok L k1 k9) : ¬ ∃ k e, pr_ok L k e := fun ⟨k, e, h⟩ => by
  have e1 := nl_un h1 (pr_nl h)
  subst e1
  have e2 := nb_un h9 (pr_nb h)
  subst e2
  exact hz h
theorem ir_y {L : List Int32} {k1 k9 : Nat} (h1 : nl_p L k1) (h9 : nb_p L (k1 + 1) k9) (h0 : 0 < k1) (ha : 1 ≤ (k9 - k1) - 1) (hb : (k9 - k1) - 1 ≤ 20) (hz : k9 = L.length ∨ (L.getD k9 0 = 58 ∧ ql_ok L (k9 + 1) (k9 - (k1 + 1)))) : pr_ok L k1 k9 := by
  have hp := nl_pos h1 h0
  rcases h1 with h1 | ⟨e, _⟩
  · obtain ⟨a, b, c, d, e⟩ := h1
    have hk : k9 ≤ L.length := by rcases h9.2.1 with y | y <;> omega
    refine ⟨Or.inr ⟨Nat.zero_le _, c, d, fun j _ hj e2 => nm_58 (e2 ▸ e j hj)⟩, ?_, ⟨a, by omega, by omega, fun j _ hj => e j hj⟩, ⟨by omega, by omega, hk, fun j x y => h9.2.2.1 j x y⟩, ?_⟩
    · have hn : ∀ j, k1 + 1 ≤ j → j < k9 → L.getD j 0 ≠ 58 := fun j x y z => h9.2.2.1 j x y (by rw [z]; exact sy_58)
      rcases hz with y | y
      · exact Or.inl ⟨y, fun j x z => hn j x (by omega)⟩
      · rcases Nat.lt_or_ge k9 L.length with u | u
        · exact Or.inr ⟨by omega, u, y.1, hn⟩
        · exact Or.inl ⟨by omega, fun j x z => hn j x (by omega)⟩
    · rcases hz with y | y
      · exact Or.inl y
      · exact Or.inr y.2
  · omega
theorem ig_1 {L : List Int32} {k9 m : Nat} (h1 : L.getD k9 0 = 58) (h2 : L.length - k9 - 1 = m) : true = true ↔ (L.getD k9 0 = 58 ∧ L.length - k9 - 1 = m ∧ ∀ j, k9 + 1 ≤ j → j < k9 + 1 → ql_c (L.getD j 0)) := ⟨fun _ => ⟨h1, h2, fun j x y => by omega⟩, fun _ => rfl⟩
theorem ig_3 {L : List Int32} {k9 m i : Nat} {g : Bool} (hg : g = true ↔ (L.getD k9 0 = 58 ∧ L.length - k9 - 1 = m ∧ ∀ j, k9 + 1 ≤ j → j < i → ql_c (L.getD j 0))) (h : bz_c g = 0) : false = true ↔ (L.getD k9 0 = 58 ∧ L.length - k9 - 1 = m ∧ ∀ j, k9 + 1 ≤ j → j < i + 1 → ql_c (L.getD j 0)) :=
  fg_2 (fun y => bz_n h (hg.mpr ⟨y.1, y.2.1, fun j x z => y.2.2 j x (by omega)⟩))
theorem ig_4 {L : List Int32} {k9 m i : Nat} (hi : k9 + 1 ≤ i) (h : ¬ ql_c (L.getD i 0)) : false = true ↔ (L.getD k9 0 = 58 ∧ L.length - k9 - 1 = m ∧ ∀ j, k9 + 1 ≤ j → j < i + 1 → ql_c (L.getD j 0)) := fg_2 (fun y => h (y.2.2 i hi (Nat.lt_succ_self i)))
theorem ig_5 {L : List Int32} {k9 m i : Nat} {g : Bool} (hg : g = true ↔ (L.getD k9 0 = 58 ∧ L.length - k9 - 1 = m ∧ ∀ j, k9 + 1 ≤ j → j < i → ql_c (L.getD j 0))) (h : g = true) (h2 : ql_c (L.getD i 0)) : true = true ↔ (L.getD k9 0 = 58 ∧ L.length - k9 - 1 = m ∧ ∀ j, k9 + 1 ≤ j → j < i + 1 → ql_c (L.getD j 0)) :=
  ⟨fun _ => have y := hg.mp h; ⟨y.1, y.2.1, fun j x z => if e : j = i then by subst e; exact h2 else y.2.2 j x (by omega)⟩, fun _ => rfl⟩
theorem ir_e {L : List Int32} {k1 k9 i : Nat} {g : Bool} (h1 : nl_p L k1) (h9 : nb_p L (k1 + 1) k9) (h0 : 0 < k1) (ha : 1 ≤ (k9 - k1) - 1) (hb : (k9 - k1) - 1 ≤ 20) (h7 : k9 < L.length) (hi : i = L.length)
    (hg : g = true ↔ (L.getD k9 0 = 58 ∧ L.length - k9 - 1 = (k9 - k1) - 1 ∧ ∀ j, k9 + 1 ≤ j → j < i → ql_c (L.getD j 0))) : (bz_c g = 1 ∧ ∃ k e, pr_ok L k e ∧ (k9 - k1) - 1 = (e - k) - 1) ∨ (bz_c g = 0 ∧ ¬ ∃ k e, pr_ok L k e) := by
  subst hi
  cases g with
  | true =>
    have y := hg.mp rfl
    exact Or.inl ⟨rfl, k1, k9, ir_y h1 h9 h0 ha hb (Or.inr ⟨y.1, by omega, fun j x z => y.2.2 j x z⟩), rfl⟩
  | false =>
    refine Or.inr ⟨rfl, ir_n h1 h9 (fun z => ?_)⟩
    obtain ⟨_, z2, _, _, z5⟩ := z
    have z6 : ql_ok L (k9 + 1) (k9 - (k1 + 1)) := by
      rcases z5 with z5 | z5
      · omega
      · exact z5
    have z7 : L.getD k9 0 = 58 := by
      rcases z2 with z2 | z2
      · omega
      · exact z2.2.2.1
    have := hg.mpr ⟨z7, by have := z6.1; omega, fun j x y => z6.2 j x y⟩
    exact absurd this (by decide)
/-- the base that the read has at k, on a strand -/
def os_c (F : List Int32) (sd k : Nat) : Int32 := (if sd = 0 then F else tb_c F 0).getD k 0
theorem os_len {RL F : List Int32} {rn rs : Nat} (hF : F = (sl_p RL (rn + 1) (rn + 1 + rs)).map sy_c) (h : rn + 1 + rs ≤ RL.length) : F.length = rs := by
  rw [hF, bs_len h]; omega
theorem os_g {RL F : List Int32} {rn rs k : Nat} (hF : F = (sl_p RL (rn + 1) (rn + 1 + rs)).map sy_c) (h : rn + 1 + rs ≤ RL.length) (hk : k < rs) : F.getD k 0 = sy_c (RL.getD (rn + 1 + k) 0) := by
  rw [hF, mp_get (by rw [sl_len h]; omega), sl_get (by omega)]
theorem os_0 {RL F : List Int32} {rn rs k sd : Nat} (hF : F = (sl_p RL (rn + 1) (rn + 1 + rs)).map sy_c) (h : rn + 1 + rs ≤ RL.length) (hk : k < rs) (hs : sd = 0) : os_c F sd k = sy_c (RL.getD (rn + 1 + k) 0) := by
  unfold os_c; rw [if_pos hs]; exact os_g hF h hk
theorem tb_g {F : List Int32} {k : Nat} (h : k < F.length) : (tb_c F 0).getD k 0 = cp_c (F.getD (F.length - 1 - k) 0) := by
  show ((F.reverse).map cp_c).getD k 0 = _
  rw [mp_get (by rw [List.length_reverse]; exact h)]
  congr 1
  rw [List.getD_eq_getElem?_getD, List.getD_eq_getElem?_getD, List.getElem?_reverse h]
theorem os_1 {RL F : List Int32} {rn rs k sd : Nat} (hF : F = (sl_p RL (rn + 1) (rn + 1 + rs)).map sy_c) (h : rn + 1 + rs ≤ RL.length) (hk : k < rs) (hs : ¬ sd = 0) : os_c F sd k = cp_c (sy_c (RL.getD (rn + rs - k) 0)) := by
  unfold os_c
  have hl := os_len hF h
  rw [if_neg hs, tb_g (by omega), hl, os_g hF h (by omega), show rn + 1 + (rs - 1 - k) = rn + rs - k by omega]
theorem os_ln {F : List Int32} {rs sd : Nat} (h : F.length = rs) : rs = (if sd = 0 then F else tb_c F 0).length := by
  split
  · exact h.symm
  · rw [tb_len]; omega
theorem mm_d1 {f : Nat → Int32} {o n k : Nat} {F : List Int32} {sd : Nat} (h : n = mm_c f o (if sd = 0 then F else tb_c F 0) k) (hd : ¬ os_c F sd k = f (o + k) ∨ os_c F sd k = 5) : n + 1 = mm_c f o (if sd = 0 then F else tb_c F 0) (k + 1) := by
  show _ = mm_c f o (if sd = 0 then F else tb_c F 0) k + df_n (f (o + k)) (os_c F sd k)
  rw [show df_n (f (o + k)) (os_c F sd k) = 1 from if_neg (fun z => hd.elim (fun y => y z.1.symm) (fun y => z.2 (z.1.trans y))), h]
theorem mm_d0 {f : Nat → Int32} {o n k : Nat} {F : List Int32} {sd : Nat} (h : n = mm_c f o (if sd = 0 then F else tb_c F 0) k) (h1 : os_c F sd k = f (o + k)) (h2 : ¬ os_c F sd k = 5) : n = mm_c f o (if sd = 0 then F else tb_c F 0) (k + 1) := by
  show _ = mm_c f o (if sd = 0 then F else tb_c F 0) k + df_n (f (o + k)) (os_c F sd k)
  rw [show df_n (f (o + k)) (os_c F sd k) = 0 from if_pos ⟨h1.symm, fun e => h2 (h1.trans e)⟩, h]; rfl
theorem mm_cg {f g : Nat → Int32} {a b n : Nat} {B : List Int32} (h : ∀ t, t < n → g (b + t) = f (a + t)) : mm_c f a B n = mm_c g b B n := by
  induction n with
  | zero => rfl
  | succ n ih =>
    show mm_c f a B n + df_n (f (a + n)) (B.getD n 0) = mm_c g b B n + df_n (g (b + n)) (B.getD n 0)
    rw [ih (fun t ht => h t (by omega)), h n (by omega)]
theorem mm_lb {f : Nat → Int32} {a k n : Nat} {B : List Int32} (h : k = mm_c f a B n) : k ≤ n := by
  subst h
  induction n with
  | zero => exact Nat.le_refl _
  | succ n ih =>
    have : df_n (f (a + n)) (B.getD n 0) ≤ 1 := by unfold df_n; split <;> omega
    show mm_c f a B n + df_n (f (a + n)) (B.getD n 0) ≤ n + 1
    omega
theorem hx_a1 {g : Nat → Int32} {X : List (Nat × Nat × Nat × Nat)} {a b c d : Nat} (h : cd_r 128 g (hp_c X)) (hl : X.length < 128) : cd_r 128 (upd g X.length (nI a)) (hp_c (X ++ [(a, b, c, d)])) := by
  have := cd_app (x := nI a) h (by rw [hx_len]; exact hl)
  rw [hx_len] at this; rw [hp_s]; exact this
theorem hx_a2 {g : Nat → Int32} {X : List (Nat × Nat × Nat × Nat)} {a b c d : Nat} (h : cd_r 128 g (hl_c X)) (hl : X.length < 128) : cd_r 128 (upd g X.length (nI b)) (hl_c (X ++ [(a, b, c, d)])) := by
  have := cd_app (x := nI b) h (by rw [hx_len2]; exact hl)
  rw [hx_len2] at this; rw [hl_s]; exact this
theorem hx_a3 {g : Nat → Int32} {X : List (Nat × Nat × Nat × Nat)} {a b c d : Nat} (h : cd_r 128 g (hs_c X)) (hl : X.length < 128) : cd_r 128 (upd g X.length (nI c)) (hs_c (X ++ [(a, b, c, d)])) := by
  have := cd_app (x := nI c) h (by rw [hx_len3]; exact hl)
  rw [hx_len3] at this; rw [hs_s]; exact this
theorem hx_a4 {g : Nat → Int32} {X : List (Nat × Nat × Nat × Nat)} {a b c d : Nat} (h : cd_r 128 g (hm_c X)) (hl : X.length < 128) : cd_r 128 (upd g X.length (nI d)) (hm_c (X ++ [(a, b, c, d)])) := by
  have := cd_app (x := nI d) h (by rw [hx_len4]; exact hl)
  rw [hx_len4] at this; rw [hm_s]; exact this
theorem hx_in {n : Nat} {i : Int32} (hn : n ≤ 1000) (h0 : ¬ i < 0) (h1 : ¬ nI n ≤ i) : ∃ k, k < n ∧ i = nI k := wr_num hn h0 (Int32.not_le.mp h1)
theorem in_neg {x : Int32} (h : x < 0) : x.toInt < 0 := Int32.lt_iff_toInt_lt.mp h
theorem in_3 {x : Int32} (h : ¬ x ≤ 3) : 3 < x.toInt := by
  have y := mt Int32.le_iff_toInt_le.mpr h
  have e3 : (3 : Int32).toInt = 3 := rfl
  omega
theorem ab_o1 {X : List (Nat × Nat × Nat × Nat)} {i x : Int32} (h : i < 0 ∨ nI X.length ≤ i) : ab_c X i x = -1 := by
  have key : ∀ L : List Int32, L.length = X.length → at_c L i = -1 := fun L e => h.elim at_neg (fun y => at_big (e ▸ y))
  unfold ab_c
  rw [key _ hx_len, key _ hx_len2, key _ hx_len3, key _ hx_len4]
  split <;> first | rfl | split <;> first | rfl | split <;> first | rfl | split <;> rfl
theorem ab_0 {X : List (Nat × Nat × Nat × Nat)} {k : Nat} {x : Int32} {c : Nat} (hk : k < X.length) (hl : X.length ≤ 128 ∧ c ≤ 1000) (h0 : x = 0) : (hp_c X).getD k 0 = ab_c X (nI k) x := by
  unfold ab_c; rw [if_pos h0, at_n (by rw [hx_len]; exact hk) (by rw [hx_len]; omega)]
theorem ab_1 {X : List (Nat × Nat × Nat × Nat)} {k : Nat} {x : Int32} {c : Nat} (hk : k < X.length) (hl : X.length ≤ 128 ∧ c ≤ 1000) (h0 : ¬ x = 0) (h1 : x = 1) : (hl_c X).getD k 0 = ab_c X (nI k) x := by
  unfold ab_c; rw [if_neg h0, if_pos h1, at_n (by rw [hx_len2]; exact hk) (by rw [hx_len2]; omega)]
theorem ab_2 {X : List (Nat × Nat × Nat × Nat)} {k : Nat} {x : Int32} {c : Nat} (hk : k < X.length) (hl : X.length ≤ 128 ∧ c ≤ 1000) (h0 : ¬ x = 0) (h1 : ¬ x = 1) (h2 : x = 2) : (hs_c X).getD k 0 = ab_c X (nI k) x := by
  unfold ab_c; rw [if_neg h0, if_neg h1, if_pos h2, at_n (by rw [hx_len3]; exact hk) (by rw [hx_len3]; omega)]
theorem ab_3 {X : List (Nat × Nat × Nat × Nat)} {k : Nat} {x : Int32} {c : Nat} (hk : k < X.length) (hl : X.length ≤ 128 ∧ c ≤ 1000) (ha : ¬ x < 0) (hb : x ≤ 3) (h0 : ¬ x = 0) (h1 : ¬ x = 1) (h2 : ¬ x = 2) : (hm_c X).getD k 0 = ab_c X (nI k) x := by
  have h3 : x = 3 := by
    rcases in_sw x with z | z | z | z | z
    · exact absurd z h0
    · exact absurd z h1
    · exact absurd z h2
    · exact z
    · rcases z with z | z
      · exact absurd (Int32.lt_iff_toInt_lt.mpr z) ha
      · have y := Int32.le_iff_toInt_le.mp hb
        have e3 : (3 : Int32).toInt = 3 := rfl
        omega
  unfold ab_c; rw [if_neg h0, if_neg h1, if_neg h2, if_pos h3, at_n (by rw [hx_len4]; exact hk) (by rw [hx_len4]; omega)]
theorem qq_i {c : Nat} (hc : c ≤ 1000) : (nI 23 - nI (3 * c)).toInt = 23 - 3 * (c : Int) := by
  rw [Int32.toInt_sub, nI_toInt (by omega), nI_toInt (by omega), Int.bmod_eq_of_le (by omega) (by omega)]
  omega
theorem qq_2 {c : Nat} (hc : c ≤ 1000) (h : nI 23 - nI (3 * c) < 2) : nI 2 = if 2 < nI 23 - nI (3 * c) then nI 23 - nI (3 * c) else 2 := by
  rw [if_neg]; rfl
  intro z
  have a := Int32.lt_iff_toInt_lt.mp h
  have b := Int32.lt_iff_toInt_lt.mp z
  omega
theorem qq_3 {c : Nat} (hc : c ≤ 1000) (h : ¬ nI 23 - nI (3 * c) < 2) : ∃ m, nI 23 - nI (3 * c) = nI m ∧ m ≤ 23 ∧ nI m = if 2 < nI 23 - nI (3 * c) then nI 23 - nI (3 * c) else 2 := by
  have a := mt Int32.lt_iff_toInt_lt.mpr h
  rw [qq_i hc] at a
  have e2 : (2 : Int32).toInt = 2 := rfl
  have e : nI 23 - nI (3 * c) = nI (23 - 3 * c) := by
    apply Int32.toInt_inj.mp
    rw [qq_i hc, nI_toInt (by omega)]; omega
  refine ⟨23 - 3 * c, e, by omega, ?_⟩
  by_cases z : 2 < nI 23 - nI (3 * c)
  · rw [if_pos z, e]
  · rw [if_neg z]
    have b := mt Int32.lt_iff_toInt_lt.mpr z
    rw [qq_i hc] at b
    rw [show 23 - 3 * c = 2 by omega]; rfl

theorem d_Mo_isRead_0 : decode b_Mo_isRead 0 = .ok (.aload_n 0, 1) := by decide +kernel
theorem d_Mo_isRead_1 : decode b_Mo_isRead 1 = .ok (.invokevirtual 100, 3) := by decide +kernel
theorem d_Mo_isRead_4 : decode b_Mo_isRead 4 = .ok (.istore_n 1, 1) := by decide +kernel
theorem d_Mo_isRead_5 : decode b_Mo_isRead 5 = .ok (.aload_n 0, 1) := by decide +kernel
theorem d_Mo_isRead_6 : decode b_Mo_isRead 6 = .ok (.iload_n 1, 1) := by decide +kernel
theorem d_Mo_isRead_7 : decode b_Mo_isRead 7 = .ok (.iconst 1, 1) := by decide +kernel
theorem d_Mo_isRead_8 : decode b_Mo_isRead 8 = .ok (.iadd, 1) := by decide +kernel
theorem d_Mo_isRead_9 : decode b_Mo_isRead 9 = .ok (.invokevirtual 104, 3) := by decide +kernel
theorem d_Mo_isRead_12 : decode b_Mo_isRead 12 = .ok (.istore_n 2, 1) := by decide +kernel
theorem d_Mo_isRead_13 : decode b_Mo_isRead 13 = .ok (.aload_n 0, 1) := by decide +kernel
theorem d_Mo_isRead_14 : decode b_Mo_isRead 14 = .ok (.iload_n 2, 1) := by decide +kernel
theorem d_Mo_isRead_15 : decode b_Mo_isRead 15 = .ok (.iload_n 1, 1) := by decide +kernel
theorem d_Mo_isRead_16 : decode b_Mo_isRead 16 = .ok (.isub, 1) := by decide +kernel
theorem d_Mo_isRead_17 : decode b_Mo_isRead 17 = .ok (.iconst 1, 1) := by decide +kernel
theorem d_Mo_isRead_18 : decode b_Mo_isRead 18 = .ok (.isub, 1) := by decide +kernel
theorem d_Mo_isRead_19 : decode b_Mo_isRead 19 = .ok (.putfield 153, 3) := by decide +kernel
theorem d_Mo_isRead_22 : decode b_Mo_isRead 22 = .ok (.iload_n 1, 1) := by decide +kernel
theorem d_Mo_isRead_23 : decode b_Mo_isRead 23 = .ok (.ifCond .eq 20, 3) := by decide +kernel
theorem d_Mo_isRead_26 : decode b_Mo_isRead 26 = .ok (.aload_n 0, 1) := by decide +kernel
theorem d_Mo_isRead_27 : decode b_Mo_isRead 27 = .ok (.getfield 153, 3) := by decide +kernel
theorem d_Mo_isRead_30 : decode b_Mo_isRead 30 = .ok (.iconst 1, 1) := by decide +kernel
theorem d_Mo_isRead_31 : decode b_Mo_isRead 31 = .ok (.if_icmp .lt 12, 3) := by decide +kernel
theorem d_Mo_isRead_34 : decode b_Mo_isRead 34 = .ok (.aload_n 0, 1) := by decide +kernel
theorem d_Mo_isRead_35 : decode b_Mo_isRead 35 = .ok (.getfield 153, 3) := by decide +kernel
theorem d_Mo_isRead_38 : decode b_Mo_isRead 38 = .ok (.bipush 20, 2) := by decide +kernel
theorem d_Mo_isRead_40 : decode b_Mo_isRead 40 = .ok (.if_icmp .le 5, 3) := by decide +kernel
theorem d_Mo_isRead_43 : decode b_Mo_isRead 43 = .ok (.iconst 0, 1) := by decide +kernel
theorem d_Mo_isRead_44 : decode b_Mo_isRead 44 = .ok (.ireturn, 1) := by decide +kernel
theorem d_Mo_isRead_45 : decode b_Mo_isRead 45 = .ok (.iload_n 2, 1) := by decide +kernel
theorem d_Mo_isRead_46 : decode b_Mo_isRead 46 = .ok (.aload_n 0, 1) := by decide +kernel
theorem d_Mo_isRead_47 : decode b_Mo_isRead 47 = .ok (.getfield 86, 3) := by decide +kernel
theorem d_Mo_isRead_50 : decode b_Mo_isRead 50 = .ok (.if_icmp .ne 5, 3) := by decide +kernel
theorem d_Mo_isRead_53 : decode b_Mo_isRead 53 = .ok (.iconst 1, 1) := by decide +kernel
theorem d_Mo_isRead_54 : decode b_Mo_isRead 54 = .ok (.ireturn, 1) := by decide +kernel
theorem d_Mo_isRead_55 : decode b_Mo_isRead 55 = .ok (.aload_n 0, 1) := by decide +kernel
theorem d_Mo_isRead_56 : decode b_Mo_isRead 56 = .ok (.getfield 7, 3) := by decide +kernel
theorem d_Mo_isRead_59 : decode b_Mo_isRead 59 = .ok (.iload_n 2, 1) := by decide +kernel
theorem d_Mo_isRead_60 : decode b_Mo_isRead 60 = .ok (.caload, 1) := by decide +kernel
theorem d_Mo_isRead_61 : decode b_Mo_isRead 61 = .ok (.bipush 58, 2) := by decide +kernel
theorem d_Mo_isRead_63 : decode b_Mo_isRead 63 = .ok (.if_icmp .ne 22, 3) := by decide +kernel
theorem d_Mo_isRead_66 : decode b_Mo_isRead 66 = .ok (.aload_n 0, 1) := by decide +kernel
theorem d_Mo_isRead_67 : decode b_Mo_isRead 67 = .ok (.getfield 86, 3) := by decide +kernel
theorem d_Mo_isRead_70 : decode b_Mo_isRead 70 = .ok (.iload_n 2, 1) := by decide +kernel
theorem d_Mo_isRead_71 : decode b_Mo_isRead 71 = .ok (.isub, 1) := by decide +kernel
theorem d_Mo_isRead_72 : decode b_Mo_isRead 72 = .ok (.iconst 1, 1) := by decide +kernel
theorem d_Mo_isRead_73 : decode b_Mo_isRead 73 = .ok (.isub, 1) := by decide +kernel
theorem d_Mo_isRead_74 : decode b_Mo_isRead 74 = .ok (.aload_n 0, 1) := by decide +kernel
theorem d_Mo_isRead_75 : decode b_Mo_isRead 75 = .ok (.getfield 153, 3) := by decide +kernel
theorem d_Mo_isRead_78 : decode b_Mo_isRead 78 = .ok (.if_icmp .ne 7, 3) := by decide +kernel
theorem d_Mo_isRead_81 : decode b_Mo_isRead 81 = .ok (.iconst 1, 1) := by decide +kernel
theorem d_Mo_isRead_82 : decode b_Mo_isRead 82 = .ok (.goto 4, 3) := by decide +kernel
theorem d_Mo_isRead_85 : decode b_Mo_isRead 85 = .ok (.iconst 0, 1) := by decide +kernel
theorem d_Mo_isRead_86 : decode b_Mo_isRead 86 = .ok (.istore_n 3, 1) := by decide +kernel
theorem d_Mo_isRead_87 : decode b_Mo_isRead 87 = .ok (.iload_n 2, 1) := by decide +kernel
theorem d_Mo_isRead_88 : decode b_Mo_isRead 88 = .ok (.iconst 1, 1) := by decide +kernel
theorem d_Mo_isRead_89 : decode b_Mo_isRead 89 = .ok (.iadd, 1) := by decide +kernel
theorem d_Mo_isRead_90 : decode b_Mo_isRead 90 = .ok (.istore 4, 2) := by decide +kernel
theorem d_Mo_isRead_92 : decode b_Mo_isRead 92 = .ok (.iload 4, 2) := by decide +kernel
theorem d_Mo_isRead_94 : decode b_Mo_isRead 94 = .ok (.aload_n 0, 1) := by decide +kernel
theorem d_Mo_isRead_95 : decode b_Mo_isRead 95 = .ok (.getfield 86, 3) := by decide +kernel
theorem d_Mo_isRead_98 : decode b_Mo_isRead 98 = .ok (.if_icmp .ge 43, 3) := by decide +kernel
theorem d_Mo_isRead_101 : decode b_Mo_isRead 101 = .ok (.iload_n 3, 1) := by decide +kernel
theorem d_Mo_isRead_102 : decode b_Mo_isRead 102 = .ok (.ifCond .eq 31, 3) := by decide +kernel
theorem d_Mo_isRead_105 : decode b_Mo_isRead 105 = .ok (.aload_n 0, 1) := by decide +kernel
theorem d_Mo_isRead_106 : decode b_Mo_isRead 106 = .ok (.getfield 7, 3) := by decide +kernel
theorem d_Mo_isRead_109 : decode b_Mo_isRead 109 = .ok (.iload 4, 2) := by decide +kernel
theorem d_Mo_isRead_111 : decode b_Mo_isRead 111 = .ok (.caload, 1) := by decide +kernel
theorem d_Mo_isRead_112 : decode b_Mo_isRead 112 = .ok (.bipush 58, 2) := by decide +kernel
theorem d_Mo_isRead_114 : decode b_Mo_isRead 114 = .ok (.if_icmp .eq 19, 3) := by decide +kernel
theorem d_Mo_isRead_117 : decode b_Mo_isRead 117 = .ok (.aload_n 0, 1) := by decide +kernel
theorem d_Mo_isRead_118 : decode b_Mo_isRead 118 = .ok (.getfield 7, 3) := by decide +kernel
theorem d_Mo_isRead_121 : decode b_Mo_isRead 121 = .ok (.iload 4, 2) := by decide +kernel
theorem d_Mo_isRead_123 : decode b_Mo_isRead 123 = .ok (.caload, 1) := by decide +kernel
theorem d_Mo_isRead_124 : decode b_Mo_isRead 124 = .ok (.bipush 32, 2) := by decide +kernel
theorem d_Mo_isRead_126 : decode b_Mo_isRead 126 = .ok (.if_icmp .le 7, 3) := by decide +kernel
theorem d_Mo_isRead_129 : decode b_Mo_isRead 129 = .ok (.iconst 1, 1) := by decide +kernel
theorem d_Mo_isRead_130 : decode b_Mo_isRead 130 = .ok (.goto 4, 3) := by decide +kernel
theorem d_Mo_isRead_133 : decode b_Mo_isRead 133 = .ok (.iconst 0, 1) := by decide +kernel
theorem d_Mo_isRead_134 : decode b_Mo_isRead 134 = .ok (.istore_n 3, 1) := by decide +kernel
theorem d_Mo_isRead_135 : decode b_Mo_isRead 135 = .ok (.iinc 4 1, 3) := by decide +kernel
theorem d_Mo_isRead_138 : decode b_Mo_isRead 138 = .ok (.goto (-46), 3) := by decide +kernel
theorem d_Mo_isRead_141 : decode b_Mo_isRead 141 = .ok (.iload_n 3, 1) := by decide +kernel
theorem d_Mo_isRead_142 : decode b_Mo_isRead 142 = .ok (.ireturn, 1) := by decide +kernel
theorem d_Mo_onStrand_0 : decode b_Mo_onStrand 0 = .ok (.iload_n 1, 1) := by decide +kernel
theorem d_Mo_onStrand_1 : decode b_Mo_onStrand 1 = .ok (.ifCond .ne 22, 3) := by decide +kernel
theorem d_Mo_onStrand_4 : decode b_Mo_onStrand 4 = .ok (.aload_n 0, 1) := by decide +kernel
theorem d_Mo_onStrand_5 : decode b_Mo_onStrand 5 = .ok (.getfield 35, 3) := by decide +kernel
theorem d_Mo_onStrand_8 : decode b_Mo_onStrand 8 = .ok (.aload_n 0, 1) := by decide +kernel
theorem d_Mo_onStrand_9 : decode b_Mo_onStrand 9 = .ok (.getfield 156, 3) := by decide +kernel
theorem d_Mo_onStrand_12 : decode b_Mo_onStrand 12 = .ok (.iconst 1, 1) := by decide +kernel
theorem d_Mo_onStrand_13 : decode b_Mo_onStrand 13 = .ok (.iadd, 1) := by decide +kernel
theorem d_Mo_onStrand_14 : decode b_Mo_onStrand 14 = .ok (.iload_n 2, 1) := by decide +kernel
theorem d_Mo_onStrand_15 : decode b_Mo_onStrand 15 = .ok (.iadd, 1) := by decide +kernel
theorem d_Mo_onStrand_16 : decode b_Mo_onStrand 16 = .ok (.caload, 1) := by decide +kernel
theorem d_Mo_onStrand_17 : decode b_Mo_onStrand 17 = .ok (.invokestatic 93, 3) := by decide +kernel
theorem d_Mo_onStrand_20 : decode b_Mo_onStrand 20 = .ok (.goto 25, 3) := by decide +kernel
theorem d_Mo_onStrand_23 : decode b_Mo_onStrand 23 = .ok (.aload_n 0, 1) := by decide +kernel
theorem d_Mo_onStrand_24 : decode b_Mo_onStrand 24 = .ok (.getfield 35, 3) := by decide +kernel
theorem d_Mo_onStrand_27 : decode b_Mo_onStrand 27 = .ok (.aload_n 0, 1) := by decide +kernel
theorem d_Mo_onStrand_28 : decode b_Mo_onStrand 28 = .ok (.getfield 156, 3) := by decide +kernel
theorem d_Mo_onStrand_31 : decode b_Mo_onStrand 31 = .ok (.aload_n 0, 1) := by decide +kernel
theorem d_Mo_onStrand_32 : decode b_Mo_onStrand 32 = .ok (.getfield 159, 3) := by decide +kernel
theorem d_Mo_onStrand_35 : decode b_Mo_onStrand 35 = .ok (.iadd, 1) := by decide +kernel
theorem d_Mo_onStrand_36 : decode b_Mo_onStrand 36 = .ok (.iload_n 2, 1) := by decide +kernel
theorem d_Mo_onStrand_37 : decode b_Mo_onStrand 37 = .ok (.isub, 1) := by decide +kernel
theorem d_Mo_onStrand_38 : decode b_Mo_onStrand 38 = .ok (.caload, 1) := by decide +kernel
theorem d_Mo_onStrand_39 : decode b_Mo_onStrand 39 = .ok (.invokestatic 93, 3) := by decide +kernel
theorem d_Mo_onStrand_42 : decode b_Mo_onStrand 42 = .ok (.invokestatic 162, 3) := by decide +kernel
theorem d_Mo_onStrand_45 : decode b_Mo_onStrand 45 = .ok (.ireturn, 1) := by decide +kernel
theorem d_Mo_differing_0 : decode b_Mo_differing 0 = .ok (.iconst 0, 1) := by decide +kernel
theorem d_Mo_differing_1 : decode b_Mo_differing 1 = .ok (.istore_n 3, 1) := by decide +kernel
theorem d_Mo_differing_2 : decode b_Mo_differing 2 = .ok (.iconst 0, 1) := by decide +kernel
theorem d_Mo_differing_3 : decode b_Mo_differing 3 = .ok (.istore 4, 2) := by decide +kernel
theorem d_Mo_differing_5 : decode b_Mo_differing 5 = .ok (.iload 4, 2) := by decide +kernel
theorem d_Mo_differing_7 : decode b_Mo_differing 7 = .ok (.aload_n 0, 1) := by decide +kernel
theorem d_Mo_differing_8 : decode b_Mo_differing 8 = .ok (.getfield 159, 3) := by decide +kernel
theorem d_Mo_differing_11 : decode b_Mo_differing 11 = .ok (.if_icmp .ge 46, 3) := by decide +kernel
theorem d_Mo_differing_14 : decode b_Mo_differing 14 = .ok (.aload_n 0, 1) := by decide +kernel
theorem d_Mo_differing_15 : decode b_Mo_differing 15 = .ok (.iload_n 2, 1) := by decide +kernel
theorem d_Mo_differing_16 : decode b_Mo_differing 16 = .ok (.iload 4, 2) := by decide +kernel
theorem d_Mo_differing_18 : decode b_Mo_differing 18 = .ok (.invokevirtual 165, 3) := by decide +kernel
theorem d_Mo_differing_21 : decode b_Mo_differing 21 = .ok (.istore 5, 2) := by decide +kernel
theorem d_Mo_differing_23 : decode b_Mo_differing 23 = .ok (.iload 5, 2) := by decide +kernel
theorem d_Mo_differing_25 : decode b_Mo_differing 25 = .ok (.iconst 5, 1) := by decide +kernel
theorem d_Mo_differing_26 : decode b_Mo_differing 26 = .ok (.if_icmp .eq 17, 3) := by decide +kernel
theorem d_Mo_differing_29 : decode b_Mo_differing 29 = .ok (.iload 5, 2) := by decide +kernel
theorem d_Mo_differing_31 : decode b_Mo_differing 31 = .ok (.aload_n 0, 1) := by decide +kernel
theorem d_Mo_differing_32 : decode b_Mo_differing 32 = .ok (.getfield 23, 3) := by decide +kernel
theorem d_Mo_differing_35 : decode b_Mo_differing 35 = .ok (.iload_n 1, 1) := by decide +kernel
theorem d_Mo_differing_36 : decode b_Mo_differing 36 = .ok (.iload 4, 2) := by decide +kernel
theorem d_Mo_differing_38 : decode b_Mo_differing 38 = .ok (.iadd, 1) := by decide +kernel
theorem d_Mo_differing_39 : decode b_Mo_differing 39 = .ok (.iaload, 1) := by decide +kernel
theorem d_Mo_differing_40 : decode b_Mo_differing 40 = .ok (.if_icmp .eq 9, 3) := by decide +kernel
theorem d_Mo_differing_43 : decode b_Mo_differing 43 = .ok (.iload_n 3, 1) := by decide +kernel
theorem d_Mo_differing_44 : decode b_Mo_differing 44 = .ok (.iconst 1, 1) := by decide +kernel
theorem d_Mo_differing_45 : decode b_Mo_differing 45 = .ok (.iadd, 1) := by decide +kernel
theorem d_Mo_differing_46 : decode b_Mo_differing 46 = .ok (.goto 4, 3) := by decide +kernel
theorem d_Mo_differing_49 : decode b_Mo_differing 49 = .ok (.iload_n 3, 1) := by decide +kernel
theorem d_Mo_differing_50 : decode b_Mo_differing 50 = .ok (.istore_n 3, 1) := by decide +kernel
theorem d_Mo_differing_51 : decode b_Mo_differing 51 = .ok (.iinc 4 1, 3) := by decide +kernel
theorem d_Mo_differing_54 : decode b_Mo_differing 54 = .ok (.goto (-49), 3) := by decide +kernel
theorem d_Mo_differing_57 : decode b_Mo_differing 57 = .ok (.iload_n 3, 1) := by decide +kernel
theorem d_Mo_differing_58 : decode b_Mo_differing 58 = .ok (.ireturn, 1) := by decide +kernel
theorem d_Mo_tryAll_0 : decode b_Mo_tryAll 0 = .ok (.aload_n 0, 1) := by decide +kernel
theorem d_Mo_tryAll_1 : decode b_Mo_tryAll 1 = .ok (.iconst 0, 1) := by decide +kernel
theorem d_Mo_tryAll_2 : decode b_Mo_tryAll 2 = .ok (.putfield 125, 3) := by decide +kernel
theorem d_Mo_tryAll_5 : decode b_Mo_tryAll 5 = .ok (.iconst 0, 1) := by decide +kernel
theorem d_Mo_tryAll_6 : decode b_Mo_tryAll 6 = .ok (.istore_n 2, 1) := by decide +kernel
theorem d_Mo_tryAll_7 : decode b_Mo_tryAll 7 = .ok (.iconst 0, 1) := by decide +kernel
theorem d_Mo_tryAll_8 : decode b_Mo_tryAll 8 = .ok (.istore_n 3, 1) := by decide +kernel
theorem d_Mo_tryAll_9 : decode b_Mo_tryAll 9 = .ok (.iload_n 3, 1) := by decide +kernel
theorem d_Mo_tryAll_10 : decode b_Mo_tryAll 10 = .ok (.aload_n 0, 1) := by decide +kernel
theorem d_Mo_tryAll_11 : decode b_Mo_tryAll 11 = .ok (.getfield 97, 3) := by decide +kernel
theorem d_Mo_tryAll_14 : decode b_Mo_tryAll 14 = .ok (.if_icmp .ge 131, 3) := by decide +kernel
theorem d_Mo_tryAll_17 : decode b_Mo_tryAll 17 = .ok (.iconst 0, 1) := by decide +kernel
theorem d_Mo_tryAll_18 : decode b_Mo_tryAll 18 = .ok (.istore 4, 2) := by decide +kernel
theorem d_Mo_tryAll_20 : decode b_Mo_tryAll 20 = .ok (.iload 4, 2) := by decide +kernel
theorem d_Mo_tryAll_22 : decode b_Mo_tryAll 22 = .ok (.aload_n 0, 1) := by decide +kernel
theorem d_Mo_tryAll_23 : decode b_Mo_tryAll 23 = .ok (.getfield 159, 3) := by decide +kernel
theorem d_Mo_tryAll_26 : decode b_Mo_tryAll 26 = .ok (.iadd, 1) := by decide +kernel
theorem d_Mo_tryAll_27 : decode b_Mo_tryAll 27 = .ok (.aload_n 0, 1) := by decide +kernel
theorem d_Mo_tryAll_28 : decode b_Mo_tryAll 28 = .ok (.getfield 20, 3) := by decide +kernel
theorem d_Mo_tryAll_31 : decode b_Mo_tryAll 31 = .ok (.iload_n 3, 1) := by decide +kernel
theorem d_Mo_tryAll_32 : decode b_Mo_tryAll 32 = .ok (.iaload, 1) := by decide +kernel
theorem d_Mo_tryAll_33 : decode b_Mo_tryAll 33 = .ok (.if_icmp .gt 97, 3) := by decide +kernel
theorem d_Mo_tryAll_36 : decode b_Mo_tryAll 36 = .ok (.iconst 0, 1) := by decide +kernel
theorem d_Mo_tryAll_37 : decode b_Mo_tryAll 37 = .ok (.istore 5, 2) := by decide +kernel
theorem d_Mo_tryAll_39 : decode b_Mo_tryAll 39 = .ok (.iload 5, 2) := by decide +kernel
theorem d_Mo_tryAll_41 : decode b_Mo_tryAll 41 = .ok (.iconst 2, 1) := by decide +kernel
theorem d_Mo_tryAll_42 : decode b_Mo_tryAll 42 = .ok (.if_icmp .ge 82, 3) := by decide +kernel
theorem d_Mo_tryAll_45 : decode b_Mo_tryAll 45 = .ok (.aload_n 0, 1) := by decide +kernel
theorem d_Mo_tryAll_46 : decode b_Mo_tryAll 46 = .ok (.iload_n 2, 1) := by decide +kernel
theorem d_Mo_tryAll_47 : decode b_Mo_tryAll 47 = .ok (.iload 4, 2) := by decide +kernel
theorem d_Mo_tryAll_49 : decode b_Mo_tryAll 49 = .ok (.iadd, 1) := by decide +kernel
theorem d_Mo_tryAll_50 : decode b_Mo_tryAll 50 = .ok (.iload 5, 2) := by decide +kernel
theorem d_Mo_tryAll_52 : decode b_Mo_tryAll 52 = .ok (.invokevirtual 180, 3) := by decide +kernel
theorem d_Mo_tryAll_55 : decode b_Mo_tryAll 55 = .ok (.istore 6, 2) := by decide +kernel
theorem d_Mo_tryAll_57 : decode b_Mo_tryAll 57 = .ok (.iload 6, 2) := by decide +kernel
theorem d_Mo_tryAll_59 : decode b_Mo_tryAll 59 = .ok (.iload_n 1, 1) := by decide +kernel
theorem d_Mo_tryAll_60 : decode b_Mo_tryAll 60 = .ok (.if_icmp .gt 58, 3) := by decide +kernel
theorem d_Mo_tryAll_63 : decode b_Mo_tryAll 63 = .ok (.aload_n 0, 1) := by decide +kernel
theorem d_Mo_tryAll_64 : decode b_Mo_tryAll 64 = .ok (.getfield 38, 3) := by decide +kernel
theorem d_Mo_tryAll_67 : decode b_Mo_tryAll 67 = .ok (.aload_n 0, 1) := by decide +kernel
theorem d_Mo_tryAll_68 : decode b_Mo_tryAll 68 = .ok (.getfield 125, 3) := by decide +kernel
theorem d_Mo_tryAll_71 : decode b_Mo_tryAll 71 = .ok (.iload_n 3, 1) := by decide +kernel
theorem d_Mo_tryAll_72 : decode b_Mo_tryAll 72 = .ok (.iastore, 1) := by decide +kernel
theorem d_Mo_tryAll_73 : decode b_Mo_tryAll 73 = .ok (.aload_n 0, 1) := by decide +kernel
theorem d_Mo_tryAll_74 : decode b_Mo_tryAll 74 = .ok (.getfield 41, 3) := by decide +kernel
theorem d_Mo_tryAll_77 : decode b_Mo_tryAll 77 = .ok (.aload_n 0, 1) := by decide +kernel
theorem d_Mo_tryAll_78 : decode b_Mo_tryAll 78 = .ok (.getfield 125, 3) := by decide +kernel
theorem d_Mo_tryAll_81 : decode b_Mo_tryAll 81 = .ok (.iload 4, 2) := by decide +kernel
theorem d_Mo_tryAll_83 : decode b_Mo_tryAll 83 = .ok (.iconst 1, 1) := by decide +kernel
theorem d_Mo_tryAll_84 : decode b_Mo_tryAll 84 = .ok (.iadd, 1) := by decide +kernel
theorem d_Mo_tryAll_85 : decode b_Mo_tryAll 85 = .ok (.iastore, 1) := by decide +kernel
theorem d_Mo_tryAll_86 : decode b_Mo_tryAll 86 = .ok (.aload_n 0, 1) := by decide +kernel
theorem d_Mo_tryAll_87 : decode b_Mo_tryAll 87 = .ok (.getfield 44, 3) := by decide +kernel
theorem d_Mo_tryAll_90 : decode b_Mo_tryAll 90 = .ok (.aload_n 0, 1) := by decide +kernel
theorem d_Mo_tryAll_91 : decode b_Mo_tryAll 91 = .ok (.getfield 125, 3) := by decide +kernel
theorem d_Mo_tryAll_94 : decode b_Mo_tryAll 94 = .ok (.iload 5, 2) := by decide +kernel
theorem d_Mo_tryAll_96 : decode b_Mo_tryAll 96 = .ok (.iastore, 1) := by decide +kernel
theorem d_Mo_tryAll_97 : decode b_Mo_tryAll 97 = .ok (.aload_n 0, 1) := by decide +kernel
theorem d_Mo_tryAll_98 : decode b_Mo_tryAll 98 = .ok (.getfield 47, 3) := by decide +kernel
theorem d_Mo_tryAll_101 : decode b_Mo_tryAll 101 = .ok (.aload_n 0, 1) := by decide +kernel
theorem d_Mo_tryAll_102 : decode b_Mo_tryAll 102 = .ok (.getfield 125, 3) := by decide +kernel
theorem d_Mo_tryAll_105 : decode b_Mo_tryAll 105 = .ok (.iload 6, 2) := by decide +kernel
theorem d_Mo_tryAll_107 : decode b_Mo_tryAll 107 = .ok (.iastore, 1) := by decide +kernel
theorem d_Mo_tryAll_108 : decode b_Mo_tryAll 108 = .ok (.aload_n 0, 1) := by decide +kernel
theorem d_Mo_tryAll_109 : decode b_Mo_tryAll 109 = .ok (.dup, 1) := by decide +kernel
theorem d_Mo_tryAll_110 : decode b_Mo_tryAll 110 = .ok (.getfield 125, 3) := by decide +kernel
theorem d_Mo_tryAll_113 : decode b_Mo_tryAll 113 = .ok (.iconst 1, 1) := by decide +kernel
theorem d_Mo_tryAll_114 : decode b_Mo_tryAll 114 = .ok (.iadd, 1) := by decide +kernel
theorem d_Mo_tryAll_115 : decode b_Mo_tryAll 115 = .ok (.putfield 125, 3) := by decide +kernel
theorem d_Mo_tryAll_118 : decode b_Mo_tryAll 118 = .ok (.iinc 5 1, 3) := by decide +kernel
theorem d_Mo_tryAll_121 : decode b_Mo_tryAll 121 = .ok (.goto (-82), 3) := by decide +kernel
theorem d_Mo_tryAll_124 : decode b_Mo_tryAll 124 = .ok (.iinc 4 1, 3) := by decide +kernel
theorem d_Mo_tryAll_127 : decode b_Mo_tryAll 127 = .ok (.goto (-107), 3) := by decide +kernel
theorem d_Mo_tryAll_130 : decode b_Mo_tryAll 130 = .ok (.iload_n 2, 1) := by decide +kernel
theorem d_Mo_tryAll_131 : decode b_Mo_tryAll 131 = .ok (.aload_n 0, 1) := by decide +kernel
theorem d_Mo_tryAll_132 : decode b_Mo_tryAll 132 = .ok (.getfield 20, 3) := by decide +kernel
theorem d_Mo_tryAll_135 : decode b_Mo_tryAll 135 = .ok (.iload_n 3, 1) := by decide +kernel
theorem d_Mo_tryAll_136 : decode b_Mo_tryAll 136 = .ok (.iaload, 1) := by decide +kernel
theorem d_Mo_tryAll_137 : decode b_Mo_tryAll 137 = .ok (.iadd, 1) := by decide +kernel
theorem d_Mo_tryAll_138 : decode b_Mo_tryAll 138 = .ok (.istore_n 2, 1) := by decide +kernel
theorem d_Mo_tryAll_139 : decode b_Mo_tryAll 139 = .ok (.iinc 3 1, 3) := by decide +kernel
theorem d_Mo_tryAll_142 : decode b_Mo_tryAll 142 = .ok (.goto (-133), 3) := by decide +kernel
theorem d_Mo_tryAll_145 : decode b_Mo_tryAll 145 = .ok (.return_, 1) := by decide +kernel
theorem d_Mo_map_0 : decode b_Mo_map 0 = .ok (.aload_n 0, 1) := by decide +kernel
theorem d_Mo_map_1 : decode b_Mo_map 1 = .ok (.invokevirtual 169, 3) := by decide +kernel
theorem d_Mo_map_4 : decode b_Mo_map 4 = .ok (.istore_n 2, 1) := by decide +kernel
theorem d_Mo_map_5 : decode b_Mo_map 5 = .ok (.aload_n 0, 1) := by decide +kernel
theorem d_Mo_map_6 : decode b_Mo_map 6 = .ok (.getfield 153, 3) := by decide +kernel
theorem d_Mo_map_9 : decode b_Mo_map 9 = .ok (.istore_n 3, 1) := by decide +kernel
theorem d_Mo_map_10 : decode b_Mo_map 10 = .ok (.aload_n 0, 1) := by decide +kernel
theorem d_Mo_map_11 : decode b_Mo_map 11 = .ok (.iload_n 2, 1) := by decide +kernel
theorem d_Mo_map_12 : decode b_Mo_map 12 = .ok (.ifCond .eq 12, 3) := by decide +kernel
theorem d_Mo_map_15 : decode b_Mo_map 15 = .ok (.iload_n 1, 1) := by decide +kernel
theorem d_Mo_map_16 : decode b_Mo_map 16 = .ok (.ifCond .lt 8, 3) := by decide +kernel
theorem d_Mo_map_19 : decode b_Mo_map 19 = .ok (.iload_n 1, 1) := by decide +kernel
theorem d_Mo_map_20 : decode b_Mo_map 20 = .ok (.iconst 3, 1) := by decide +kernel
theorem d_Mo_map_21 : decode b_Mo_map 21 = .ok (.if_icmp .le 7, 3) := by decide +kernel
theorem d_Mo_map_24 : decode b_Mo_map 24 = .ok (.iconst 1, 1) := by decide +kernel
theorem d_Mo_map_25 : decode b_Mo_map 25 = .ok (.goto 15, 3) := by decide +kernel
theorem d_Mo_map_28 : decode b_Mo_map 28 = .ok (.aload_n 0, 1) := by decide +kernel
theorem d_Mo_map_29 : decode b_Mo_map 29 = .ok (.getfield 112, 3) := by decide +kernel
theorem d_Mo_map_32 : decode b_Mo_map 32 = .ok (.ifCond .ne 7, 3) := by decide +kernel
theorem d_Mo_map_35 : decode b_Mo_map 35 = .ok (.iconst 2, 1) := by decide +kernel
theorem d_Mo_map_36 : decode b_Mo_map 36 = .ok (.goto 4, 3) := by decide +kernel
theorem d_Mo_map_39 : decode b_Mo_map 39 = .ok (.iconst 0, 1) := by decide +kernel
theorem d_Mo_map_40 : decode b_Mo_map 40 = .ok (.putfield 80, 3) := by decide +kernel
theorem d_Mo_map_43 : decode b_Mo_map 43 = .ok (.aload_n 0, 1) := by decide +kernel
theorem d_Mo_map_44 : decode b_Mo_map 44 = .ok (.getfield 80, 3) := by decide +kernel
theorem d_Mo_map_47 : decode b_Mo_map 47 = .ok (.ifCond .ne 82, 3) := by decide +kernel
theorem d_Mo_map_50 : decode b_Mo_map 50 = .ok (.aload_n 0, 1) := by decide +kernel
theorem d_Mo_map_51 : decode b_Mo_map 51 = .ok (.aload_n 0, 1) := by decide +kernel
theorem d_Mo_map_52 : decode b_Mo_map 52 = .ok (.invokevirtual 100, 3) := by decide +kernel
theorem d_Mo_map_55 : decode b_Mo_map 55 = .ok (.putfield 156, 3) := by decide +kernel
theorem d_Mo_map_58 : decode b_Mo_map 58 = .ok (.aload_n 0, 1) := by decide +kernel
theorem d_Mo_map_59 : decode b_Mo_map 59 = .ok (.iload_n 3, 1) := by decide +kernel
theorem d_Mo_map_60 : decode b_Mo_map 60 = .ok (.putfield 159, 3) := by decide +kernel
theorem d_Mo_map_63 : decode b_Mo_map 63 = .ok (.aload_n 0, 1) := by decide +kernel
theorem d_Mo_map_64 : decode b_Mo_map 64 = .ok (.aload_n 0, 1) := by decide +kernel
theorem d_Mo_map_65 : decode b_Mo_map 65 = .ok (.getfield 86, 3) := by decide +kernel
theorem d_Mo_map_68 : decode b_Mo_map 68 = .ok (.aload_n 0, 1) := by decide +kernel
theorem d_Mo_map_69 : decode b_Mo_map 69 = .ok (.getfield 156, 3) := by decide +kernel
theorem d_Mo_map_72 : decode b_Mo_map 72 = .ok (.iconst 1, 1) := by decide +kernel
theorem d_Mo_map_73 : decode b_Mo_map 73 = .ok (.iadd, 1) := by decide +kernel
theorem d_Mo_map_74 : decode b_Mo_map 74 = .ok (.iload_n 3, 1) := by decide +kernel
theorem d_Mo_map_75 : decode b_Mo_map 75 = .ok (.iadd, 1) := by decide +kernel
theorem d_Mo_map_76 : decode b_Mo_map 76 = .ok (.if_icmp .le 7, 3) := by decide +kernel
theorem d_Mo_map_79 : decode b_Mo_map 79 = .ok (.iconst 1, 1) := by decide +kernel
theorem d_Mo_map_80 : decode b_Mo_map 80 = .ok (.goto 4, 3) := by decide +kernel
theorem d_Mo_map_83 : decode b_Mo_map 83 = .ok (.iconst 0, 1) := by decide +kernel
theorem d_Mo_map_84 : decode b_Mo_map 84 = .ok (.putfield 173, 3) := by decide +kernel
theorem d_Mo_map_87 : decode b_Mo_map 87 = .ok (.iconst 0, 1) := by decide +kernel
theorem d_Mo_map_88 : decode b_Mo_map 88 = .ok (.istore 4, 2) := by decide +kernel
theorem d_Mo_map_90 : decode b_Mo_map 90 = .ok (.iload 4, 2) := by decide +kernel
theorem d_Mo_map_92 : decode b_Mo_map 92 = .ok (.aload_n 0, 1) := by decide +kernel
theorem d_Mo_map_93 : decode b_Mo_map 93 = .ok (.getfield 86, 3) := by decide +kernel
theorem d_Mo_map_96 : decode b_Mo_map 96 = .ok (.if_icmp .ge 23, 3) := by decide +kernel
theorem d_Mo_map_99 : decode b_Mo_map 99 = .ok (.aload_n 0, 1) := by decide +kernel
theorem d_Mo_map_100 : decode b_Mo_map 100 = .ok (.getfield 35, 3) := by decide +kernel
theorem d_Mo_map_103 : decode b_Mo_map 103 = .ok (.iload 4, 2) := by decide +kernel
theorem d_Mo_map_105 : decode b_Mo_map 105 = .ok (.aload_n 0, 1) := by decide +kernel
theorem d_Mo_map_106 : decode b_Mo_map 106 = .ok (.getfield 7, 3) := by decide +kernel
theorem d_Mo_map_109 : decode b_Mo_map 109 = .ok (.iload 4, 2) := by decide +kernel
theorem d_Mo_map_111 : decode b_Mo_map 111 = .ok (.caload, 1) := by decide +kernel
theorem d_Mo_map_112 : decode b_Mo_map 112 = .ok (.castore, 1) := by decide +kernel
theorem d_Mo_map_113 : decode b_Mo_map 113 = .ok (.iinc 4 1, 3) := by decide +kernel
theorem d_Mo_map_116 : decode b_Mo_map 116 = .ok (.goto (-26), 3) := by decide +kernel
theorem d_Mo_map_119 : decode b_Mo_map 119 = .ok (.aload_n 0, 1) := by decide +kernel
theorem d_Mo_map_120 : decode b_Mo_map 120 = .ok (.iconst 1, 1) := by decide +kernel
theorem d_Mo_map_121 : decode b_Mo_map 121 = .ok (.putfield 122, 3) := by decide +kernel
theorem d_Mo_map_124 : decode b_Mo_map 124 = .ok (.aload_n 0, 1) := by decide +kernel
theorem d_Mo_map_125 : decode b_Mo_map 125 = .ok (.iload_n 1, 1) := by decide +kernel
theorem d_Mo_map_126 : decode b_Mo_map 126 = .ok (.invokevirtual 176, 3) := by decide +kernel
theorem d_Mo_map_129 : decode b_Mo_map 129 = .ok (.aload_n 0, 1) := by decide +kernel
theorem d_Mo_map_130 : decode b_Mo_map 130 = .ok (.iconst 0, 1) := by decide +kernel
theorem d_Mo_map_131 : decode b_Mo_map 131 = .ok (.putfield 86, 3) := by decide +kernel
theorem d_Mo_map_134 : decode b_Mo_map 134 = .ok (.aload_n 0, 1) := by decide +kernel
theorem d_Mo_map_135 : decode b_Mo_map 135 = .ok (.getfield 80, 3) := by decide +kernel
theorem d_Mo_map_138 : decode b_Mo_map 138 = .ok (.ifCond .ne 10, 3) := by decide +kernel
theorem d_Mo_map_141 : decode b_Mo_map 141 = .ok (.aload_n 0, 1) := by decide +kernel
theorem d_Mo_map_142 : decode b_Mo_map 142 = .ok (.getfield 125, 3) := by decide +kernel
theorem d_Mo_map_145 : decode b_Mo_map 145 = .ok (.goto 4, 3) := by decide +kernel
theorem d_Mo_map_148 : decode b_Mo_map 148 = .ok (.iconst 0, 1) := by decide +kernel
theorem d_Mo_map_149 : decode b_Mo_map 149 = .ok (.ireturn, 1) := by decide +kernel
theorem d_Mo_hit_0 : decode b_Mo_hit 0 = .ok (.aload_n 0, 1) := by decide +kernel
theorem d_Mo_hit_1 : decode b_Mo_hit 1 = .ok (.iconst 0, 1) := by decide +kernel
theorem d_Mo_hit_2 : decode b_Mo_hit 2 = .ok (.putfield 80, 3) := by decide +kernel
theorem d_Mo_hit_5 : decode b_Mo_hit 5 = .ok (.iload_n 1, 1) := by decide +kernel
theorem d_Mo_hit_6 : decode b_Mo_hit 6 = .ok (.ifCond .lt 20, 3) := by decide +kernel
theorem d_Mo_hit_9 : decode b_Mo_hit 9 = .ok (.iload_n 1, 1) := by decide +kernel
theorem d_Mo_hit_10 : decode b_Mo_hit 10 = .ok (.aload_n 0, 1) := by decide +kernel
theorem d_Mo_hit_11 : decode b_Mo_hit 11 = .ok (.getfield 125, 3) := by decide +kernel
theorem d_Mo_hit_14 : decode b_Mo_hit 14 = .ok (.if_icmp .ge 12, 3) := by decide +kernel
theorem d_Mo_hit_17 : decode b_Mo_hit 17 = .ok (.iload_n 2, 1) := by decide +kernel
theorem d_Mo_hit_18 : decode b_Mo_hit 18 = .ok (.ifCond .lt 8, 3) := by decide +kernel
theorem d_Mo_hit_21 : decode b_Mo_hit 21 = .ok (.iload_n 2, 1) := by decide +kernel
theorem d_Mo_hit_22 : decode b_Mo_hit 22 = .ok (.iconst 3, 1) := by decide +kernel
theorem d_Mo_hit_23 : decode b_Mo_hit 23 = .ok (.if_icmp .le 5, 3) := by decide +kernel
theorem d_Mo_hit_26 : decode b_Mo_hit 26 = .ok (.iconst (-1), 1) := by decide +kernel
theorem d_Mo_hit_27 : decode b_Mo_hit 27 = .ok (.ireturn, 1) := by decide +kernel
theorem d_Mo_hit_28 : decode b_Mo_hit 28 = .ok (.iload_n 2, 1) := by decide +kernel
theorem d_Mo_hit_29 : decode b_Mo_hit 29 = .ok (.ifCond .ne 12, 3) := by decide +kernel
theorem d_Mo_hit_32 : decode b_Mo_hit 32 = .ok (.aload_n 0, 1) := by decide +kernel
theorem d_Mo_hit_33 : decode b_Mo_hit 33 = .ok (.getfield 38, 3) := by decide +kernel
theorem d_Mo_hit_36 : decode b_Mo_hit 36 = .ok (.iload_n 1, 1) := by decide +kernel
theorem d_Mo_hit_37 : decode b_Mo_hit 37 = .ok (.iaload, 1) := by decide +kernel
theorem d_Mo_hit_38 : decode b_Mo_hit 38 = .ok (.goto 37, 3) := by decide +kernel
theorem d_Mo_hit_41 : decode b_Mo_hit 41 = .ok (.iload_n 2, 1) := by decide +kernel
theorem d_Mo_hit_42 : decode b_Mo_hit 42 = .ok (.iconst 1, 1) := by decide +kernel
theorem d_Mo_hit_43 : decode b_Mo_hit 43 = .ok (.if_icmp .ne 12, 3) := by decide +kernel
theorem d_Mo_hit_46 : decode b_Mo_hit 46 = .ok (.aload_n 0, 1) := by decide +kernel
theorem d_Mo_hit_47 : decode b_Mo_hit 47 = .ok (.getfield 41, 3) := by decide +kernel
theorem d_Mo_hit_50 : decode b_Mo_hit 50 = .ok (.iload_n 1, 1) := by decide +kernel
theorem d_Mo_hit_51 : decode b_Mo_hit 51 = .ok (.iaload, 1) := by decide +kernel
theorem d_Mo_hit_52 : decode b_Mo_hit 52 = .ok (.goto 23, 3) := by decide +kernel
theorem d_Mo_hit_55 : decode b_Mo_hit 55 = .ok (.iload_n 2, 1) := by decide +kernel
theorem d_Mo_hit_56 : decode b_Mo_hit 56 = .ok (.iconst 2, 1) := by decide +kernel
theorem d_Mo_hit_57 : decode b_Mo_hit 57 = .ok (.if_icmp .ne 12, 3) := by decide +kernel
theorem d_Mo_hit_60 : decode b_Mo_hit 60 = .ok (.aload_n 0, 1) := by decide +kernel
theorem d_Mo_hit_61 : decode b_Mo_hit 61 = .ok (.getfield 44, 3) := by decide +kernel
theorem d_Mo_hit_64 : decode b_Mo_hit 64 = .ok (.iload_n 1, 1) := by decide +kernel
theorem d_Mo_hit_65 : decode b_Mo_hit 65 = .ok (.iaload, 1) := by decide +kernel
theorem d_Mo_hit_66 : decode b_Mo_hit 66 = .ok (.goto 9, 3) := by decide +kernel
theorem d_Mo_hit_69 : decode b_Mo_hit 69 = .ok (.aload_n 0, 1) := by decide +kernel
theorem d_Mo_hit_70 : decode b_Mo_hit 70 = .ok (.getfield 47, 3) := by decide +kernel
theorem d_Mo_hit_73 : decode b_Mo_hit 73 = .ok (.iload_n 1, 1) := by decide +kernel
theorem d_Mo_hit_74 : decode b_Mo_hit 74 = .ok (.iaload, 1) := by decide +kernel
theorem d_Mo_hit_75 : decode b_Mo_hit 75 = .ok (.ireturn, 1) := by decide +kernel
theorem d_Mo_withBad_0 : decode b_Mo_withBad 0 = .ok (.iconst 0, 1) := by decide +kernel
theorem d_Mo_withBad_1 : decode b_Mo_withBad 1 = .ok (.istore_n 2, 1) := by decide +kernel
theorem d_Mo_withBad_2 : decode b_Mo_withBad 2 = .ok (.iconst 0, 1) := by decide +kernel
theorem d_Mo_withBad_3 : decode b_Mo_withBad 3 = .ok (.istore_n 3, 1) := by decide +kernel
theorem d_Mo_withBad_4 : decode b_Mo_withBad 4 = .ok (.iload_n 3, 1) := by decide +kernel
theorem d_Mo_withBad_5 : decode b_Mo_withBad 5 = .ok (.aload_n 0, 1) := by decide +kernel
theorem d_Mo_withBad_6 : decode b_Mo_withBad 6 = .ok (.getfield 125, 3) := by decide +kernel
theorem d_Mo_withBad_9 : decode b_Mo_withBad 9 = .ok (.if_icmp .ge 27, 3) := by decide +kernel
theorem d_Mo_withBad_12 : decode b_Mo_withBad 12 = .ok (.aload_n 0, 1) := by decide +kernel
theorem d_Mo_withBad_13 : decode b_Mo_withBad 13 = .ok (.getfield 47, 3) := by decide +kernel
theorem d_Mo_withBad_16 : decode b_Mo_withBad 16 = .ok (.iload_n 3, 1) := by decide +kernel
theorem d_Mo_withBad_17 : decode b_Mo_withBad 17 = .ok (.iaload, 1) := by decide +kernel
theorem d_Mo_withBad_18 : decode b_Mo_withBad 18 = .ok (.iload_n 1, 1) := by decide +kernel
theorem d_Mo_withBad_19 : decode b_Mo_withBad 19 = .ok (.if_icmp .ne 9, 3) := by decide +kernel
theorem d_Mo_withBad_22 : decode b_Mo_withBad 22 = .ok (.iload_n 2, 1) := by decide +kernel
theorem d_Mo_withBad_23 : decode b_Mo_withBad 23 = .ok (.iconst 1, 1) := by decide +kernel
theorem d_Mo_withBad_24 : decode b_Mo_withBad 24 = .ok (.iadd, 1) := by decide +kernel
theorem d_Mo_withBad_25 : decode b_Mo_withBad 25 = .ok (.goto 4, 3) := by decide +kernel
theorem d_Mo_withBad_28 : decode b_Mo_withBad 28 = .ok (.iload_n 2, 1) := by decide +kernel
theorem d_Mo_withBad_29 : decode b_Mo_withBad 29 = .ok (.istore_n 2, 1) := by decide +kernel
theorem d_Mo_withBad_30 : decode b_Mo_withBad 30 = .ok (.iinc 3 1, 3) := by decide +kernel
theorem d_Mo_withBad_33 : decode b_Mo_withBad 33 = .ok (.goto (-29), 3) := by decide +kernel
theorem d_Mo_withBad_36 : decode b_Mo_withBad 36 = .ok (.iload_n 2, 1) := by decide +kernel
theorem d_Mo_withBad_37 : decode b_Mo_withBad 37 = .ok (.ireturn, 1) := by decide +kernel
theorem d_Mo_best_0 : decode b_Mo_best 0 = .ok (.iconst 0, 1) := by decide +kernel
theorem d_Mo_best_1 : decode b_Mo_best 1 = .ok (.istore_n 1, 1) := by decide +kernel
theorem d_Mo_best_2 : decode b_Mo_best 2 = .ok (.iconst 1, 1) := by decide +kernel
theorem d_Mo_best_3 : decode b_Mo_best 3 = .ok (.istore_n 2, 1) := by decide +kernel
theorem d_Mo_best_4 : decode b_Mo_best 4 = .ok (.iload_n 2, 1) := by decide +kernel
theorem d_Mo_best_5 : decode b_Mo_best 5 = .ok (.aload_n 0, 1) := by decide +kernel
theorem d_Mo_best_6 : decode b_Mo_best 6 = .ok (.getfield 125, 3) := by decide +kernel
theorem d_Mo_best_9 : decode b_Mo_best 9 = .ok (.if_icmp .ge 30, 3) := by decide +kernel
theorem d_Mo_best_12 : decode b_Mo_best 12 = .ok (.aload_n 0, 1) := by decide +kernel
theorem d_Mo_best_13 : decode b_Mo_best 13 = .ok (.getfield 47, 3) := by decide +kernel
theorem d_Mo_best_16 : decode b_Mo_best 16 = .ok (.iload_n 2, 1) := by decide +kernel
theorem d_Mo_best_17 : decode b_Mo_best 17 = .ok (.iaload, 1) := by decide +kernel
theorem d_Mo_best_18 : decode b_Mo_best 18 = .ok (.aload_n 0, 1) := by decide +kernel
theorem d_Mo_best_19 : decode b_Mo_best 19 = .ok (.getfield 47, 3) := by decide +kernel
theorem d_Mo_best_22 : decode b_Mo_best 22 = .ok (.iload_n 1, 1) := by decide +kernel
theorem d_Mo_best_23 : decode b_Mo_best 23 = .ok (.iaload, 1) := by decide +kernel
theorem d_Mo_best_24 : decode b_Mo_best 24 = .ok (.if_icmp .ge 7, 3) := by decide +kernel
theorem d_Mo_best_27 : decode b_Mo_best 27 = .ok (.iload_n 2, 1) := by decide +kernel
theorem d_Mo_best_28 : decode b_Mo_best 28 = .ok (.goto 4, 3) := by decide +kernel
theorem d_Mo_best_31 : decode b_Mo_best 31 = .ok (.iload_n 1, 1) := by decide +kernel
theorem d_Mo_best_32 : decode b_Mo_best 32 = .ok (.istore_n 1, 1) := by decide +kernel
theorem d_Mo_best_33 : decode b_Mo_best 33 = .ok (.iinc 2 1, 3) := by decide +kernel
theorem d_Mo_best_36 : decode b_Mo_best 36 = .ok (.goto (-32), 3) := by decide +kernel
theorem d_Mo_best_39 : decode b_Mo_best 39 = .ok (.iload_n 1, 1) := by decide +kernel
theorem d_Mo_best_40 : decode b_Mo_best 40 = .ok (.ireturn, 1) := by decide +kernel
theorem d_Mo_quality_0 : decode b_Mo_quality 0 = .ok (.aload_n 0, 1) := by decide +kernel
theorem d_Mo_quality_1 : decode b_Mo_quality 1 = .ok (.getfield 47, 3) := by decide +kernel
theorem d_Mo_quality_4 : decode b_Mo_quality 4 = .ok (.aload_n 0, 1) := by decide +kernel
theorem d_Mo_quality_5 : decode b_Mo_quality 5 = .ok (.invokevirtual 183, 3) := by decide +kernel
theorem d_Mo_quality_8 : decode b_Mo_quality 8 = .ok (.iaload, 1) := by decide +kernel
theorem d_Mo_quality_9 : decode b_Mo_quality 9 = .ok (.istore_n 1, 1) := by decide +kernel
theorem d_Mo_quality_10 : decode b_Mo_quality 10 = .ok (.aload_n 0, 1) := by decide +kernel
theorem d_Mo_quality_11 : decode b_Mo_quality 11 = .ok (.iload_n 1, 1) := by decide +kernel
theorem d_Mo_quality_12 : decode b_Mo_quality 12 = .ok (.iconst 1, 1) := by decide +kernel
theorem d_Mo_quality_13 : decode b_Mo_quality 13 = .ok (.iadd, 1) := by decide +kernel
theorem d_Mo_quality_14 : decode b_Mo_quality 14 = .ok (.invokevirtual 186, 3) := by decide +kernel
theorem d_Mo_quality_17 : decode b_Mo_quality 17 = .ok (.istore_n 2, 1) := by decide +kernel
theorem d_Mo_quality_18 : decode b_Mo_quality 18 = .ok (.aload_n 0, 1) := by decide +kernel
theorem d_Mo_quality_19 : decode b_Mo_quality 19 = .ok (.iload_n 1, 1) := by decide +kernel
theorem d_Mo_quality_20 : decode b_Mo_quality 20 = .ok (.invokevirtual 186, 3) := by decide +kernel
theorem d_Mo_quality_23 : decode b_Mo_quality 23 = .ok (.iconst 1, 1) := by decide +kernel
theorem d_Mo_quality_24 : decode b_Mo_quality 24 = .ok (.if_icmp .le 7, 3) := by decide +kernel
theorem d_Mo_quality_27 : decode b_Mo_quality 27 = .ok (.iconst 0, 1) := by decide +kernel
theorem d_Mo_quality_28 : decode b_Mo_quality 28 = .ok (.goto 32, 3) := by decide +kernel
theorem d_Mo_quality_31 : decode b_Mo_quality 31 = .ok (.iload_n 2, 1) := by decide +kernel
theorem d_Mo_quality_32 : decode b_Mo_quality 32 = .ok (.ifCond .ne 8, 3) := by decide +kernel
theorem d_Mo_quality_35 : decode b_Mo_quality 35 = .ok (.bipush 37, 2) := by decide +kernel
theorem d_Mo_quality_37 : decode b_Mo_quality 37 = .ok (.goto 23, 3) := by decide +kernel
theorem d_Mo_quality_40 : decode b_Mo_quality 40 = .ok (.bipush 23, 2) := by decide +kernel
theorem d_Mo_quality_42 : decode b_Mo_quality 42 = .ok (.iconst 3, 1) := by decide +kernel
theorem d_Mo_quality_43 : decode b_Mo_quality 43 = .ok (.iload_n 2, 1) := by decide +kernel
theorem d_Mo_quality_44 : decode b_Mo_quality 44 = .ok (.imul, 1) := by decide +kernel
theorem d_Mo_quality_45 : decode b_Mo_quality 45 = .ok (.isub, 1) := by decide +kernel
theorem d_Mo_quality_46 : decode b_Mo_quality 46 = .ok (.iconst 2, 1) := by decide +kernel
theorem d_Mo_quality_47 : decode b_Mo_quality 47 = .ok (.if_icmp .ge 7, 3) := by decide +kernel
theorem d_Mo_quality_50 : decode b_Mo_quality 50 = .ok (.iconst 2, 1) := by decide +kernel
theorem d_Mo_quality_51 : decode b_Mo_quality 51 = .ok (.goto 9, 3) := by decide +kernel
theorem d_Mo_quality_54 : decode b_Mo_quality 54 = .ok (.bipush 23, 2) := by decide +kernel
theorem d_Mo_quality_56 : decode b_Mo_quality 56 = .ok (.iconst 3, 1) := by decide +kernel
theorem d_Mo_quality_57 : decode b_Mo_quality 57 = .ok (.iload_n 2, 1) := by decide +kernel
theorem d_Mo_quality_58 : decode b_Mo_quality 58 = .ok (.imul, 1) := by decide +kernel
theorem d_Mo_quality_59 : decode b_Mo_quality 59 = .ok (.isub, 1) := by decide +kernel
theorem d_Mo_quality_60 : decode b_Mo_quality 60 = .ok (.ireturn, 1) := by decide +kernel
set_option maxHeartbeats 4000000 in
set_option maxRecDepth 100000 in
theorem c_Mo_isRead (l : Launch) (D : va_G) (cA : Nat → ClassId) (K : Nat → Nat) (mo ta aN aS aC aB aR aO aW aD a1 a2 a3 a4 aL aY aM bN bS bC bB bR bO aU : Nat) (rd mp gd : Bool) (zt ir : Int32) (np tot rt pl sg rn rs nh td ms ip it il : Nat) (L J : List Int32) (tf : Nat → Int32) (hc : cd_r 72 tf L) : ck_I l y_Mo_isRead (Cond.code y_Mo_isRead b_Mo_isRead 5 (some .boolean) :: w_all) 3 D cA K [.ref mo] [(mo, .inr (8, [.int zt, .int (nI L.length), .ref ta, .int (nI np), .ref aN, .ref aS, .ref aC, .int (nI tot), .ref aB, .int (bz_c rd), .int (nI rt), .int (nI pl), .ref aR, .ref aO, .int (nI sg), .ref aW, .int (bz_c mp), .int (nI rn), .int (nI rs), .int (bz_c gd), .ref aD, .int (nI nh), .ref a1, .ref a2, .ref a3, .ref a4, .int (nI td), .ref aL, .int (nI J.length), .ref aY, .int (nI ms), .ref aM, .int (nI ip), .int (nI it), .int ir, .int (nI il), .ref bN, .ref bS, .ref bC, .ref bB, .ref bR, .ref bO, .ref aU])), (ta, .inl (cA 1, 72, .inl tf))] (fun (r : Int32) (u : Nat) => (r = 1 ∧ ∃ k e, pr_ok L k e ∧ u = (e - k) - 1) ∨ (r = 0 ∧ ¬ ∃ k e, pr_ok L k e)) (fun u => [(mo, .inr (8, [.int zt, .int (nI L.length), .ref ta, .int (nI np), .ref aN, .ref aS, .ref aC, .int (nI tot), .ref aB, .int (bz_c rd), .int (nI rt), .int (nI pl), .ref aR, .ref aO, .int (nI sg), .ref aW, .int (bz_c mp), .int (nI rn), .int (nI rs), .int (bz_c gd), .ref aD, .int (nI nh), .ref a1, .ref a2, .ref a3, .ref a4, .int (nI u), .ref aL, .int (nI J.length), .ref aY, .int (nI ms), .ref aM, .int (nI ip), .int (nI it), .int ir, .int (nI il), .ref bN, .ref bS, .ref bC, .ref bB, .ref bR, .ref bO, .ref aU])), (ta, .inl (cA 1, 72, .inl tf))]) := by
  refine ck_mkI (by decide) (fun r u h => by rcases h with ⟨rfl, _⟩ | ⟨rfl, _⟩ <;> rfl) (Nat.le_of_ble_eq_true rfl) ?_
  intro pG eG sG mG argsG belowG methG cG Q A H locs ls hx hb hml hown hts hK hE hA hP hD hS hl hret
  have hl : lv_has ls 5 [(0, .ref mo)] := hl
  have hl1 := cd_len hc
  have hl0 := hc.1
  refine lv_aload_n hx hb d_Mo_isRead_0 rfl (lv_at hl 0 rfl) ?_
  refine ck_cV (C := "ReadMapperModel") (ci := 8) (rest := []) (wr := []) (ws2 := fun u => [(mo, .inr (8, [.int zt, .int (nI L.length), .ref ta, .int (nI np), .ref aN, .ref aS, .ref aC, .int (nI tot), .ref aB, .int (bz_c rd), .int (nI rt), .int (nI pl), .ref aR, .ref aO, .int (nI sg), .ref aW, .int (bz_c mp), .int (nI rn), .int (nI rs), .int (bz_c gd), .ref aD, .int (nI nh), .ref a1, .ref a2, .ref a3, .ref a4, .int (nI td), .ref aL, .int (nI J.length), .ref aY, .int (nI ms), .ref aM, .int (nI ip), .int (nI it), .int ir, .int (nI il), .ref bN, .ref bS, .ref bC, .ref bB, .ref bR, .ref bO, .ref aU])), (ta, .inl (cA 1, 72, .inl tf))]) (c_Mo_nameLength l D cA K mo ta aN aS aC aB aR aO aW aD a1 a2 a3 a4 aL aY aM bN bS bC bB bR bO aU rd mp gd zt ir np tot rt pl sg rn rs nh td ms ip it il L J tf (by first | assumption | omega)) hx hb hml hown hts hK hE hA hP hD hS k_Mo_nameLength m_989 (by decide) 0 rfl rfl rfl hl.1 rfl (Nat.le_of_ble_eq_true rfl) d_Mo_isRead_1  [0, 1] [] [0, 1] rfl rfl (by decide) (fun _ => rfl) (fun r1 u1 H locs hq1 hP hD hS => ?_)
  try dsimp only at hq1
  have hP : va_P D vwCl [(mo, .inr (8, [.int zt, .int (nI L.length), .ref ta, .int (nI np), .ref aN, .ref aS, .ref aC, .int (nI tot), .ref aB, .int (bz_c rd), .int (nI rt), .int (nI pl), .ref aR, .ref aO, .int (nI sg), .ref aW, .int (bz_c mp), .int (nI rn), .int (nI rs), .int (bz_c gd), .ref aD, .int (nI nh), .ref a1, .ref a2, .ref a3, .ref a4, .int (nI td), .ref aL, .int (nI J.length), .ref aY, .int (nI ms), .ref aM, .int (nI ip), .int (nI it), .int ir, .int (nI il), .ref bN, .ref bS, .ref bC, .ref bB, .ref bR, .ref bO, .ref aU])), (ta, .inl (cA 1, 72, .inl tf))] H := hP
  have hD : va_D A [(mo, .inr (8, [.int zt, .int (nI L.length), .ref ta, .int (nI np), .ref aN, .ref aS, .ref aC, .int (nI tot), .ref aB, .int (bz_c rd), .int (nI rt), .int (nI pl), .ref aR, .ref aO, .int (nI sg), .ref aW, .int (bz_c mp), .int (nI rn), .int (nI rs), .int (bz_c gd), .ref aD, .int (nI nh), .ref a1, .ref a2, .ref a3, .ref a4, .int (nI td), .ref aL, .int (nI J.length), .ref aY, .int (nI ms), .ref aM, .int (nI ip), .int (nI it), .int ir, .int (nI il), .ref bN, .ref bS, .ref bC, .ref bB, .ref bR, .ref bO, .ref aU])), (ta, .inl (cA 1, 72, .inl tf))] := hD
  obtain ⟨k1, rfl, hq1⟩ := hq1
  have hk1 := nl_le hq1
  refine lv_istore_n (lv' := [(1, .int (nI k1)), (0, .ref mo)]) hx hb d_Mo_isRead_4 rfl hl (by decide) rfl (fun ls hl => ?_)
  refine lv_aload_n hx hb d_Mo_isRead_5 rfl (lv_at hl 1 rfl) ?_
  refine lv_iload_n hx hb d_Mo_isRead_6 rfl (lv_at hl 0 rfl) ?_
  refine lv_iconst (v := nI 1) hx hb d_Mo_isRead_7 (by decide) ?_
  refine wn_iadd hx hb d_Mo_isRead_8 ?_
  refine ck_cV (C := "ReadMapperModel") (ci := 8) (rest := []) (wr := []) (ws2 := fun u => [(mo, .inr (8, [.int zt, .int (nI L.length), .ref ta, .int (nI np), .ref aN, .ref aS, .ref aC, .int (nI tot), .ref aB, .int (bz_c rd), .int (nI rt), .int (nI pl), .ref aR, .ref aO, .int (nI sg), .ref aW, .int (bz_c mp), .int (nI rn), .int (nI rs), .int (bz_c gd), .ref aD, .int (nI nh), .ref a1, .ref a2, .ref a3, .ref a4, .int (nI td), .ref aL, .int (nI J.length), .ref aY, .int (nI ms), .ref aM, .int (nI ip), .int (nI it), .int ir, .int (nI il), .ref bN, .ref bS, .ref bC, .ref bB, .ref bR, .ref bO, .ref aU])), (ta, .inl (cA 1, 72, .inl tf))]) (c_Mo_basesEnd l D cA K mo ta aN aS aC aB aR aO aW aD a1 a2 a3 a4 aL aY aM bN bS bC bB bR bO aU rd mp gd zt ir np tot rt pl sg rn rs nh td ms ip it il L J tf (k1 + 1) (by first | assumption | omega) (by first | assumption | omega)) hx hb hml hown hts hK hE hA hP hD hS k_Mo_basesEnd m_996 (by decide) 0 rfl rfl rfl hl.1 rfl (Nat.le_of_ble_eq_true rfl) d_Mo_isRead_9  [0, 1] [] [0, 1] rfl rfl (by decide) (fun _ => rfl) (fun r9 u9 H locs hq9 hP hD hS => ?_)
  try dsimp only at hq9
  have hP : va_P D vwCl [(mo, .inr (8, [.int zt, .int (nI L.length), .ref ta, .int (nI np), .ref aN, .ref aS, .ref aC, .int (nI tot), .ref aB, .int (bz_c rd), .int (nI rt), .int (nI pl), .ref aR, .ref aO, .int (nI sg), .ref aW, .int (bz_c mp), .int (nI rn), .int (nI rs), .int (bz_c gd), .ref aD, .int (nI nh), .ref a1, .ref a2, .ref a3, .ref a4, .int (nI td), .ref aL, .int (nI J.length), .ref aY, .int (nI ms), .ref aM, .int (nI ip), .int (nI it), .int ir, .int (nI il), .ref bN, .ref bS, .ref bC, .ref bB, .ref bR, .ref bO, .ref aU])), (ta, .inl (cA 1, 72, .inl tf))] H := hP
  have hD : va_D A [(mo, .inr (8, [.int zt, .int (nI L.length), .ref ta, .int (nI np), .ref aN, .ref aS, .ref aC, .int (nI tot), .ref aB, .int (bz_c rd), .int (nI rt), .int (nI pl), .ref aR, .ref aO, .int (nI sg), .ref aW, .int (bz_c mp), .int (nI rn), .int (nI rs), .int (bz_c gd), .ref aD, .int (nI nh), .ref a1, .ref a2, .ref a3, .ref a4, .int (nI td), .ref aL, .int (nI J.length), .ref aY, .int (nI ms), .ref aM, .int (nI ip), .int (nI it), .int ir, .int (nI il), .ref bN, .ref bS, .ref bC, .ref bB, .ref bR, .ref bO, .ref aU])), (ta, .inl (cA 1, 72, .inl tf))] := hD
  obtain ⟨k9, rfl, hq9⟩ := hq9
  have hk9 := hq9.2.1
  have hk8 := hq9.1
  refine lv_istore_n (lv' := [(2, .int (nI k9)), (1, .int (nI k1)), (0, .ref mo)]) hx hb d_Mo_isRead_12 rfl hl (by decide) rfl (fun ls hl => ?_)
  refine lv_aload_n hx hb d_Mo_isRead_13 rfl (lv_at hl 2 rfl) ?_
  refine lv_iload_n hx hb d_Mo_isRead_14 rfl (lv_at hl 0 rfl) ?_
  refine lv_iload_n hx hb d_Mo_isRead_15 rfl (lv_at hl 1 rfl) ?_
  refine wn_isub (by omega) hx hb d_Mo_isRead_16 ?_
  refine lv_iconst (v := nI 1) hx hb d_Mo_isRead_17 (by decide) ?_
  refine wn_isub (by omega) hx hb d_Mo_isRead_18 ?_
  refine va_put (D := D) (ci := 8) (v := .int (nI ((k9 - k1) - 1))) (ty := .int) (C := RX8) (T := TX8) (N := 43) hx hb hts inX8 tyX8 tyX8_ok nmX8 hown hK hP hD hS 0 rfl rfl 26 (by decide) (hts _ m_871) (fun _ h9 => h9) rfl (by decide +kernel) rfl rfl (Nat.le_of_ble_eq_true rfl) d_Mo_isRead_19 (fun H locs hP hD hS => ?_)
  have hP : va_P D vwCl [(mo, .inr (8, [.int zt, .int (nI L.length), .ref ta, .int (nI np), .ref aN, .ref aS, .ref aC, .int (nI tot), .ref aB, .int (bz_c rd), .int (nI rt), .int (nI pl), .ref aR, .ref aO, .int (nI sg), .ref aW, .int (bz_c mp), .int (nI rn), .int (nI rs), .int (bz_c gd), .ref aD, .int (nI nh), .ref a1, .ref a2, .ref a3, .ref a4, .int (nI ((k9 - k1) - 1)), .ref aL, .int (nI J.length), .ref aY, .int (nI ms), .ref aM, .int (nI ip), .int (nI it), .int ir, .int (nI il), .ref bN, .ref bS, .ref bC, .ref bB, .ref bR, .ref bO, .ref aU])), (ta, .inl (cA 1, 72, .inl tf))] H := hP
  have hD : va_D A [(mo, .inr (8, [.int zt, .int (nI L.length), .ref ta, .int (nI np), .ref aN, .ref aS, .ref aC, .int (nI tot), .ref aB, .int (bz_c rd), .int (nI rt), .int (nI pl), .ref aR, .ref aO, .int (nI sg), .ref aW, .int (bz_c mp), .int (nI rn), .int (nI rs), .int (bz_c gd), .ref aD, .int (nI nh), .ref a1, .ref a2, .ref a3, .ref a4, .int (nI ((k9 - k1) - 1)), .ref aL, .int (nI J.length), .ref aY, .int (nI ms), .ref aM, .int (nI ip), .int (nI it), .int ir, .int (nI il), .ref bN, .ref bS, .ref bC, .ref bB, .ref bR, .ref bO, .ref aU])), (ta, .inl (cA 1, 72, .inl tf))] := hD
  refine lv_iload_n hx hb d_Mo_isRead_22 rfl (lv_at hl 1 rfl) ?_
  refine wn_if_eq (by omega) (tgt := 43) hx hb d_Mo_isRead_23 (by decide) ?_ ?_
  · intro h23
    refine lv_iconst (v := 0) hx hb d_Mo_isRead_43 (by decide) ?_
    exact hret 0 ((k9 - k1) - 1) _ _ _ 44 d_Mo_isRead_44 (by first | exact Or.inr ⟨rfl, ir_n hq1 hq9 (fun y => by have y1 := y.2.2.1.1; omega)⟩ | exact Or.inr ⟨rfl, ir_n hq1 hq9 (fun y => by have y1 := y.2.2.2.1.1; omega)⟩ | exact Or.inr ⟨rfl, ir_n hq1 hq9 (fun y => by have y1 := y.2.2.2.1.2.1; omega)⟩) hP hD hS
  · intro h23
    refine lv_aload_n hx hb d_Mo_isRead_26 rfl (lv_at hl 2 rfl) ?_
    refine va_get (C := RX8) (T := TX8) (N := 43) hx hb hts inX8 hown hK hP 0 rfl rfl 26 (by decide) (hts _ m_871) (fun _ h9 => h9) rfl d_Mo_isRead_27 ?_
    refine lv_iconst (v := nI 1) hx hb d_Mo_isRead_30 (by decide) ?_
    refine wn_icmp_lt (by omega) (by omega) (tgt := 43) hx hb d_Mo_isRead_31 (by decide) ?_ ?_
    · intro h31
      refine lv_iconst (v := 0) hx hb d_Mo_isRead_43 (by decide) ?_
      exact hret 0 ((k9 - k1) - 1) _ _ _ 44 d_Mo_isRead_44 (by first | exact Or.inr ⟨rfl, ir_n hq1 hq9 (fun y => by have y1 := y.2.2.1.1; omega)⟩ | exact Or.inr ⟨rfl, ir_n hq1 hq9 (fun y => by have y1 := y.2.2.2.1.1; omega)⟩ | exact Or.inr ⟨rfl, ir_n hq1 hq9 (fun y => by have y1 := y.2.2.2.1.2.1; omega)⟩) hP hD hS
    · intro h31
      refine lv_aload_n hx hb d_Mo_isRead_34 rfl (lv_at hl 2 rfl) ?_
      refine va_get (C := RX8) (T := TX8) (N := 43) hx hb hts inX8 hown hK hP 0 rfl rfl 26 (by decide) (hts _ m_871) (fun _ h9 => h9) rfl d_Mo_isRead_35 ?_
      refine lv_bipush (v := nI 20) hx hb d_Mo_isRead_38 (by decide) ?_
      refine wn_icmp_le (by omega) (by omega) (tgt := 45) hx hb d_Mo_isRead_40 (by decide) ?_ ?_
      · intro h40
        refine lv_iload_n hx hb d_Mo_isRead_45 rfl (lv_at hl 0 rfl) ?_
        refine lv_aload_n hx hb d_Mo_isRead_46 rfl (lv_at hl 2 rfl) ?_
        refine va_get (C := RX8) (T := TX8) (N := 43) hx hb hts inX8 hown hK hP 0 rfl rfl 1 (by decide) (hts _ m_846) (fun _ h9 => h9) rfl d_Mo_isRead_47 ?_
        refine wn_icmp_ne (by omega) (by omega) (tgt := 55) hx hb d_Mo_isRead_50 (by decide) ?_ ?_
        · intro h50
          have hk7 : k9 < L.length := by have := nl_pos hq1 (by omega); omega
          refine lv_aload_n hx hb d_Mo_isRead_55 rfl (lv_at hl 2 rfl) ?_
          refine va_get (C := RX8) (T := TX8) (N := 43) hx hb hts inX8 hown hK hP 0 rfl rfl 2 (by decide) (hts _ m_847) (fun _ h9 => h9) rfl d_Mo_isRead_56 ?_
          refine lv_iload_n hx hb d_Mo_isRead_59 rfl (lv_at hl 0 rfl) ?_
          refine wn_cald hx hb hK hP 1 1 rfl rfl (by omega) (by omega) d_Mo_isRead_60 ?_
          refine wn_eq (y := L.getD k9 0) (hc.2.2 k9 (by omega)) ?_
          refine lv_bipush (v := 58) hx hb d_Mo_isRead_61 (by decide) ?_
          refine lv_icmp_ne (tgt := 85) hx hb d_Mo_isRead_63 (by decide) ?_ ?_
          · intro h63
            refine lv_iconst (v := nI 0) hx hb d_Mo_isRead_85 (by decide) ?_
            refine lv_istore_n (lv' := [(3, .int (nI 0)), (2, .int (nI k9)), (1, .int (nI k1)), (0, .ref mo)]) hx hb d_Mo_isRead_86 rfl hl (by decide) rfl (fun ls hl => ?_)
            refine lv_iload_n hx hb d_Mo_isRead_87 rfl (lv_at hl 1 rfl) ?_
            refine lv_iconst (v := nI 1) hx hb d_Mo_isRead_88 (by decide) ?_
            refine wn_iadd hx hb d_Mo_isRead_89 ?_
            refine lv_istore (lv' := [(4, .int (nI (k9 + 1))), (3, .int (nI 0)), (2, .int (nI k9)), (1, .int (nI k1)), (0, .ref mo)]) hx hb d_Mo_isRead_90 hl (by decide) rfl (fun ls hl => ?_)
            have hl : lv_has ls 5 [(4, .int (nI (k9 + 1))), (3, .int (bz_c false)), (2, .int (nI k9)), (1, .int (nI k1)), (0, .ref mo)] := hl
            have L92 : ∀ (nG : Nat) (i : Nat) (g : Bool) (H : Heap) (locs : List Loc) (ls : Array Slot), L.length - i = nG → (k9 + 1 ≤ i) → (i ≤ L.length) → ((g = true ↔ (L.getD k9 0 = 58 ∧ L.length - k9 - 1 = (k9 - k1) - 1 ∧ ∀ j, k9 + 1 ≤ j → j < i → ql_c (L.getD j 0)))) →  va_P D vwCl [(mo, .inr (8, [.int zt, .int (nI L.length), .ref ta, .int (nI np), .ref aN, .ref aS, .ref aC, .int (nI tot), .ref aB, .int (bz_c rd), .int (nI rt), .int (nI pl), .ref aR, .ref aO, .int (nI sg), .ref aW, .int (bz_c mp), .int (nI rn), .int (nI rs), .int (bz_c gd), .ref aD, .int (nI nh), .ref a1, .ref a2, .ref a3, .ref a4, .int (nI ((k9 - k1) - 1)), .ref aL, .int (nI J.length), .ref aY, .int (nI ms), .ref aM, .int (nI ip), .int (nI it), .int ir, .int (nI il), .ref bN, .ref bS, .ref bC, .ref bB, .ref bR, .ref bO, .ref aU])), (ta, .inl (cA 1, 72, .inl tf))] H → va_D A [(mo, .inr (8, [.int zt, .int (nI L.length), .ref ta, .int (nI np), .ref aN, .ref aS, .ref aC, .int (nI tot), .ref aB, .int (bz_c rd), .int (nI rt), .int (nI pl), .ref aR, .ref aO, .int (nI sg), .ref aW, .int (bz_c mp), .int (nI rn), .int (nI rs), .int (bz_c gd), .ref aD, .int (nI nh), .ref a1, .ref a2, .ref a3, .ref a4, .int (nI ((k9 - k1) - 1)), .ref aL, .int (nI J.length), .ref aY, .int (nI ms), .ref aM, .int (nI ip), .int (nI it), .int ir, .int (nI il), .ref bN, .ref bS, .ref bC, .ref bB, .ref bR, .ref bO, .ref aU])), (ta, .inl (cA 1, 72, .inl tf))] → va_S A sG.heap H locs → lv_has ls 5 [(0, .ref mo), (1, .int (nI k1)), (2, .int (nI k9)), (3, .int (bz_c g)), (4, .int (nI i))] → W pG l eG (rm_d 3) sG mG argsG belowG methG cG H locs 0 0 Q (F0 mG 92 ls []) := by
              intro nG
              induction nG using Nat.strongRecOn with
              | ind nG ih92 =>
                intro i g H locs ls hn92 hi1 hi hg hP hD hS hl
                refine lv_iload hx hb d_Mo_isRead_92 (lv_at hl 4 rfl) ?_
                refine lv_aload_n hx hb d_Mo_isRead_94 rfl (lv_at hl 0 rfl) ?_
                refine va_get (C := RX8) (T := TX8) (N := 43) hx hb hts inX8 hown hK hP 0 rfl rfl 1 (by decide) (hts _ m_846) (fun _ h9 => h9) rfl d_Mo_isRead_95 ?_
                refine wn_icmp_ge (by omega) (by omega) (tgt := 141) hx hb d_Mo_isRead_98 (by decide) ?_ ?_
                · intro h98
                  refine lv_iload_n hx hb d_Mo_isRead_141 rfl (lv_at hl 3 rfl) ?_
                  exact hret (bz_c g) ((k9 - k1) - 1) _ _ _ 142 d_Mo_isRead_142 (ir_e hq1 hq9 (by omega) (by omega) (by omega) (show k9 < L.length from hk7) (show i = L.length by omega) hg) hP hD hS
                · intro h98
                  refine lv_iload_n hx hb d_Mo_isRead_101 rfl (lv_at hl 3 rfl) ?_
                  refine lv_if_eq (tgt := 133) hx hb d_Mo_isRead_102 (by decide) ?_ ?_
                  · intro h102
                    refine lv_iconst (v := nI 0) hx hb d_Mo_isRead_133 (by decide) ?_
                    refine lv_istore_n (lv' := [(3, .int (nI 0)), (0, .ref mo), (1, .int (nI k1)), (2, .int (nI k9)), (4, .int (nI i))]) hx hb d_Mo_isRead_134 rfl hl (by decide) rfl (fun ls hl => ?_)
                    refine lv_iinc (k := 4) (v := nI (i + 1)) (lv' := [(4, .int (nI (i + 1))), (3, .int (nI 0)), (0, .ref mo), (1, .int (nI k1)), (2, .int (nI k9))]) hx hb d_Mo_isRead_135 hl rfl (wi_inc1 _) (by decide) rfl (fun ls hl => ?_)
                    refine lv_goto (tgt := 92) hx hb d_Mo_isRead_138 (by decide) ?_
                    exact ih92 _ (by omega) (i + 1) _ _ _ _ rfl (by first | assumption | omega) (by first | assumption | omega) (by first | exact ig_3 hg h102 | exact ig_4 hi1 (fun y => y.2 h114) | exact ig_4 hi1 (fun y => y.1 h126) | exact ig_5 hg (bz_1 h102) ⟨h126, h114⟩) hP hD hS (lv_sub hl [2, 3, 4, 1, 0] rfl)
                  · intro h102
                    refine lv_aload_n hx hb d_Mo_isRead_105 rfl (lv_at hl 0 rfl) ?_
                    refine va_get (C := RX8) (T := TX8) (N := 43) hx hb hts inX8 hown hK hP 0 rfl rfl 2 (by decide) (hts _ m_847) (fun _ h9 => h9) rfl d_Mo_isRead_106 ?_
                    refine lv_iload hx hb d_Mo_isRead_109 (lv_at hl 4 rfl) ?_
                    refine wn_cald hx hb hK hP 1 1 rfl rfl (by omega) (by omega) d_Mo_isRead_111 ?_
                    refine wn_eq (y := L.getD i 0) (hc.2.2 i (by omega)) ?_
                    refine lv_bipush (v := 58) hx hb d_Mo_isRead_112 (by decide) ?_
                    refine lv_icmp_eq (tgt := 133) hx hb d_Mo_isRead_114 (by decide) ?_ ?_
                    · intro h114
                      refine lv_iconst (v := nI 0) hx hb d_Mo_isRead_133 (by decide) ?_
                      refine lv_istore_n (lv' := [(3, .int (nI 0)), (0, .ref mo), (1, .int (nI k1)), (2, .int (nI k9)), (4, .int (nI i))]) hx hb d_Mo_isRead_134 rfl hl (by decide) rfl (fun ls hl => ?_)
                      refine lv_iinc (k := 4) (v := nI (i + 1)) (lv' := [(4, .int (nI (i + 1))), (3, .int (nI 0)), (0, .ref mo), (1, .int (nI k1)), (2, .int (nI k9))]) hx hb d_Mo_isRead_135 hl rfl (wi_inc1 _) (by decide) rfl (fun ls hl => ?_)
                      refine lv_goto (tgt := 92) hx hb d_Mo_isRead_138 (by decide) ?_
                      exact ih92 _ (by omega) (i + 1) _ _ _ _ rfl (by first | assumption | omega) (by first | assumption | omega) (by first | exact ig_3 hg h102 | exact ig_4 hi1 (fun y => y.2 h114) | exact ig_4 hi1 (fun y => y.1 h126) | exact ig_5 hg (bz_1 h102) ⟨h126, h114⟩) hP hD hS (lv_sub hl [2, 3, 4, 1, 0] rfl)
                    · intro h114
                      refine lv_aload_n hx hb d_Mo_isRead_117 rfl (lv_at hl 0 rfl) ?_
                      refine va_get (C := RX8) (T := TX8) (N := 43) hx hb hts inX8 hown hK hP 0 rfl rfl 2 (by decide) (hts _ m_847) (fun _ h9 => h9) rfl d_Mo_isRead_118 ?_
                      refine lv_iload hx hb d_Mo_isRead_121 (lv_at hl 4 rfl) ?_
                      refine wn_cald hx hb hK hP 1 1 rfl rfl (by omega) (by omega) d_Mo_isRead_123 ?_
                      refine wn_eq (y := L.getD i 0) (hc.2.2 i (by omega)) ?_
                      refine lv_bipush (v := 32) hx hb d_Mo_isRead_124 (by decide) ?_
                      refine lv_icmp_le (tgt := 133) hx hb d_Mo_isRead_126 (by decide) ?_ ?_
                      · intro h126
                        refine lv_iconst (v := nI 0) hx hb d_Mo_isRead_133 (by decide) ?_
                        refine lv_istore_n (lv' := [(3, .int (nI 0)), (0, .ref mo), (1, .int (nI k1)), (2, .int (nI k9)), (4, .int (nI i))]) hx hb d_Mo_isRead_134 rfl hl (by decide) rfl (fun ls hl => ?_)
                        refine lv_iinc (k := 4) (v := nI (i + 1)) (lv' := [(4, .int (nI (i + 1))), (3, .int (nI 0)), (0, .ref mo), (1, .int (nI k1)), (2, .int (nI k9))]) hx hb d_Mo_isRead_135 hl rfl (wi_inc1 _) (by decide) rfl (fun ls hl => ?_)
                        refine lv_goto (tgt := 92) hx hb d_Mo_isRead_138 (by decide) ?_
                        exact ih92 _ (by omega) (i + 1) _ _ _ _ rfl (by first | assumption | omega) (by first | assumption | omega) (by first | exact ig_3 hg h102 | exact ig_4 hi1 (fun y => y.2 h114) | exact ig_4 hi1 (fun y => y.1 h126) | exact ig_5 hg (bz_1 h102) ⟨h126, h114⟩) hP hD hS (lv_sub hl [2, 3, 4, 1, 0] rfl)
                      · intro h126
                        refine lv_iconst (v := 1) hx hb d_Mo_isRead_129 (by decide) ?_
                        refine lv_goto (tgt := 134) hx hb d_Mo_isRead_130 (by decide) ?_
                        refine lv_istore_n (lv' := [(3, .int 1), (0, .ref mo), (1, .int (nI k1)), (2, .int (nI k9)), (4, .int (nI i))]) hx hb d_Mo_isRead_134 rfl hl (by decide) rfl (fun ls hl => ?_)
                        refine lv_iinc (k := 4) (v := nI (i + 1)) (lv' := [(4, .int (nI (i + 1))), (3, .int 1), (0, .ref mo), (1, .int (nI k1)), (2, .int (nI k9))]) hx hb d_Mo_isRead_135 hl rfl (wi_inc1 _) (by decide) rfl (fun ls hl => ?_)
                        refine lv_goto (tgt := 92) hx hb d_Mo_isRead_138 (by decide) ?_
                        exact ih92 _ (by omega) (i + 1) _ _ _ _ rfl (by first | assumption | omega) (by first | assumption | omega) (by first | exact ig_3 hg h102 | exact ig_4 hi1 (fun y => y.2 h114) | exact ig_4 hi1 (fun y => y.1 h126) | exact ig_5 hg (bz_1 h102) ⟨h126, h114⟩) hP hD hS (lv_sub hl [2, 3, 4, 1, 0] rfl)
            exact L92 _ (k9 + 1) false _ _ _ rfl (by first | assumption | omega) (by first | assumption | omega) (by first | exact ig_1 h63 h78 | exact fg_2 (fun y => h63 y.1) | exact fg_2 (fun y => h78 y.2.1)) hP hD hS (lv_sub hl [4, 3, 2, 1, 0] rfl)
          · intro h63
            refine lv_aload_n hx hb d_Mo_isRead_66 rfl (lv_at hl 2 rfl) ?_
            refine va_get (C := RX8) (T := TX8) (N := 43) hx hb hts inX8 hown hK hP 0 rfl rfl 1 (by decide) (hts _ m_846) (fun _ h9 => h9) rfl d_Mo_isRead_67 ?_
            refine lv_iload_n hx hb d_Mo_isRead_70 rfl (lv_at hl 0 rfl) ?_
            refine wn_isub (by omega) hx hb d_Mo_isRead_71 ?_
            refine lv_iconst (v := nI 1) hx hb d_Mo_isRead_72 (by decide) ?_
            refine wn_isub (by omega) hx hb d_Mo_isRead_73 ?_
            refine lv_aload_n hx hb d_Mo_isRead_74 rfl (lv_at hl 2 rfl) ?_
            refine va_get (C := RX8) (T := TX8) (N := 43) hx hb hts inX8 hown hK hP 0 rfl rfl 26 (by decide) (hts _ m_871) (fun _ h9 => h9) rfl d_Mo_isRead_75 ?_
            refine wn_icmp_ne (by omega) (by omega) (tgt := 85) hx hb d_Mo_isRead_78 (by decide) ?_ ?_
            · intro h78
              refine lv_iconst (v := nI 0) hx hb d_Mo_isRead_85 (by decide) ?_
              refine lv_istore_n (lv' := [(3, .int (nI 0)), (2, .int (nI k9)), (1, .int (nI k1)), (0, .ref mo)]) hx hb d_Mo_isRead_86 rfl hl (by decide) rfl (fun ls hl => ?_)
              refine lv_iload_n hx hb d_Mo_isRead_87 rfl (lv_at hl 1 rfl) ?_
              refine lv_iconst (v := nI 1) hx hb d_Mo_isRead_88 (by decide) ?_
              refine wn_iadd hx hb d_Mo_isRead_89 ?_
              refine lv_istore (lv' := [(4, .int (nI (k9 + 1))), (3, .int (nI 0)), (2, .int (nI k9)), (1, .int (nI k1)), (0, .ref mo)]) hx hb d_Mo_isRead_90 hl (by decide) rfl (fun ls hl => ?_)
              have hl : lv_has ls 5 [(4, .int (nI (k9 + 1))), (3, .int (bz_c false)), (2, .int (nI k9)), (1, .int (nI k1)), (0, .ref mo)] := hl
              have L92 : ∀ (nG : Nat) (i : Nat) (g : Bool) (H : Heap) (locs : List Loc) (ls : Array Slot), L.length - i = nG → (k9 + 1 ≤ i) → (i ≤ L.length) → ((g = true ↔ (L.getD k9 0 = 58 ∧ L.length - k9 - 1 = (k9 - k1) - 1 ∧ ∀ j, k9 + 1 ≤ j → j < i → ql_c (L.getD j 0)))) →  va_P D vwCl [(mo, .inr (8, [.int zt, .int (nI L.length), .ref ta, .int (nI np), .ref aN, .ref aS, .ref aC, .int (nI tot), .ref aB, .int (bz_c rd), .int (nI rt), .int (nI pl), .ref aR, .ref aO, .int (nI sg), .ref aW, .int (bz_c mp), .int (nI rn), .int (nI rs), .int (bz_c gd), .ref aD, .int (nI nh), .ref a1, .ref a2, .ref a3, .ref a4, .int (nI ((k9 - k1) - 1)), .ref aL, .int (nI J.length), .ref aY, .int (nI ms), .ref aM, .int (nI ip), .int (nI it), .int ir, .int (nI il), .ref bN, .ref bS, .ref bC, .ref bB, .ref bR, .ref bO, .ref aU])), (ta, .inl (cA 1, 72, .inl tf))] H → va_D A [(mo, .inr (8, [.int zt, .int (nI L.length), .ref ta, .int (nI np), .ref aN, .ref aS, .ref aC, .int (nI tot), .ref aB, .int (bz_c rd), .int (nI rt), .int (nI pl), .ref aR, .ref aO, .int (nI sg), .ref aW, .int (bz_c mp), .int (nI rn), .int (nI rs), .int (bz_c gd), .ref aD, .int (nI nh), .ref a1, .ref a2, .ref a3, .ref a4, .int (nI ((k9 - k1) - 1)), .ref aL, .int (nI J.length), .ref aY, .int (nI ms), .ref aM, .int (nI ip), .int (nI it), .int ir, .int (nI il), .ref bN, .ref bS, .ref bC, .ref bB, .ref bR, .ref bO, .ref aU])), (ta, .inl (cA 1, 72, .inl tf))] → va_S A sG.heap H locs → lv_has ls 5 [(0, .ref mo), (1, .int (nI k1)), (2, .int (nI k9)), (3, .int (bz_c g)), (4, .int (nI i))] → W pG l eG (rm_d 3) sG mG argsG belowG methG cG H locs 0 0 Q (F0 mG 92 ls []) := by
                intro nG
                induction nG using Nat.strongRecOn with
                | ind nG ih92 =>
                  intro i g H locs ls hn92 hi1 hi hg hP hD hS hl
                  refine lv_iload hx hb d_Mo_isRead_92 (lv_at hl 4 rfl) ?_
                  refine lv_aload_n hx hb d_Mo_isRead_94 rfl (lv_at hl 0 rfl) ?_
                  refine va_get (C := RX8) (T := TX8) (N := 43) hx hb hts inX8 hown hK hP 0 rfl rfl 1 (by decide) (hts _ m_846) (fun _ h9 => h9) rfl d_Mo_isRead_95 ?_
                  refine wn_icmp_ge (by omega) (by omega) (tgt := 141) hx hb d_Mo_isRead_98 (by decide) ?_ ?_
                  · intro h98
                    refine lv_iload_n hx hb d_Mo_isRead_141 rfl (lv_at hl 3 rfl) ?_
                    exact hret (bz_c g) ((k9 - k1) - 1) _ _ _ 142 d_Mo_isRead_142 (ir_e hq1 hq9 (by omega) (by omega) (by omega) (show k9 < L.length from hk7) (show i = L.length by omega) hg) hP hD hS
                  · intro h98
                    refine lv_iload_n hx hb d_Mo_isRead_101 rfl (lv_at hl 3 rfl) ?_
                    refine lv_if_eq (tgt := 133) hx hb d_Mo_isRead_102 (by decide) ?_ ?_
                    · intro h102
                      refine lv_iconst (v := nI 0) hx hb d_Mo_isRead_133 (by decide) ?_
                      refine lv_istore_n (lv' := [(3, .int (nI 0)), (0, .ref mo), (1, .int (nI k1)), (2, .int (nI k9)), (4, .int (nI i))]) hx hb d_Mo_isRead_134 rfl hl (by decide) rfl (fun ls hl => ?_)
                      refine lv_iinc (k := 4) (v := nI (i + 1)) (lv' := [(4, .int (nI (i + 1))), (3, .int (nI 0)), (0, .ref mo), (1, .int (nI k1)), (2, .int (nI k9))]) hx hb d_Mo_isRead_135 hl rfl (wi_inc1 _) (by decide) rfl (fun ls hl => ?_)
                      refine lv_goto (tgt := 92) hx hb d_Mo_isRead_138 (by decide) ?_
                      exact ih92 _ (by omega) (i + 1) _ _ _ _ rfl (by first | assumption | omega) (by first | assumption | omega) (by first | exact ig_3 hg h102 | exact ig_4 hi1 (fun y => y.2 h114) | exact ig_4 hi1 (fun y => y.1 h126) | exact ig_5 hg (bz_1 h102) ⟨h126, h114⟩) hP hD hS (lv_sub hl [2, 3, 4, 1, 0] rfl)
                    · intro h102
                      refine lv_aload_n hx hb d_Mo_isRead_105 rfl (lv_at hl 0 rfl) ?_
                      refine va_get (C := RX8) (T := TX8) (N := 43) hx hb hts inX8 hown hK hP 0 rfl rfl 2 (by decide) (hts _ m_847) (fun _ h9 => h9) rfl d_Mo_isRead_106 ?_
                      refine lv_iload hx hb d_Mo_isRead_109 (lv_at hl 4 rfl) ?_
                      refine wn_cald hx hb hK hP 1 1 rfl rfl (by omega) (by omega) d_Mo_isRead_111 ?_
                      refine wn_eq (y := L.getD i 0) (hc.2.2 i (by omega)) ?_
                      refine lv_bipush (v := 58) hx hb d_Mo_isRead_112 (by decide) ?_
                      refine lv_icmp_eq (tgt := 133) hx hb d_Mo_isRead_114 (by decide) ?_ ?_
                      · intro h114
                        refine lv_iconst (v := nI 0) hx hb d_Mo_isRead_133 (by decide) ?_
                        refine lv_istore_n (lv' := [(3, .int (nI 0)), (0, .ref mo), (1, .int (nI k1)), (2, .int (nI k9)), (4, .int (nI i))]) hx hb d_Mo_isRead_134 rfl hl (by decide) rfl (fun ls hl => ?_)
                        refine lv_iinc (k := 4) (v := nI (i + 1)) (lv' := [(4, .int (nI (i + 1))), (3, .int (nI 0)), (0, .ref mo), (1, .int (nI k1)), (2, .int (nI k9))]) hx hb d_Mo_isRead_135 hl rfl (wi_inc1 _) (by decide) rfl (fun ls hl => ?_)
                        refine lv_goto (tgt := 92) hx hb d_Mo_isRead_138 (by decide) ?_
                        exact ih92 _ (by omega) (i + 1) _ _ _ _ rfl (by first | assumption | omega) (by first | assumption | omega) (by first | exact ig_3 hg h102 | exact ig_4 hi1 (fun y => y.2 h114) | exact ig_4 hi1 (fun y => y.1 h126) | exact ig_5 hg (bz_1 h102) ⟨h126, h114⟩) hP hD hS (lv_sub hl [2, 3, 4, 1, 0] rfl)
                      · intro h114
                        refine lv_aload_n hx hb d_Mo_isRead_117 rfl (lv_at hl 0 rfl) ?_
                        refine va_get (C := RX8) (T := TX8) (N := 43) hx hb hts inX8 hown hK hP 0 rfl rfl 2 (by decide) (hts _ m_847) (fun _ h9 => h9) rfl d_Mo_isRead_118 ?_
                        refine lv_iload hx hb d_Mo_isRead_121 (lv_at hl 4 rfl) ?_
                        refine wn_cald hx hb hK hP 1 1 rfl rfl (by omega) (by omega) d_Mo_isRead_123 ?_
                        refine wn_eq (y := L.getD i 0) (hc.2.2 i (by omega)) ?_
                        refine lv_bipush (v := 32) hx hb d_Mo_isRead_124 (by decide) ?_
                        refine lv_icmp_le (tgt := 133) hx hb d_Mo_isRead_126 (by decide) ?_ ?_
                        · intro h126
                          refine lv_iconst (v := nI 0) hx hb d_Mo_isRead_133 (by decide) ?_
                          refine lv_istore_n (lv' := [(3, .int (nI 0)), (0, .ref mo), (1, .int (nI k1)), (2, .int (nI k9)), (4, .int (nI i))]) hx hb d_Mo_isRead_134 rfl hl (by decide) rfl (fun ls hl => ?_)
                          refine lv_iinc (k := 4) (v := nI (i + 1)) (lv' := [(4, .int (nI (i + 1))), (3, .int (nI 0)), (0, .ref mo), (1, .int (nI k1)), (2, .int (nI k9))]) hx hb d_Mo_isRead_135 hl rfl (wi_inc1 _) (by decide) rfl (fun ls hl => ?_)
                          refine lv_goto (tgt := 92) hx hb d_Mo_isRead_138 (by decide) ?_
                          exact ih92 _ (by omega) (i + 1) _ _ _ _ rfl (by first | assumption | omega) (by first | assumption | omega) (by first | exact ig_3 hg h102 | exact ig_4 hi1 (fun y => y.2 h114) | exact ig_4 hi1 (fun y => y.1 h126) | exact ig_5 hg (bz_1 h102) ⟨h126, h114⟩) hP hD hS (lv_sub hl [2, 3, 4, 1, 0] rfl)
                        · intro h126
                          refine lv_iconst (v := 1) hx hb d_Mo_isRead_129 (by decide) ?_
                          refine lv_goto (tgt := 134) hx hb d_Mo_isRead_130 (by decide) ?_
                          refine lv_istore_n (lv' := [(3, .int 1), (0, .ref mo), (1, .int (nI k1)), (2, .int (nI k9)), (4, .int (nI i))]) hx hb d_Mo_isRead_134 rfl hl (by decide) rfl (fun ls hl => ?_)
                          refine lv_iinc (k := 4) (v := nI (i + 1)) (lv' := [(4, .int (nI (i + 1))), (3, .int 1), (0, .ref mo), (1, .int (nI k1)), (2, .int (nI k9))]) hx hb d_Mo_isRead_135 hl rfl (wi_inc1 _) (by decide) rfl (fun ls hl => ?_)
                          refine lv_goto (tgt := 92) hx hb d_Mo_isRead_138 (by decide) ?_
                          exact ih92 _ (by omega) (i + 1) _ _ _ _ rfl (by first | assumption | omega) (by first | assumption | omega) (by first | exact ig_3 hg h102 | exact ig_4 hi1 (fun y => y.2 h114) | exact ig_4 hi1 (fun y => y.1 h126) | exact ig_5 hg (bz_1 h102) ⟨h126, h114⟩) hP hD hS (lv_sub hl [2, 3, 4, 1, 0] rfl)
              exact L92 _ (k9 + 1) false _ _ _ rfl (by first | assumption | omega) (by first | assumption | omega) (by first | exact ig_1 h63 h78 | exact fg_2 (fun y => h63 y.1) | exact fg_2 (fun y => h78 y.2.1)) hP hD hS (lv_sub hl [4, 3, 2, 1, 0] rfl)
            · intro h78
              refine lv_iconst (v := 1) hx hb d_Mo_isRead_81 (by decide) ?_
              refine lv_goto (tgt := 86) hx hb d_Mo_isRead_82 (by decide) ?_
              refine lv_istore_n (lv' := [(3, .int 1), (2, .int (nI k9)), (1, .int (nI k1)), (0, .ref mo)]) hx hb d_Mo_isRead_86 rfl hl (by decide) rfl (fun ls hl => ?_)
              refine lv_iload_n hx hb d_Mo_isRead_87 rfl (lv_at hl 1 rfl) ?_
              refine lv_iconst (v := nI 1) hx hb d_Mo_isRead_88 (by decide) ?_
              refine wn_iadd hx hb d_Mo_isRead_89 ?_
              refine lv_istore (lv' := [(4, .int (nI (k9 + 1))), (3, .int 1), (2, .int (nI k9)), (1, .int (nI k1)), (0, .ref mo)]) hx hb d_Mo_isRead_90 hl (by decide) rfl (fun ls hl => ?_)
              have hl : lv_has ls 5 [(4, .int (nI (k9 + 1))), (3, .int (bz_c true)), (2, .int (nI k9)), (1, .int (nI k1)), (0, .ref mo)] := hl
              have L92 : ∀ (nG : Nat) (i : Nat) (g : Bool) (H : Heap) (locs : List Loc) (ls : Array Slot), L.length - i = nG → (k9 + 1 ≤ i) → (i ≤ L.length) → ((g = true ↔ (L.getD k9 0 = 58 ∧ L.length - k9 - 1 = (k9 - k1) - 1 ∧ ∀ j, k9 + 1 ≤ j → j < i → ql_c (L.getD j 0)))) →  va_P D vwCl [(mo, .inr (8, [.int zt, .int (nI L.length), .ref ta, .int (nI np), .ref aN, .ref aS, .ref aC, .int (nI tot), .ref aB, .int (bz_c rd), .int (nI rt), .int (nI pl), .ref aR, .ref aO, .int (nI sg), .ref aW, .int (bz_c mp), .int (nI rn), .int (nI rs), .int (bz_c gd), .ref aD, .int (nI nh), .ref a1, .ref a2, .ref a3, .ref a4, .int (nI ((k9 - k1) - 1)), .ref aL, .int (nI J.length), .ref aY, .int (nI ms), .ref aM, .int (nI ip), .int (nI it), .int ir, .int (nI il), .ref bN, .ref bS, .ref bC, .ref bB, .ref bR, .ref bO, .ref aU])), (ta, .inl (cA 1, 72, .inl tf))] H → va_D A [(mo, .inr (8, [.int zt, .int (nI L.length), .ref ta, .int (nI np), .ref aN, .ref aS, .ref aC, .int (nI tot), .ref aB, .int (bz_c rd), .int (nI rt), .int (nI pl), .ref aR, .ref aO, .int (nI sg), .ref aW, .int (bz_c mp), .int (nI rn), .int (nI rs), .int (bz_c gd), .ref aD, .int (nI nh), .ref a1, .ref a2, .ref a3, .ref a4, .int (nI ((k9 - k1) - 1)), .ref aL, .int (nI J.length), .ref aY, .int (nI ms), .ref aM, .int (nI ip), .int (nI it), .int ir, .int (nI il), .ref bN, .ref bS, .ref bC, .ref bB, .ref bR, .ref bO, .ref aU])), (ta, .inl (cA 1, 72, .inl tf))] → va_S A sG.heap H locs → lv_has ls 5 [(0, .ref mo), (1, .int (nI k1)), (2, .int (nI k9)), (3, .int (bz_c g)), (4, .int (nI i))] → W pG l eG (rm_d 3) sG mG argsG belowG methG cG H locs 0 0 Q (F0 mG 92 ls []) := by
                intro nG
                induction nG using Nat.strongRecOn with
                | ind nG ih92 =>
                  intro i g H locs ls hn92 hi1 hi hg hP hD hS hl
                  refine lv_iload hx hb d_Mo_isRead_92 (lv_at hl 4 rfl) ?_
                  refine lv_aload_n hx hb d_Mo_isRead_94 rfl (lv_at hl 0 rfl) ?_
                  refine va_get (C := RX8) (T := TX8) (N := 43) hx hb hts inX8 hown hK hP 0 rfl rfl 1 (by decide) (hts _ m_846) (fun _ h9 => h9) rfl d_Mo_isRead_95 ?_
                  refine wn_icmp_ge (by omega) (by omega) (tgt := 141) hx hb d_Mo_isRead_98 (by decide) ?_ ?_
                  · intro h98
                    refine lv_iload_n hx hb d_Mo_isRead_141 rfl (lv_at hl 3 rfl) ?_
                    exact hret (bz_c g) ((k9 - k1) - 1) _ _ _ 142 d_Mo_isRead_142 (ir_e hq1 hq9 (by omega) (by omega) (by omega) (show k9 < L.length from hk7) (show i = L.length by omega) hg) hP hD hS
                  · intro h98
                    refine lv_iload_n hx hb d_Mo_isRead_101 rfl (lv_at hl 3 rfl) ?_
                    refine lv_if_eq (tgt := 133) hx hb d_Mo_isRead_102 (by decide) ?_ ?_
                    · intro h102
                      refine lv_iconst (v := nI 0) hx hb d_Mo_isRead_133 (by decide) ?_
                      refine lv_istore_n (lv' := [(3, .int (nI 0)), (0, .ref mo), (1, .int (nI k1)), (2, .int (nI k9)), (4, .int (nI i))]) hx hb d_Mo_isRead_134 rfl hl (by decide) rfl (fun ls hl => ?_)
                      refine lv_iinc (k := 4) (v := nI (i + 1)) (lv' := [(4, .int (nI (i + 1))), (3, .int (nI 0)), (0, .ref mo), (1, .int (nI k1)), (2, .int (nI k9))]) hx hb d_Mo_isRead_135 hl rfl (wi_inc1 _) (by decide) rfl (fun ls hl => ?_)
                      refine lv_goto (tgt := 92) hx hb d_Mo_isRead_138 (by decide) ?_
                      exact ih92 _ (by omega) (i + 1) _ _ _ _ rfl (by first | assumption | omega) (by first | assumption | omega) (by first | exact ig_3 hg h102 | exact ig_4 hi1 (fun y => y.2 h114) | exact ig_4 hi1 (fun y => y.1 h126) | exact ig_5 hg (bz_1 h102) ⟨h126, h114⟩) hP hD hS (lv_sub hl [2, 3, 4, 1, 0] rfl)
                    · intro h102
                      refine lv_aload_n hx hb d_Mo_isRead_105 rfl (lv_at hl 0 rfl) ?_
                      refine va_get (C := RX8) (T := TX8) (N := 43) hx hb hts inX8 hown hK hP 0 rfl rfl 2 (by decide) (hts _ m_847) (fun _ h9 => h9) rfl d_Mo_isRead_106 ?_
                      refine lv_iload hx hb d_Mo_isRead_109 (lv_at hl 4 rfl) ?_
                      refine wn_cald hx hb hK hP 1 1 rfl rfl (by omega) (by omega) d_Mo_isRead_111 ?_
                      refine wn_eq (y := L.getD i 0) (hc.2.2 i (by omega)) ?_
                      refine lv_bipush (v := 58) hx hb d_Mo_isRead_112 (by decide) ?_
                      refine lv_icmp_eq (tgt := 133) hx hb d_Mo_isRead_114 (by decide) ?_ ?_
                      · intro h114
                        refine lv_iconst (v := nI 0) hx hb d_Mo_isRead_133 (by decide) ?_
                        refine lv_istore_n (lv' := [(3, .int (nI 0)), (0, .ref mo), (1, .int (nI k1)), (2, .int (nI k9)), (4, .int (nI i))]) hx hb d_Mo_isRead_134 rfl hl (by decide) rfl (fun ls hl => ?_)
                        refine lv_iinc (k := 4) (v := nI (i + 1)) (lv' := [(4, .int (nI (i + 1))), (3, .int (nI 0)), (0, .ref mo), (1, .int (nI k1)), (2, .int (nI k9))]) hx hb d_Mo_isRead_135 hl rfl (wi_inc1 _) (by decide) rfl (fun ls hl => ?_)
                        refine lv_goto (tgt := 92) hx hb d_Mo_isRead_138 (by decide) ?_
                        exact ih92 _ (by omega) (i + 1) _ _ _ _ rfl (by first | assumption | omega) (by first | assumption | omega) (by first | exact ig_3 hg h102 | exact ig_4 hi1 (fun y => y.2 h114) | exact ig_4 hi1 (fun y => y.1 h126) | exact ig_5 hg (bz_1 h102) ⟨h126, h114⟩) hP hD hS (lv_sub hl [2, 3, 4, 1, 0] rfl)
                      · intro h114
                        refine lv_aload_n hx hb d_Mo_isRead_117 rfl (lv_at hl 0 rfl) ?_
                        refine va_get (C := RX8) (T := TX8) (N := 43) hx hb hts inX8 hown hK hP 0 rfl rfl 2 (by decide) (hts _ m_847) (fun _ h9 => h9) rfl d_Mo_isRead_118 ?_
                        refine lv_iload hx hb d_Mo_isRead_121 (lv_at hl 4 rfl) ?_
                        refine wn_cald hx hb hK hP 1 1 rfl rfl (by omega) (by omega) d_Mo_isRead_123 ?_
                        refine wn_eq (y := L.getD i 0) (hc.2.2 i (by omega)) ?_
                        refine lv_bipush (v := 32) hx hb d_Mo_isRead_124 (by decide) ?_
                        refine lv_icmp_le (tgt := 133) hx hb d_Mo_isRead_126 (by decide) ?_ ?_
                        · intro h126
                          refine lv_iconst (v := nI 0) hx hb d_Mo_isRead_133 (by decide) ?_
                          refine lv_istore_n (lv' := [(3, .int (nI 0)), (0, .ref mo), (1, .int (nI k1)), (2, .int (nI k9)), (4, .int (nI i))]) hx hb d_Mo_isRead_134 rfl hl (by decide) rfl (fun ls hl => ?_)
                          refine lv_iinc (k := 4) (v := nI (i + 1)) (lv' := [(4, .int (nI (i + 1))), (3, .int (nI 0)), (0, .ref mo), (1, .int (nI k1)), (2, .int (nI k9))]) hx hb d_Mo_isRead_135 hl rfl (wi_inc1 _) (by decide) rfl (fun ls hl => ?_)
                          refine lv_goto (tgt := 92) hx hb d_Mo_isRead_138 (by decide) ?_
                          exact ih92 _ (by omega) (i + 1) _ _ _ _ rfl (by first | assumption | omega) (by first | assumption | omega) (by first | exact ig_3 hg h102 | exact ig_4 hi1 (fun y => y.2 h114) | exact ig_4 hi1 (fun y => y.1 h126) | exact ig_5 hg (bz_1 h102) ⟨h126, h114⟩) hP hD hS (lv_sub hl [2, 3, 4, 1, 0] rfl)
                        · intro h126
                          refine lv_iconst (v := 1) hx hb d_Mo_isRead_129 (by decide) ?_
                          refine lv_goto (tgt := 134) hx hb d_Mo_isRead_130 (by decide) ?_
                          refine lv_istore_n (lv' := [(3, .int 1), (0, .ref mo), (1, .int (nI k1)), (2, .int (nI k9)), (4, .int (nI i))]) hx hb d_Mo_isRead_134 rfl hl (by decide) rfl (fun ls hl => ?_)
                          refine lv_iinc (k := 4) (v := nI (i + 1)) (lv' := [(4, .int (nI (i + 1))), (3, .int 1), (0, .ref mo), (1, .int (nI k1)), (2, .int (nI k9))]) hx hb d_Mo_isRead_135 hl rfl (wi_inc1 _) (by decide) rfl (fun ls hl => ?_)
                          refine lv_goto (tgt := 92) hx hb d_Mo_isRead_138 (by decide) ?_
                          exact ih92 _ (by omega) (i + 1) _ _ _ _ rfl (by first | assumption | omega) (by first | assumption | omega) (by first | exact ig_3 hg h102 | exact ig_4 hi1 (fun y => y.2 h114) | exact ig_4 hi1 (fun y => y.1 h126) | exact ig_5 hg (bz_1 h102) ⟨h126, h114⟩) hP hD hS (lv_sub hl [2, 3, 4, 1, 0] rfl)
              exact L92 _ (k9 + 1) true _ _ _ rfl (by first | assumption | omega) (by first | assumption | omega) (by first | exact ig_1 h63 h78 | exact fg_2 (fun y => h63 y.1) | exact fg_2 (fun y => h78 y.2.1)) hP hD hS (lv_sub hl [4, 3, 2, 1, 0] rfl)
        · intro h50
          refine lv_iconst (v := 1) hx hb d_Mo_isRead_53 (by decide) ?_
          exact hret 1 ((k9 - k1) - 1) _ _ _ 54 d_Mo_isRead_54 (Or.inl ⟨rfl, k1, k9, ir_y hq1 hq9 (by omega) (by omega) (by omega) (Or.inl h50), rfl⟩) hP hD hS
      · intro h40
        refine lv_iconst (v := 0) hx hb d_Mo_isRead_43 (by decide) ?_
        exact hret 0 ((k9 - k1) - 1) _ _ _ 44 d_Mo_isRead_44 (by first | exact Or.inr ⟨rfl, ir_n hq1 hq9 (fun y => by have y1 := y.2.2.1.1; omega)⟩ | exact Or.inr ⟨rfl, ir_n hq1 hq9 (fun y => by have y1 := y.2.2.2.1.1; omega)⟩ | exact Or.inr ⟨rfl, ir_n hq1 hq9 (fun y => by have y1 := y.2.2.2.1.2.1; omega)⟩) hP hD hS
theorem k_Mo_isRead : cf_V y_Mo_isRead b_Mo_isRead 5 (some .boolean) "ReadMapperModel" 0 := ⟨⟨m_1069, (wm_s (q := (y_Mo_isRead, 43)) (by decide +kernel)), m_9, m_1070⟩, by decide +kernel⟩
set_option maxHeartbeats 4000000 in
set_option maxRecDepth 100000 in
theorem c_Mo_onStrand (l : Launch) (D : va_G) (cA : Nat → ClassId) (K : Nat → Nat) (mo ta aN aS aC aB aR aO aW aD a1 a2 a3 a4 aL aY aM bN bS bC bB bR bO aU : Nat) (rd mp gd : Bool) (zt ir : Int32) (np tot rt pl sg rn rs nh td ms ip it il : Nat) (L J : List Int32) (df : Nat → Int32) (RL F : List Int32) (sd k : Nat) (hd : cd_r 72 df RL) (hF : F = (sl_p RL (rn + 1) (rn + 1 + rs)).map sy_c) (hrl : rn + 1 + rs ≤ RL.length) (hk : k < rs) (hs1 : sd ≤ 1) : ck_I l y_Mo_onStrand (Cond.code y_Mo_onStrand b_Mo_onStrand 3 (some .int) :: w_all) 2 D cA K [.ref mo, .int (nI sd), .int (nI k)] [(mo, .inr (8, [.int zt, .int (nI L.length), .ref ta, .int (nI np), .ref aN, .ref aS, .ref aC, .int (nI tot), .ref aB, .int (bz_c rd), .int (nI rt), .int (nI pl), .ref aR, .ref aO, .int (nI sg), .ref aW, .int (bz_c mp), .int (nI rn), .int (nI rs), .int (bz_c gd), .ref aD, .int (nI nh), .ref a1, .ref a2, .ref a3, .ref a4, .int (nI td), .ref aL, .int (nI J.length), .ref aY, .int (nI ms), .ref aM, .int (nI ip), .int (nI it), .int ir, .int (nI il), .ref bN, .ref bS, .ref bC, .ref bB, .ref bR, .ref bO, .ref aU])), (aD, .inl (cA 1, 72, .inl df))] (fun (r : Int32) (u : Unit) => r = os_c F sd k) (fun u => [(mo, .inr (8, [.int zt, .int (nI L.length), .ref ta, .int (nI np), .ref aN, .ref aS, .ref aC, .int (nI tot), .ref aB, .int (bz_c rd), .int (nI rt), .int (nI pl), .ref aR, .ref aO, .int (nI sg), .ref aW, .int (bz_c mp), .int (nI rn), .int (nI rs), .int (bz_c gd), .ref aD, .int (nI nh), .ref a1, .ref a2, .ref a3, .ref a4, .int (nI td), .ref aL, .int (nI J.length), .ref aY, .int (nI ms), .ref aM, .int (nI ip), .int (nI it), .int ir, .int (nI il), .ref bN, .ref bS, .ref bC, .ref bB, .ref bR, .ref bO, .ref aU])), (aD, .inl (cA 1, 72, .inl df))]) := by
  refine ck_mkI (by decide) (fun _ _ _ => rfl) (Nat.le_of_ble_eq_true rfl) ?_
  intro pG eG sG mG argsG belowG methG cG Q A H locs ls hx hb hml hown hts hK hE hA hP hD hS hl hret
  have hl : lv_has ls 3 [(0, .ref mo), (1, .int (nI sd)), (2, .int (nI k))] := hl
  have hl1 := cd_len hd
  refine lv_iload_n hx hb d_Mo_onStrand_0 rfl (lv_at hl 1 rfl) ?_
  refine wn_if_ne (by omega) (tgt := 23) hx hb d_Mo_onStrand_1 (by decide) ?_ ?_
  · intro h1
    refine lv_aload_n hx hb d_Mo_onStrand_23 rfl (lv_at hl 0 rfl) ?_
    refine va_get (C := RX8) (T := TX8) (N := 43) hx hb hts inX8 hown hK hP 0 rfl rfl 20 (by decide) (hts _ m_865) (fun _ h9 => h9) rfl d_Mo_onStrand_24 ?_
    refine lv_aload_n hx hb d_Mo_onStrand_27 rfl (lv_at hl 0 rfl) ?_
    refine va_get (C := RX8) (T := TX8) (N := 43) hx hb hts inX8 hown hK hP 0 rfl rfl 17 (by decide) (hts _ m_862) (fun _ h9 => h9) rfl d_Mo_onStrand_28 ?_
    refine lv_aload_n hx hb d_Mo_onStrand_31 rfl (lv_at hl 0 rfl) ?_
    refine va_get (C := RX8) (T := TX8) (N := 43) hx hb hts inX8 hown hK hP 0 rfl rfl 18 (by decide) (hts _ m_863) (fun _ h9 => h9) rfl d_Mo_onStrand_32 ?_
    refine wn_iadd hx hb d_Mo_onStrand_35 ?_
    refine lv_iload_n hx hb d_Mo_onStrand_36 rfl (lv_at hl 2 rfl) ?_
    refine wn_isub (by omega) hx hb d_Mo_onStrand_37 ?_
    refine wn_cald hx hb hK hP 1 1 rfl rfl (by omega) (by omega) d_Mo_onStrand_38 ?_
    refine wn_eq (y := RL.getD (rn + rs - k) 0) (hd.2.2 _ (by omega)) ?_
    refine ck_cS (rest := []) (wr := [(mo, .inr (8, [.int zt, .int (nI L.length), .ref ta, .int (nI np), .ref aN, .ref aS, .ref aC, .int (nI tot), .ref aB, .int (bz_c rd), .int (nI rt), .int (nI pl), .ref aR, .ref aO, .int (nI sg), .ref aW, .int (bz_c mp), .int (nI rn), .int (nI rs), .int (bz_c gd), .ref aD, .int (nI nh), .ref a1, .ref a2, .ref a3, .ref a4, .int (nI td), .ref aL, .int (nI J.length), .ref aY, .int (nI ms), .ref aM, .int (nI ip), .int (nI it), .int ir, .int (nI il), .ref bN, .ref bS, .ref bC, .ref bB, .ref bR, .ref bO, .ref aU])), (aD, .inl (cA 1, 72, .inl df))]) (ws2 := fun u => [(mo, .inr (8, [.int zt, .int (nI L.length), .ref ta, .int (nI np), .ref aN, .ref aS, .ref aC, .int (nI tot), .ref aB, .int (bz_c rd), .int (nI rt), .int (nI pl), .ref aR, .ref aO, .int (nI sg), .ref aW, .int (bz_c mp), .int (nI rn), .int (nI rs), .int (bz_c gd), .ref aD, .int (nI nh), .ref a1, .ref a2, .ref a3, .ref a4, .int (nI td), .ref aL, .int (nI J.length), .ref aY, .int (nI ms), .ref aM, .int (nI ip), .int (nI it), .int ir, .int (nI il), .ref bN, .ref bS, .ref bC, .ref bB, .ref bR, .ref bO, .ref aU])), (aD, .inl (cA 1, 72, .inl df))]) (c_Mo_symbol l D cA K (RL.getD (rn + rs - k) 0) ) hx hb hml hown hts hK hE hA hP hD hS k_Mo_symbol m_1000 (by decide) rfl hl.1 rfl (Nat.le_of_ble_eq_true rfl) d_Mo_onStrand_39 [] [0, 1] [0, 1] rfl rfl (by decide) (fun _ => rfl) (fun r39 u39 H locs hq39 hP hD hS => ?_)
    try dsimp only at hq39
    have hP : va_P D vwCl [(mo, .inr (8, [.int zt, .int (nI L.length), .ref ta, .int (nI np), .ref aN, .ref aS, .ref aC, .int (nI tot), .ref aB, .int (bz_c rd), .int (nI rt), .int (nI pl), .ref aR, .ref aO, .int (nI sg), .ref aW, .int (bz_c mp), .int (nI rn), .int (nI rs), .int (bz_c gd), .ref aD, .int (nI nh), .ref a1, .ref a2, .ref a3, .ref a4, .int (nI td), .ref aL, .int (nI J.length), .ref aY, .int (nI ms), .ref aM, .int (nI ip), .int (nI it), .int ir, .int (nI il), .ref bN, .ref bS, .ref bC, .ref bB, .ref bR, .ref bO, .ref aU])), (aD, .inl (cA 1, 72, .inl df))] H := hP
    have hD : va_D A [(mo, .inr (8, [.int zt, .int (nI L.length), .ref ta, .int (nI np), .ref aN, .ref aS, .ref aC, .int (nI tot), .ref aB, .int (bz_c rd), .int (nI rt), .int (nI pl), .ref aR, .ref aO, .int (nI sg), .ref aW, .int (bz_c mp), .int (nI rn), .int (nI rs), .int (bz_c gd), .ref aD, .int (nI nh), .ref a1, .ref a2, .ref a3, .ref a4, .int (nI td), .ref aL, .int (nI J.length), .ref aY, .int (nI ms), .ref aM, .int (nI ip), .int (nI it), .int ir, .int (nI il), .ref bN, .ref bS, .ref bC, .ref bB, .ref bR, .ref bO, .ref aU])), (aD, .inl (cA 1, 72, .inl df))] := hD
    subst r39
    refine ck_cS (rest := []) (wr := [(mo, .inr (8, [.int zt, .int (nI L.length), .ref ta, .int (nI np), .ref aN, .ref aS, .ref aC, .int (nI tot), .ref aB, .int (bz_c rd), .int (nI rt), .int (nI pl), .ref aR, .ref aO, .int (nI sg), .ref aW, .int (bz_c mp), .int (nI rn), .int (nI rs), .int (bz_c gd), .ref aD, .int (nI nh), .ref a1, .ref a2, .ref a3, .ref a4, .int (nI td), .ref aL, .int (nI J.length), .ref aY, .int (nI ms), .ref aM, .int (nI ip), .int (nI it), .int ir, .int (nI il), .ref bN, .ref bS, .ref bC, .ref bB, .ref bR, .ref bO, .ref aU])), (aD, .inl (cA 1, 72, .inl df))]) (ws2 := fun u => [(mo, .inr (8, [.int zt, .int (nI L.length), .ref ta, .int (nI np), .ref aN, .ref aS, .ref aC, .int (nI tot), .ref aB, .int (bz_c rd), .int (nI rt), .int (nI pl), .ref aR, .ref aO, .int (nI sg), .ref aW, .int (bz_c mp), .int (nI rn), .int (nI rs), .int (bz_c gd), .ref aD, .int (nI nh), .ref a1, .ref a2, .ref a3, .ref a4, .int (nI td), .ref aL, .int (nI J.length), .ref aY, .int (nI ms), .ref aM, .int (nI ip), .int (nI it), .int ir, .int (nI il), .ref bN, .ref bS, .ref bC, .ref bB, .ref bR, .ref bO, .ref aU])), (aD, .inl (cA 1, 72, .inl df))]) (c_Mo_complement l D cA K (sy_c (RL.getD (rn + rs - k) 0)) ) hx hb hml hown hts hK hE hA hP hD hS k_Mo_complement m_1083 (by decide) rfl hl.1 rfl (Nat.le_of_ble_eq_true rfl) d_Mo_onStrand_42 [] [0, 1] [0, 1] rfl rfl (by decide) (fun _ => rfl) (fun r42 u42 H locs hq42 hP hD hS => ?_)
    try dsimp only at hq42
    have hP : va_P D vwCl [(mo, .inr (8, [.int zt, .int (nI L.length), .ref ta, .int (nI np), .ref aN, .ref aS, .ref aC, .int (nI tot), .ref aB, .int (bz_c rd), .int (nI rt), .int (nI pl), .ref aR, .ref aO, .int (nI sg), .ref aW, .int (bz_c mp), .int (nI rn), .int (nI rs), .int (bz_c gd), .ref aD, .int (nI nh), .ref a1, .ref a2, .ref a3, .ref a4, .int (nI td), .ref aL, .int (nI J.length), .ref aY, .int (nI ms), .ref aM, .int (nI ip), .int (nI it), .int ir, .int (nI il), .ref bN, .ref bS, .ref bC, .ref bB, .ref bR, .ref bO, .ref aU])), (aD, .inl (cA 1, 72, .inl df))] H := hP
    have hD : va_D A [(mo, .inr (8, [.int zt, .int (nI L.length), .ref ta, .int (nI np), .ref aN, .ref aS, .ref aC, .int (nI tot), .ref aB, .int (bz_c rd), .int (nI rt), .int (nI pl), .ref aR, .ref aO, .int (nI sg), .ref aW, .int (bz_c mp), .int (nI rn), .int (nI rs), .int (bz_c gd), .ref aD, .int (nI nh), .ref a1, .ref a2, .ref a3, .ref a4, .int (nI td), .ref aL, .int (nI J.length), .ref aY, .int (nI ms), .ref aM, .int (nI ip), .int (nI it), .int ir, .int (nI il), .ref bN, .ref bS, .ref bC, .ref bB, .ref bR, .ref bO, .ref aU])), (aD, .inl (cA 1, 72, .inl df))] := hD
    subst r42
    exact hret (cp_c (sy_c (RL.getD (rn + rs - k) 0))) () _ _ _ 45 d_Mo_onStrand_45 (by first | exact (os_0 hF hrl hk h1).symm | exact (os_1 hF hrl hk h1).symm) hP hD hS
  · intro h1
    refine lv_aload_n hx hb d_Mo_onStrand_4 rfl (lv_at hl 0 rfl) ?_
    refine va_get (C := RX8) (T := TX8) (N := 43) hx hb hts inX8 hown hK hP 0 rfl rfl 20 (by decide) (hts _ m_865) (fun _ h9 => h9) rfl d_Mo_onStrand_5 ?_
    refine lv_aload_n hx hb d_Mo_onStrand_8 rfl (lv_at hl 0 rfl) ?_
    refine va_get (C := RX8) (T := TX8) (N := 43) hx hb hts inX8 hown hK hP 0 rfl rfl 17 (by decide) (hts _ m_862) (fun _ h9 => h9) rfl d_Mo_onStrand_9 ?_
    refine lv_iconst (v := nI 1) hx hb d_Mo_onStrand_12 (by decide) ?_
    refine wn_iadd hx hb d_Mo_onStrand_13 ?_
    refine lv_iload_n hx hb d_Mo_onStrand_14 rfl (lv_at hl 2 rfl) ?_
    refine wn_iadd hx hb d_Mo_onStrand_15 ?_
    refine wn_cald hx hb hK hP 1 1 rfl rfl (by omega) (by omega) d_Mo_onStrand_16 ?_
    refine wn_eq (y := RL.getD (rn + 1 + k) 0) (hd.2.2 _ (by omega)) ?_
    refine ck_cS (rest := []) (wr := [(mo, .inr (8, [.int zt, .int (nI L.length), .ref ta, .int (nI np), .ref aN, .ref aS, .ref aC, .int (nI tot), .ref aB, .int (bz_c rd), .int (nI rt), .int (nI pl), .ref aR, .ref aO, .int (nI sg), .ref aW, .int (bz_c mp), .int (nI rn), .int (nI rs), .int (bz_c gd), .ref aD, .int (nI nh), .ref a1, .ref a2, .ref a3, .ref a4, .int (nI td), .ref aL, .int (nI J.length), .ref aY, .int (nI ms), .ref aM, .int (nI ip), .int (nI it), .int ir, .int (nI il), .ref bN, .ref bS, .ref bC, .ref bB, .ref bR, .ref bO, .ref aU])), (aD, .inl (cA 1, 72, .inl df))]) (ws2 := fun u => [(mo, .inr (8, [.int zt, .int (nI L.length), .ref ta, .int (nI np), .ref aN, .ref aS, .ref aC, .int (nI tot), .ref aB, .int (bz_c rd), .int (nI rt), .int (nI pl), .ref aR, .ref aO, .int (nI sg), .ref aW, .int (bz_c mp), .int (nI rn), .int (nI rs), .int (bz_c gd), .ref aD, .int (nI nh), .ref a1, .ref a2, .ref a3, .ref a4, .int (nI td), .ref aL, .int (nI J.length), .ref aY, .int (nI ms), .ref aM, .int (nI ip), .int (nI it), .int ir, .int (nI il), .ref bN, .ref bS, .ref bC, .ref bB, .ref bR, .ref bO, .ref aU])), (aD, .inl (cA 1, 72, .inl df))]) (c_Mo_symbol l D cA K (RL.getD (rn + 1 + k) 0) ) hx hb hml hown hts hK hE hA hP hD hS k_Mo_symbol m_1000 (by decide) rfl hl.1 rfl (Nat.le_of_ble_eq_true rfl) d_Mo_onStrand_17 [] [0, 1] [0, 1] rfl rfl (by decide) (fun _ => rfl) (fun r17 u17 H locs hq17 hP hD hS => ?_)
    try dsimp only at hq17
    have hP : va_P D vwCl [(mo, .inr (8, [.int zt, .int (nI L.length), .ref ta, .int (nI np), .ref aN, .ref aS, .ref aC, .int (nI tot), .ref aB, .int (bz_c rd), .int (nI rt), .int (nI pl), .ref aR, .ref aO, .int (nI sg), .ref aW, .int (bz_c mp), .int (nI rn), .int (nI rs), .int (bz_c gd), .ref aD, .int (nI nh), .ref a1, .ref a2, .ref a3, .ref a4, .int (nI td), .ref aL, .int (nI J.length), .ref aY, .int (nI ms), .ref aM, .int (nI ip), .int (nI it), .int ir, .int (nI il), .ref bN, .ref bS, .ref bC, .ref bB, .ref bR, .ref bO, .ref aU])), (aD, .inl (cA 1, 72, .inl df))] H := hP
    have hD : va_D A [(mo, .inr (8, [.int zt, .int (nI L.length), .ref ta, .int (nI np), .ref aN, .ref aS, .ref aC, .int (nI tot), .ref aB, .int (bz_c rd), .int (nI rt), .int (nI pl), .ref aR, .ref aO, .int (nI sg), .ref aW, .int (bz_c mp), .int (nI rn), .int (nI rs), .int (bz_c gd), .ref aD, .int (nI nh), .ref a1, .ref a2, .ref a3, .ref a4, .int (nI td), .ref aL, .int (nI J.length), .ref aY, .int (nI ms), .ref aM, .int (nI ip), .int (nI it), .int ir, .int (nI il), .ref bN, .ref bS, .ref bC, .ref bB, .ref bR, .ref bO, .ref aU])), (aD, .inl (cA 1, 72, .inl df))] := hD
    subst r17
    refine lv_goto (tgt := 45) hx hb d_Mo_onStrand_20 (by decide) ?_
    exact hret (sy_c (RL.getD (rn + 1 + k) 0)) () _ _ _ 45 d_Mo_onStrand_45 (by first | exact (os_0 hF hrl hk h1).symm | exact (os_1 hF hrl hk h1).symm) hP hD hS
theorem k_Mo_onStrand : cf_V y_Mo_onStrand b_Mo_onStrand 3 (some .int) "ReadMapperModel" 2 := ⟨⟨m_1081, (wm_s (q := (y_Mo_onStrand, 43)) (by decide +kernel)), m_9, m_1082⟩, by decide +kernel⟩
set_option maxHeartbeats 4000000 in
set_option maxRecDepth 100000 in
theorem c_Mo_differing (l : Launch) (D : va_G) (cA : Nat → ClassId) (K : Nat → Nat) (mo ta aN aS aC aB aR aO aW aD a1 a2 a3 a4 aL aY aM bN bS bC bB bR bO aU : Nat) (rd mp gd : Bool) (zt ir : Int32) (np tot rt pl sg rn rs nh td ms ip it il : Nat) (L J : List Int32) (df : Nat → Int32) (RL F : List Int32) (bf : Nat → Int32) (o sd : Nat) (hd : cd_r 72 df RL) (hF : F = (sl_p RL (rn + 1) (rn + 1 + rs)).map sy_c) (hrl : rn + 1 + rs ≤ RL.length) (ho : o + rs ≤ 64) (hs1 : sd ≤ 1) : ck_I l y_Mo_differing (Cond.code y_Mo_differing b_Mo_differing 6 (some .int) :: w_all) 3 D cA K [.ref mo, .int (nI o), .int (nI sd)] [(mo, .inr (8, [.int zt, .int (nI L.length), .ref ta, .int (nI np), .ref aN, .ref aS, .ref aC, .int (nI tot), .ref aB, .int (bz_c rd), .int (nI rt), .int (nI pl), .ref aR, .ref aO, .int (nI sg), .ref aW, .int (bz_c mp), .int (nI rn), .int (nI rs), .int (bz_c gd), .ref aD, .int (nI nh), .ref a1, .ref a2, .ref a3, .ref a4, .int (nI td), .ref aL, .int (nI J.length), .ref aY, .int (nI ms), .ref aM, .int (nI ip), .int (nI it), .int ir, .int (nI il), .ref bN, .ref bS, .ref bC, .ref bB, .ref bR, .ref bO, .ref aU])), (aD, .inl (cA 1, 72, .inl df)), (aB, .inl (cA 0, 64, .inl bf))] (fun (r : Int32) (u : Unit) => ∃ n, r = nI n ∧ n = mm_c bf o (if sd = 0 then F else tb_c F 0) rs) (fun u => [(mo, .inr (8, [.int zt, .int (nI L.length), .ref ta, .int (nI np), .ref aN, .ref aS, .ref aC, .int (nI tot), .ref aB, .int (bz_c rd), .int (nI rt), .int (nI pl), .ref aR, .ref aO, .int (nI sg), .ref aW, .int (bz_c mp), .int (nI rn), .int (nI rs), .int (bz_c gd), .ref aD, .int (nI nh), .ref a1, .ref a2, .ref a3, .ref a4, .int (nI td), .ref aL, .int (nI J.length), .ref aY, .int (nI ms), .ref aM, .int (nI ip), .int (nI it), .int ir, .int (nI il), .ref bN, .ref bS, .ref bC, .ref bB, .ref bR, .ref bO, .ref aU])), (aD, .inl (cA 1, 72, .inl df)), (aB, .inl (cA 0, 64, .inl bf))]) := by
  refine ck_mkI (by decide) (fun _ _ _ => rfl) (Nat.le_of_ble_eq_true rfl) ?_
  intro pG eG sG mG argsG belowG methG cG Q A H locs ls hx hb hml hown hts hK hE hA hP hD hS hl hret
  have hl : lv_has ls 6 [(0, .ref mo), (1, .int (nI o)), (2, .int (nI sd))] := hl
  have hl1 := cd_len hd
  refine lv_iconst (v := nI 0) hx hb d_Mo_differing_0 (by decide) ?_
  refine lv_istore_n (lv' := [(3, .int (nI 0)), (0, .ref mo), (1, .int (nI o)), (2, .int (nI sd))]) hx hb d_Mo_differing_1 rfl hl (by decide) rfl (fun ls hl => ?_)
  refine lv_iconst (v := nI 0) hx hb d_Mo_differing_2 (by decide) ?_
  refine lv_istore (lv' := [(4, .int (nI 0)), (3, .int (nI 0)), (0, .ref mo), (1, .int (nI o)), (2, .int (nI sd))]) hx hb d_Mo_differing_3 hl (by decide) rfl (fun ls hl => ?_)
  have L5 : ∀ (nG : Nat) (n k : Nat) (H : Heap) (locs : List Loc) (ls : Array Slot), rs - k = nG → (k ≤ rs) → (n = mm_c bf o (if sd = 0 then F else tb_c F 0) k) → (n ≤ k) →  va_P D vwCl [(mo, .inr (8, [.int zt, .int (nI L.length), .ref ta, .int (nI np), .ref aN, .ref aS, .ref aC, .int (nI tot), .ref aB, .int (bz_c rd), .int (nI rt), .int (nI pl), .ref aR, .ref aO, .int (nI sg), .ref aW, .int (bz_c mp), .int (nI rn), .int (nI rs), .int (bz_c gd), .ref aD, .int (nI nh), .ref a1, .ref a2, .ref a3, .ref a4, .int (nI td), .ref aL, .int (nI J.length), .ref aY, .int (nI ms), .ref aM, .int (nI ip), .int (nI it), .int ir, .int (nI il), .ref bN, .ref bS, .ref bC, .ref bB, .ref bR, .ref bO, .ref aU])), (aD, .inl (cA 1, 72, .inl df)), (aB, .inl (cA 0, 64, .inl bf))] H → va_D A [(mo, .inr (8, [.int zt, .int (nI L.length), .ref ta, .int (nI np), .ref aN, .ref aS, .ref aC, .int (nI tot), .ref aB, .int (bz_c rd), .int (nI rt), .int (nI pl), .ref aR, .ref aO, .int (nI sg), .ref aW, .int (bz_c mp), .int (nI rn), .int (nI rs), .int (bz_c gd), .ref aD, .int (nI nh), .ref a1, .ref a2, .ref a3, .ref a4, .int (nI td), .ref aL, .int (nI J.length), .ref aY, .int (nI ms), .ref aM, .int (nI ip), .int (nI it), .int ir, .int (nI il), .ref bN, .ref bS, .ref bC, .ref bB, .ref bR, .ref bO, .ref aU])), (aD, .inl (cA 1, 72, .inl df)), (aB, .inl (cA 0, 64, .inl bf))] → va_S A sG.heap H locs → lv_has ls 6 [(0, .ref mo), (1, .int (nI o)), (2, .int (nI sd)), (3, .int (nI n)), (4, .int (nI k))] → W pG l eG (rm_d 3) sG mG argsG belowG methG cG H locs 0 0 Q (F0 mG 5 ls []) := by
    intro nG
    induction nG using Nat.strongRecOn with
    | ind nG ih5 =>
      intro n k H locs ls hn5 hk hn hnk hP hD hS hl
      refine lv_iload hx hb d_Mo_differing_5 (lv_at hl 4 rfl) ?_
      refine lv_aload_n hx hb d_Mo_differing_7 rfl (lv_at hl 0 rfl) ?_
      refine va_get (C := RX8) (T := TX8) (N := 43) hx hb hts inX8 hown hK hP 0 rfl rfl 18 (by decide) (hts _ m_863) (fun _ h9 => h9) rfl d_Mo_differing_8 ?_
      refine wn_icmp_ge (by omega) (by omega) (tgt := 57) hx hb d_Mo_differing_11 (by decide) ?_ ?_
      · intro h11
        refine lv_iload_n hx hb d_Mo_differing_57 rfl (lv_at hl 3 rfl) ?_
        exact hret (nI n) () _ _ _ 58 d_Mo_differing_58 ⟨n, rfl, by rw [hn, show k = rs by omega]⟩ hP hD hS
      · intro h11
        refine lv_aload_n hx hb d_Mo_differing_14 rfl (lv_at hl 0 rfl) ?_
        refine lv_iload_n hx hb d_Mo_differing_15 rfl (lv_at hl 2 rfl) ?_
        refine lv_iload hx hb d_Mo_differing_16 (lv_at hl 4 rfl) ?_
        refine ck_cV (C := "ReadMapperModel") (ci := 8) (rest := []) (wr := [(aB, .inl (cA 0, 64, .inl bf))]) (ws2 := fun u => [(mo, .inr (8, [.int zt, .int (nI L.length), .ref ta, .int (nI np), .ref aN, .ref aS, .ref aC, .int (nI tot), .ref aB, .int (bz_c rd), .int (nI rt), .int (nI pl), .ref aR, .ref aO, .int (nI sg), .ref aW, .int (bz_c mp), .int (nI rn), .int (nI rs), .int (bz_c gd), .ref aD, .int (nI nh), .ref a1, .ref a2, .ref a3, .ref a4, .int (nI td), .ref aL, .int (nI J.length), .ref aY, .int (nI ms), .ref aM, .int (nI ip), .int (nI it), .int ir, .int (nI il), .ref bN, .ref bS, .ref bC, .ref bB, .ref bR, .ref bO, .ref aU])), (aD, .inl (cA 1, 72, .inl df)), (aB, .inl (cA 0, 64, .inl bf))]) (c_Mo_onStrand l D cA K mo ta aN aS aC aB aR aO aW aD a1 a2 a3 a4 aL aY aM bN bS bC bB bR bO aU rd mp gd zt ir np tot rt pl sg rn rs nh td ms ip it il L J df RL F sd k (by first | assumption | omega) (by first | assumption | omega) (by first | assumption | omega) (by first | assumption | omega) (by first | assumption | omega)) hx hb hml hown hts hK hE hA hP hD hS k_Mo_onStrand m_1079 (by decide) 0 rfl rfl rfl hl.1 rfl (Nat.le_of_ble_eq_true rfl) d_Mo_differing_18  [0, 1] [2] [1, 2, 0] rfl rfl (by decide) (fun _ => rfl) (fun r18 u18 H locs hq18 hP hD hS => ?_)
        try dsimp only at hq18
        have hP : va_P D vwCl [(mo, .inr (8, [.int zt, .int (nI L.length), .ref ta, .int (nI np), .ref aN, .ref aS, .ref aC, .int (nI tot), .ref aB, .int (bz_c rd), .int (nI rt), .int (nI pl), .ref aR, .ref aO, .int (nI sg), .ref aW, .int (bz_c mp), .int (nI rn), .int (nI rs), .int (bz_c gd), .ref aD, .int (nI nh), .ref a1, .ref a2, .ref a3, .ref a4, .int (nI td), .ref aL, .int (nI J.length), .ref aY, .int (nI ms), .ref aM, .int (nI ip), .int (nI it), .int ir, .int (nI il), .ref bN, .ref bS, .ref bC, .ref bB, .ref bR, .ref bO, .ref aU])), (aD, .inl (cA 1, 72, .inl df)), (aB, .inl (cA 0, 64, .inl bf))] H := hP
        have hD : va_D A [(mo, .inr (8, [.int zt, .int (nI L.length), .ref ta, .int (nI np), .ref aN, .ref aS, .ref aC, .int (nI tot), .ref aB, .int (bz_c rd), .int (nI rt), .int (nI pl), .ref aR, .ref aO, .int (nI sg), .ref aW, .int (bz_c mp), .int (nI rn), .int (nI rs), .int (bz_c gd), .ref aD, .int (nI nh), .ref a1, .ref a2, .ref a3, .ref a4, .int (nI td), .ref aL, .int (nI J.length), .ref aY, .int (nI ms), .ref aM, .int (nI ip), .int (nI it), .int ir, .int (nI il), .ref bN, .ref bS, .ref bC, .ref bB, .ref bR, .ref bO, .ref aU])), (aD, .inl (cA 1, 72, .inl df)), (aB, .inl (cA 0, 64, .inl bf))] := hD
        subst r18
        refine lv_istore (lv' := [(5, .int (os_c F sd k)), (0, .ref mo), (1, .int (nI o)), (2, .int (nI sd)), (3, .int (nI n)), (4, .int (nI k))]) hx hb d_Mo_differing_21 hl (by decide) rfl (fun ls hl => ?_)
        refine lv_iload hx hb d_Mo_differing_23 (lv_at hl 0 rfl) ?_
        refine lv_iconst (v := 5) hx hb d_Mo_differing_25 (by decide) ?_
        refine lv_icmp_eq (tgt := 43) hx hb d_Mo_differing_26 (by decide) ?_ ?_
        · intro h26
          refine lv_iload_n hx hb d_Mo_differing_43 rfl (lv_at hl 4 rfl) ?_
          refine lv_iconst (v := nI 1) hx hb d_Mo_differing_44 (by decide) ?_
          refine wn_iadd hx hb d_Mo_differing_45 ?_
          refine lv_goto (tgt := 50) hx hb d_Mo_differing_46 (by decide) ?_
          refine lv_istore_n (lv' := [(3, .int (nI (n + 1))), (5, .int (os_c F sd k)), (0, .ref mo), (1, .int (nI o)), (2, .int (nI sd)), (4, .int (nI k))]) hx hb d_Mo_differing_50 rfl hl (by decide) rfl (fun ls hl => ?_)
          refine lv_iinc (k := 5) (v := nI (k + 1)) (lv' := [(4, .int (nI (k + 1))), (3, .int (nI (n + 1))), (5, .int (os_c F sd k)), (0, .ref mo), (1, .int (nI o)), (2, .int (nI sd))]) hx hb d_Mo_differing_51 hl rfl (wi_inc1 _) (by decide) rfl (fun ls hl => ?_)
          refine lv_goto (tgt := 5) hx hb d_Mo_differing_54 (by decide) ?_
          exact ih5 _ (by omega) (n + 1) (k + 1) _ _ _ rfl (by first | assumption | omega) (by first | exact mm_d1 hn (Or.inr h26) | exact mm_d1 hn (Or.inl h40) | exact mm_d0 hn h40 h26) (by first | assumption | omega) hP hD hS (lv_sub hl [3, 4, 5, 1, 0] rfl)
        · intro h26
          refine lv_iload hx hb d_Mo_differing_29 (lv_at hl 0 rfl) ?_
          refine lv_aload_n hx hb d_Mo_differing_31 rfl (lv_at hl 1 rfl) ?_
          refine va_get (C := RX8) (T := TX8) (N := 43) hx hb hts inX8 hown hK hP 0 rfl rfl 8 (by decide) (hts _ m_853) (fun _ h9 => h9) rfl d_Mo_differing_32 ?_
          refine lv_iload_n hx hb d_Mo_differing_35 rfl (lv_at hl 2 rfl) ?_
          refine lv_iload hx hb d_Mo_differing_36 (lv_at hl 5 rfl) ?_
          refine wn_iadd hx hb d_Mo_differing_38 ?_
          refine wn_iald hx hb hK hP 2 0 rfl rfl (by omega) (by omega) d_Mo_differing_39 ?_
          refine lv_icmp_eq (tgt := 49) hx hb d_Mo_differing_40 (by decide) ?_ ?_
          · intro h40
            refine lv_iload_n hx hb d_Mo_differing_49 rfl (lv_at hl 4 rfl) ?_
            refine lv_istore_n (lv' := [(3, .int (nI n)), (5, .int (os_c F sd k)), (0, .ref mo), (1, .int (nI o)), (2, .int (nI sd)), (4, .int (nI k))]) hx hb d_Mo_differing_50 rfl hl (by decide) rfl (fun ls hl => ?_)
            refine lv_iinc (k := 5) (v := nI (k + 1)) (lv' := [(4, .int (nI (k + 1))), (3, .int (nI n)), (5, .int (os_c F sd k)), (0, .ref mo), (1, .int (nI o)), (2, .int (nI sd))]) hx hb d_Mo_differing_51 hl rfl (wi_inc1 _) (by decide) rfl (fun ls hl => ?_)
            refine lv_goto (tgt := 5) hx hb d_Mo_differing_54 (by decide) ?_
            exact ih5 _ (by omega) n (k + 1) _ _ _ rfl (by first | assumption | omega) (by first | exact mm_d1 hn (Or.inr h26) | exact mm_d1 hn (Or.inl h40) | exact mm_d0 hn h40 h26) (by first | assumption | omega) hP hD hS (lv_sub hl [3, 4, 5, 1, 0] rfl)
          · intro h40
            refine lv_iload_n hx hb d_Mo_differing_43 rfl (lv_at hl 4 rfl) ?_
            refine lv_iconst (v := nI 1) hx hb d_Mo_differing_44 (by decide) ?_
            refine wn_iadd hx hb d_Mo_differing_45 ?_
            refine lv_goto (tgt := 50) hx hb d_Mo_differing_46 (by decide) ?_
            refine lv_istore_n (lv' := [(3, .int (nI (n + 1))), (5, .int (os_c F sd k)), (0, .ref mo), (1, .int (nI o)), (2, .int (nI sd)), (4, .int (nI k))]) hx hb d_Mo_differing_50 rfl hl (by decide) rfl (fun ls hl => ?_)
            refine lv_iinc (k := 5) (v := nI (k + 1)) (lv' := [(4, .int (nI (k + 1))), (3, .int (nI (n + 1))), (5, .int (os_c F sd k)), (0, .ref mo), (1, .int (nI o)), (2, .int (nI sd))]) hx hb d_Mo_differing_51 hl rfl (wi_inc1 _) (by decide) rfl (fun ls hl => ?_)
            refine lv_goto (tgt := 5) hx hb d_Mo_differing_54 (by decide) ?_
            exact ih5 _ (by omega) (n + 1) (k + 1) _ _ _ rfl (by first | assumption | omega) (by first | exact mm_d1 hn (Or.inr h26) | exact mm_d1 hn (Or.inl h40) | exact mm_d0 hn h40 h26) (by first | assumption | omega) hP hD hS (lv_sub hl [3, 4, 5, 1, 0] rfl)
  exact L5 _ 0 0 _ _ _ rfl (by first | assumption | omega) rfl (by first | assumption | omega) hP hD hS (lv_sub hl [2, 3, 4, 1, 0] rfl)
theorem k_Mo_differing : cf_V y_Mo_differing b_Mo_differing 6 (some .int) "ReadMapperModel" 2 := ⟨⟨m_1077, (wm_s (q := (y_Mo_differing, 43)) (by decide +kernel)), m_9, m_1078⟩, by decide +kernel⟩
set_option maxHeartbeats 4000000 in
set_option maxRecDepth 100000 in
theorem c_Mo_tryAll (l : Launch) (D : va_G) (cA : Nat → ClassId) (K : Nat → Nat) (mo ta aN aS aC aB aR aO aW aD a1 a2 a3 a4 aL aY aM bN bS bC bB bR bO aU : Nat) (rd mp gd : Bool) (zt ir : Int32) (np tot rt pl sg rn rs td ms ip it il : Nat) (L J : List Int32) (df : Nat → Int32) (RL F : List Int32) (bc : Nat → Int32) (bf : Nat → Int32) (q : Nat → Nat) (G : Nat → Int32) (f1 : Nat → Int32) (f2 : Nat → Int32) (f3 : Nat → Int32) (f4 : Nat → Int32) (X : List (Nat × Nat × Nat × Nat)) (kk : Nat) (hd : cd_r 72 df RL) (hF : F = (sl_p RL (rn + 1) (rn + 1 + rs)).map sy_c) (hrl : rn + 1 + rs ≤ RL.length) (hrs : 1 ≤ rs) (hkk : kk ≤ 3) (hnp : np ≤ 5) (htt : tt_c q np ≤ 60) (hbc : ∀ p, p < np → bc p = nI (q p)) (hG : ly_p np q (fun p t => bf (tt_c q p + t)) G) (h1c : cd_r 128 f1 (hp_c X)) (h2c : cd_r 128 f2 (hl_c X)) (h3c : cd_r 128 f3 (hs_c X)) (h4c : cd_r 128 f4 (hm_c X)) : ck_V l y_Mo_tryAll (Cond.code y_Mo_tryAll b_Mo_tryAll 7 none :: w_all) 4 D cA K [.ref mo, .int (nI kk)] [(mo, .inr (8, [.int zt, .int (nI L.length), .ref ta, .int (nI np), .ref aN, .ref aS, .ref aC, .int (nI tot), .ref aB, .int (bz_c rd), .int (nI rt), .int (nI pl), .ref aR, .ref aO, .int (nI sg), .ref aW, .int (bz_c mp), .int (nI rn), .int (nI rs), .int (bz_c gd), .ref aD, .int (nI X.length), .ref a1, .ref a2, .ref a3, .ref a4, .int (nI td), .ref aL, .int (nI J.length), .ref aY, .int (nI ms), .ref aM, .int (nI ip), .int (nI it), .int ir, .int (nI il), .ref bN, .ref bS, .ref bC, .ref bB, .ref bR, .ref bO, .ref aU])), (aD, .inl (cA 1, 72, .inl df)), (aC, .inl (cA 0, 5, .inl bc)), (aB, .inl (cA 0, 64, .inl bf)), (a1, .inl (cA 0, 128, .inl f1)), (a2, .inl (cA 0, 128, .inl f2)), (a3, .inl (cA 0, 128, .inl f3)), (a4, .inl (cA 0, 128, .inl f4))] (fun (u : (List (Nat × Nat × Nat × Nat)) × (Nat → Int32) × (Nat → Int32) × (Nat → Int32) × (Nat → Int32)) => u.1 = hn_c G q F (tb_c F 0) kk np ∧ cd_r 128 u.2.1 (hp_c u.1) ∧ cd_r 128 u.2.2.1 (hl_c u.1) ∧ cd_r 128 u.2.2.2.1 (hs_c u.1) ∧ cd_r 128 u.2.2.2.2 (hm_c u.1)) (fun u => [(mo, .inr (8, [.int zt, .int (nI L.length), .ref ta, .int (nI np), .ref aN, .ref aS, .ref aC, .int (nI tot), .ref aB, .int (bz_c rd), .int (nI rt), .int (nI pl), .ref aR, .ref aO, .int (nI sg), .ref aW, .int (bz_c mp), .int (nI rn), .int (nI rs), .int (bz_c gd), .ref aD, .int (nI u.1.length), .ref a1, .ref a2, .ref a3, .ref a4, .int (nI td), .ref aL, .int (nI J.length), .ref aY, .int (nI ms), .ref aM, .int (nI ip), .int (nI it), .int ir, .int (nI il), .ref bN, .ref bS, .ref bC, .ref bB, .ref bR, .ref bO, .ref aU])), (aD, .inl (cA 1, 72, .inl df)), (aC, .inl (cA 0, 5, .inl bc)), (aB, .inl (cA 0, 64, .inl bf)), (a1, .inl (cA 0, 128, .inl u.2.1)), (a2, .inl (cA 0, 128, .inl u.2.2.1)), (a3, .inl (cA 0, 128, .inl u.2.2.2.1)), (a4, .inl (cA 0, 128, .inl u.2.2.2.2))]) := by
  refine ck_mkV (by decide) (Nat.le_of_ble_eq_true rfl) ?_
  intro pG eG sG mG argsG belowG methG cG Q A H locs ls hx hb hml hown hts hK hE hA hP hD hS hl hret
  have hl : lv_has ls 7 [(0, .ref mo), (1, .int (nI kk))] := hl
  have hl1 := cd_len hd
  have hFl := os_len hF hrl
  refine lv_aload_n hx hb d_Mo_tryAll_0 rfl (lv_at hl 0 rfl) ?_
  refine lv_iconst (v := nI (([] : List (Nat × Nat × Nat × Nat)).length)) hx hb d_Mo_tryAll_1 rfl ?_
  refine va_put (D := D) (ci := 8) (v := .int (nI (([] : List (Nat × Nat × Nat × Nat)).length))) (ty := .int) (C := RX8) (T := TX8) (N := 43) hx hb hts inX8 tyX8 tyX8_ok nmX8 hown hK hP hD hS 0 rfl rfl 21 (by decide) (hts _ m_866) (fun _ h9 => h9) rfl (by decide +kernel) rfl rfl (Nat.le_of_ble_eq_true rfl) d_Mo_tryAll_2 (fun H locs hP hD hS => ?_)
  have hP : va_P D vwCl [(mo, .inr (8, [.int zt, .int (nI L.length), .ref ta, .int (nI np), .ref aN, .ref aS, .ref aC, .int (nI tot), .ref aB, .int (bz_c rd), .int (nI rt), .int (nI pl), .ref aR, .ref aO, .int (nI sg), .ref aW, .int (bz_c mp), .int (nI rn), .int (nI rs), .int (bz_c gd), .ref aD, .int (nI (([] : List (Nat × Nat × Nat × Nat)).length)), .ref a1, .ref a2, .ref a3, .ref a4, .int (nI td), .ref aL, .int (nI J.length), .ref aY, .int (nI ms), .ref aM, .int (nI ip), .int (nI it), .int ir, .int (nI il), .ref bN, .ref bS, .ref bC, .ref bB, .ref bR, .ref bO, .ref aU])), (aD, .inl (cA 1, 72, .inl df)), (aC, .inl (cA 0, 5, .inl bc)), (aB, .inl (cA 0, 64, .inl bf)), (a1, .inl (cA 0, 128, .inl f1)), (a2, .inl (cA 0, 128, .inl f2)), (a3, .inl (cA 0, 128, .inl f3)), (a4, .inl (cA 0, 128, .inl f4))] H := hP
  have hD : va_D A [(mo, .inr (8, [.int zt, .int (nI L.length), .ref ta, .int (nI np), .ref aN, .ref aS, .ref aC, .int (nI tot), .ref aB, .int (bz_c rd), .int (nI rt), .int (nI pl), .ref aR, .ref aO, .int (nI sg), .ref aW, .int (bz_c mp), .int (nI rn), .int (nI rs), .int (bz_c gd), .ref aD, .int (nI (([] : List (Nat × Nat × Nat × Nat)).length)), .ref a1, .ref a2, .ref a3, .ref a4, .int (nI td), .ref aL, .int (nI J.length), .ref aY, .int (nI ms), .ref aM, .int (nI ip), .int (nI it), .int ir, .int (nI il), .ref bN, .ref bS, .ref bC, .ref bB, .ref bR, .ref bO, .ref aU])), (aD, .inl (cA 1, 72, .inl df)), (aC, .inl (cA 0, 5, .inl bc)), (aB, .inl (cA 0, 64, .inl bf)), (a1, .inl (cA 0, 128, .inl f1)), (a2, .inl (cA 0, 128, .inl f2)), (a3, .inl (cA 0, 128, .inl f3)), (a4, .inl (cA 0, 128, .inl f4))] := hD
  refine lv_iconst (v := nI 0) hx hb d_Mo_tryAll_5 (by decide) ?_
  refine lv_istore_n (lv' := [(2, .int (nI 0)), (0, .ref mo), (1, .int (nI kk))]) hx hb d_Mo_tryAll_6 rfl hl (by decide) rfl (fun ls hl => ?_)
  refine lv_iconst (v := nI 0) hx hb d_Mo_tryAll_7 (by decide) ?_
  refine lv_istore_n (lv' := [(3, .int (nI 0)), (2, .int (nI 0)), (0, .ref mo), (1, .int (nI kk))]) hx hb d_Mo_tryAll_8 rfl hl (by decide) rfl (fun ls hl => ?_)
  have L9 : ∀ (nG : Nat) (p b : Nat) (X1 : List (Nat × Nat × Nat × Nat)) (g1 : Nat → Int32) (g2 : Nat → Int32) (g3 : Nat → Int32) (g4 : Nat → Int32) (H : Heap) (locs : List Loc) (ls : Array Slot), np - p = nG → (p ≤ np) → (b = tt_c q p) → (X1 = hn_c G q F (tb_c F 0) kk p) → (cd_r 128 g1 (hp_c X1)) → (cd_r 128 g2 (hl_c X1)) → (cd_r 128 g3 (hs_c X1)) → (cd_r 128 g4 (hm_c X1)) →  va_P D vwCl [(mo, .inr (8, [.int zt, .int (nI L.length), .ref ta, .int (nI np), .ref aN, .ref aS, .ref aC, .int (nI tot), .ref aB, .int (bz_c rd), .int (nI rt), .int (nI pl), .ref aR, .ref aO, .int (nI sg), .ref aW, .int (bz_c mp), .int (nI rn), .int (nI rs), .int (bz_c gd), .ref aD, .int (nI X1.length), .ref a1, .ref a2, .ref a3, .ref a4, .int (nI td), .ref aL, .int (nI J.length), .ref aY, .int (nI ms), .ref aM, .int (nI ip), .int (nI it), .int ir, .int (nI il), .ref bN, .ref bS, .ref bC, .ref bB, .ref bR, .ref bO, .ref aU])), (aD, .inl (cA 1, 72, .inl df)), (aC, .inl (cA 0, 5, .inl bc)), (aB, .inl (cA 0, 64, .inl bf)), (a1, .inl (cA 0, 128, .inl g1)), (a2, .inl (cA 0, 128, .inl g2)), (a3, .inl (cA 0, 128, .inl g3)), (a4, .inl (cA 0, 128, .inl g4))] H → va_D A [(mo, .inr (8, [.int zt, .int (nI L.length), .ref ta, .int (nI np), .ref aN, .ref aS, .ref aC, .int (nI tot), .ref aB, .int (bz_c rd), .int (nI rt), .int (nI pl), .ref aR, .ref aO, .int (nI sg), .ref aW, .int (bz_c mp), .int (nI rn), .int (nI rs), .int (bz_c gd), .ref aD, .int (nI X1.length), .ref a1, .ref a2, .ref a3, .ref a4, .int (nI td), .ref aL, .int (nI J.length), .ref aY, .int (nI ms), .ref aM, .int (nI ip), .int (nI it), .int ir, .int (nI il), .ref bN, .ref bS, .ref bC, .ref bB, .ref bR, .ref bO, .ref aU])), (aD, .inl (cA 1, 72, .inl df)), (aC, .inl (cA 0, 5, .inl bc)), (aB, .inl (cA 0, 64, .inl bf)), (a1, .inl (cA 0, 128, .inl g1)), (a2, .inl (cA 0, 128, .inl g2)), (a3, .inl (cA 0, 128, .inl g3)), (a4, .inl (cA 0, 128, .inl g4))] → va_S A sG.heap H locs → lv_has ls 7 [(0, .ref mo), (1, .int (nI kk)), (2, .int (nI b)), (3, .int (nI p))] → W pG l eG (rm_d 4) sG mG argsG belowG methG cG H locs 0 0 Q (F0 mG 9 ls []) := by
    intro nG
    induction nG using Nat.strongRecOn with
    | ind nG ih9 =>
      intro p b X1 g1 g2 g3 g4 H locs ls hn9 hp hb0 hX h1g h2g h3g h4g hP hD hS hl
      have hm0 := tt_mono q hp
      refine lv_iload_n hx hb d_Mo_tryAll_9 rfl (lv_at hl 3 rfl) ?_
      refine lv_aload_n hx hb d_Mo_tryAll_10 rfl (lv_at hl 0 rfl) ?_
      refine va_get (C := RX8) (T := TX8) (N := 43) hx hb hts inX8 hown hK hP 0 rfl rfl 3 (by decide) (hts _ m_848) (fun _ h9 => h9) rfl d_Mo_tryAll_11 ?_
      refine wn_icmp_ge (by omega) (by omega) (tgt := 145) hx hb d_Mo_tryAll_14 (by decide) ?_ ?_
      · intro h14
        exact hret (X1, g1, g2, g3, g4) _ _ _ 145 d_Mo_tryAll_145 ⟨by rw [hX, show p = np by omega], h1g, h2g, h3g, h4g⟩ hP hD hS
      · intro h14
        have hm1 : tt_c q (p + 1) ≤ tt_c q np := tt_mono q h14
        have ht1 : tt_c q (p + 1) = tt_c q p + q p := rfl
        refine lv_iconst (v := nI 0) hx hb d_Mo_tryAll_17 (by decide) ?_
        refine lv_istore (lv' := [(4, .int (nI 0)), (0, .ref mo), (1, .int (nI kk)), (2, .int (nI b)), (3, .int (nI p))]) hx hb d_Mo_tryAll_18 hl (by decide) rfl (fun ls hl => ?_)
        have L20 : ∀ (nG : Nat) (o : Nat) (X1 : List (Nat × Nat × Nat × Nat)) (g1 : Nat → Int32) (g2 : Nat → Int32) (g3 : Nat → Int32) (g4 : Nat → Int32) (H : Heap) (locs : List Loc) (ls : Array Slot), q p + 1 - o = nG → (o ≤ q p + 1 - rs) → (X1 = hn_c G q F (tb_c F 0) kk p ++ ho_c G (tt_c q p + p) F (tb_c F 0) kk p o) → (cd_r 128 g1 (hp_c X1)) → (cd_r 128 g2 (hl_c X1)) → (cd_r 128 g3 (hs_c X1)) → (cd_r 128 g4 (hm_c X1)) →  va_P D vwCl [(mo, .inr (8, [.int zt, .int (nI L.length), .ref ta, .int (nI np), .ref aN, .ref aS, .ref aC, .int (nI tot), .ref aB, .int (bz_c rd), .int (nI rt), .int (nI pl), .ref aR, .ref aO, .int (nI sg), .ref aW, .int (bz_c mp), .int (nI rn), .int (nI rs), .int (bz_c gd), .ref aD, .int (nI X1.length), .ref a1, .ref a2, .ref a3, .ref a4, .int (nI td), .ref aL, .int (nI J.length), .ref aY, .int (nI ms), .ref aM, .int (nI ip), .int (nI it), .int ir, .int (nI il), .ref bN, .ref bS, .ref bC, .ref bB, .ref bR, .ref bO, .ref aU])), (aD, .inl (cA 1, 72, .inl df)), (aC, .inl (cA 0, 5, .inl bc)), (aB, .inl (cA 0, 64, .inl bf)), (a1, .inl (cA 0, 128, .inl g1)), (a2, .inl (cA 0, 128, .inl g2)), (a3, .inl (cA 0, 128, .inl g3)), (a4, .inl (cA 0, 128, .inl g4))] H → va_D A [(mo, .inr (8, [.int zt, .int (nI L.length), .ref ta, .int (nI np), .ref aN, .ref aS, .ref aC, .int (nI tot), .ref aB, .int (bz_c rd), .int (nI rt), .int (nI pl), .ref aR, .ref aO, .int (nI sg), .ref aW, .int (bz_c mp), .int (nI rn), .int (nI rs), .int (bz_c gd), .ref aD, .int (nI X1.length), .ref a1, .ref a2, .ref a3, .ref a4, .int (nI td), .ref aL, .int (nI J.length), .ref aY, .int (nI ms), .ref aM, .int (nI ip), .int (nI it), .int ir, .int (nI il), .ref bN, .ref bS, .ref bC, .ref bB, .ref bR, .ref bO, .ref aU])), (aD, .inl (cA 1, 72, .inl df)), (aC, .inl (cA 0, 5, .inl bc)), (aB, .inl (cA 0, 64, .inl bf)), (a1, .inl (cA 0, 128, .inl g1)), (a2, .inl (cA 0, 128, .inl g2)), (a3, .inl (cA 0, 128, .inl g3)), (a4, .inl (cA 0, 128, .inl g4))] → va_S A sG.heap H locs → lv_has ls 7 [(0, .ref mo), (1, .int (nI kk)), (2, .int (nI b)), (3, .int (nI p)), (4, .int (nI o))] → W pG l eG (rm_d 4) sG mG argsG belowG methG cG H locs 0 0 Q (F0 mG 20 ls []) := by
          intro nG
          induction nG using Nat.strongRecOn with
          | ind nG ih20 =>
            intro o X1 g1 g2 g3 g4 H locs ls hn20 ho hX h1g h2g h3g h4g hP hD hS hl
            refine lv_iload hx hb d_Mo_tryAll_20 (lv_at hl 4 rfl) ?_
            refine lv_aload_n hx hb d_Mo_tryAll_22 rfl (lv_at hl 0 rfl) ?_
            refine va_get (C := RX8) (T := TX8) (N := 43) hx hb hts inX8 hown hK hP 0 rfl rfl 18 (by decide) (hts _ m_863) (fun _ h9 => h9) rfl d_Mo_tryAll_23 ?_
            refine wn_iadd hx hb d_Mo_tryAll_26 ?_
            refine lv_aload_n hx hb d_Mo_tryAll_27 rfl (lv_at hl 0 rfl) ?_
            refine va_get (C := RX8) (T := TX8) (N := 43) hx hb hts inX8 hown hK hP 0 rfl rfl 6 (by decide) (hts _ m_851) (fun _ h9 => h9) rfl d_Mo_tryAll_28 ?_
            refine lv_iload_n hx hb d_Mo_tryAll_31 rfl (lv_at hl 3 rfl) ?_
            refine wn_iald hx hb hK hP 2 0 rfl rfl (by omega) (by omega) d_Mo_tryAll_32 ?_
            refine wn_eq (y := nI (q p)) (hbc p (by omega)) ?_
            refine wn_icmp_gt (by omega) (by omega) (tgt := 130) hx hb d_Mo_tryAll_33 (by decide) ?_ ?_
            · intro h33
              refine lv_iload_n hx hb d_Mo_tryAll_130 rfl (lv_at hl 2 rfl) ?_
              refine lv_aload_n hx hb d_Mo_tryAll_131 rfl (lv_at hl 0 rfl) ?_
              refine va_get (C := RX8) (T := TX8) (N := 43) hx hb hts inX8 hown hK hP 0 rfl rfl 6 (by decide) (hts _ m_851) (fun _ h9 => h9) rfl d_Mo_tryAll_132 ?_
              refine lv_iload_n hx hb d_Mo_tryAll_135 rfl (lv_at hl 3 rfl) ?_
              refine wn_iald hx hb hK hP 2 0 rfl rfl (by omega) (by omega) d_Mo_tryAll_136 ?_
              refine wn_eq (y := nI (q p)) (hbc p (by omega)) ?_
              refine wn_iadd hx hb d_Mo_tryAll_137 ?_
              refine lv_istore_n (lv' := [(2, .int (nI (b + (q p)))), (0, .ref mo), (1, .int (nI kk)), (3, .int (nI p)), (4, .int (nI o))]) hx hb d_Mo_tryAll_138 rfl hl (by decide) rfl (fun ls hl => ?_)
              refine lv_iinc (k := 3) (v := nI (p + 1)) (lv' := [(3, .int (nI (p + 1))), (2, .int (nI (b + (q p)))), (0, .ref mo), (1, .int (nI kk)), (4, .int (nI o))]) hx hb d_Mo_tryAll_139 hl rfl (wi_inc1 _) (by decide) rfl (fun ls hl => ?_)
              refine lv_goto (tgt := 9) hx hb d_Mo_tryAll_142 (by decide) ?_
              exact ih9 _ (by omega) (p + 1) (b + (q p)) X1 g1 g2 g3 g4 _ _ _ rfl (by first | assumption | omega) (by omega) (hn_s hX (by omega)) (by first | assumption | omega) (by first | assumption | omega) (by first | assumption | omega) (by first | assumption | omega) hP hD hS (lv_sub hl [2, 3, 1, 0] rfl)
            · intro h33
              refine lv_iconst (v := nI 0) hx hb d_Mo_tryAll_36 (by decide) ?_
              refine lv_istore (lv' := [(5, .int (nI 0)), (0, .ref mo), (1, .int (nI kk)), (2, .int (nI b)), (3, .int (nI p)), (4, .int (nI o))]) hx hb d_Mo_tryAll_37 hl (by decide) rfl (fun ls hl => ?_)
              have L39 : ∀ (nG : Nat) (sd : Nat) (X1 : List (Nat × Nat × Nat × Nat)) (g1 : Nat → Int32) (g2 : Nat → Int32) (g3 : Nat → Int32) (g4 : Nat → Int32) (H : Heap) (locs : List Loc) (ls : Array Slot), 2 - sd = nG → (sd ≤ 2) → (X1 = (hn_c G q F (tb_c F 0) kk p ++ ho_c G (tt_c q p + p) F (tb_c F 0) kk p o) ++ ha_c G (tt_c q p + p + o) F (tb_c F 0) kk p o sd) → (cd_r 128 g1 (hp_c X1)) → (cd_r 128 g2 (hl_c X1)) → (cd_r 128 g3 (hs_c X1)) → (cd_r 128 g4 (hm_c X1)) →  va_P D vwCl [(mo, .inr (8, [.int zt, .int (nI L.length), .ref ta, .int (nI np), .ref aN, .ref aS, .ref aC, .int (nI tot), .ref aB, .int (bz_c rd), .int (nI rt), .int (nI pl), .ref aR, .ref aO, .int (nI sg), .ref aW, .int (bz_c mp), .int (nI rn), .int (nI rs), .int (bz_c gd), .ref aD, .int (nI X1.length), .ref a1, .ref a2, .ref a3, .ref a4, .int (nI td), .ref aL, .int (nI J.length), .ref aY, .int (nI ms), .ref aM, .int (nI ip), .int (nI it), .int ir, .int (nI il), .ref bN, .ref bS, .ref bC, .ref bB, .ref bR, .ref bO, .ref aU])), (aD, .inl (cA 1, 72, .inl df)), (aC, .inl (cA 0, 5, .inl bc)), (aB, .inl (cA 0, 64, .inl bf)), (a1, .inl (cA 0, 128, .inl g1)), (a2, .inl (cA 0, 128, .inl g2)), (a3, .inl (cA 0, 128, .inl g3)), (a4, .inl (cA 0, 128, .inl g4))] H → va_D A [(mo, .inr (8, [.int zt, .int (nI L.length), .ref ta, .int (nI np), .ref aN, .ref aS, .ref aC, .int (nI tot), .ref aB, .int (bz_c rd), .int (nI rt), .int (nI pl), .ref aR, .ref aO, .int (nI sg), .ref aW, .int (bz_c mp), .int (nI rn), .int (nI rs), .int (bz_c gd), .ref aD, .int (nI X1.length), .ref a1, .ref a2, .ref a3, .ref a4, .int (nI td), .ref aL, .int (nI J.length), .ref aY, .int (nI ms), .ref aM, .int (nI ip), .int (nI it), .int ir, .int (nI il), .ref bN, .ref bS, .ref bC, .ref bB, .ref bR, .ref bO, .ref aU])), (aD, .inl (cA 1, 72, .inl df)), (aC, .inl (cA 0, 5, .inl bc)), (aB, .inl (cA 0, 64, .inl bf)), (a1, .inl (cA 0, 128, .inl g1)), (a2, .inl (cA 0, 128, .inl g2)), (a3, .inl (cA 0, 128, .inl g3)), (a4, .inl (cA 0, 128, .inl g4))] → va_S A sG.heap H locs → lv_has ls 7 [(0, .ref mo), (1, .int (nI kk)), (2, .int (nI b)), (3, .int (nI p)), (4, .int (nI o)), (5, .int (nI sd))] → W pG l eG (rm_d 4) sG mG argsG belowG methG cG H locs 0 0 Q (F0 mG 39 ls []) := by
                intro nG
                induction nG using Nat.strongRecOn with
                | ind nG ih39 =>
                  intro sd X1 g1 g2 g3 g4 H locs ls hn39 hsd hX h1g h2g h3g h4g hP hD hS hl
                  have hxb := hx_bnd hX (by omega)
                  refine lv_iload hx hb d_Mo_tryAll_39 (lv_at hl 5 rfl) ?_
                  refine lv_iconst (v := nI 2) hx hb d_Mo_tryAll_41 (by decide) ?_
                  refine wn_icmp_ge (by omega) (by omega) (tgt := 124) hx hb d_Mo_tryAll_42 (by decide) ?_ ?_
                  · intro h42
                    refine lv_iinc (k := 4) (v := nI (o + 1)) (lv' := [(4, .int (nI (o + 1))), (0, .ref mo), (1, .int (nI kk)), (2, .int (nI b)), (3, .int (nI p)), (5, .int (nI sd))]) hx hb d_Mo_tryAll_124 hl rfl (wi_inc1 _) (by decide) rfl (fun ls hl => ?_)
                    refine lv_goto (tgt := 20) hx hb d_Mo_tryAll_127 (by decide) ?_
                    exact ih20 _ (by omega) (o + 1) X1 g1 g2 g3 g4 _ _ _ rfl (by first | assumption | omega) (ho_s hX (by omega)) (by first | assumption | omega) (by first | assumption | omega) (by first | assumption | omega) (by first | assumption | omega) hP hD hS (lv_sub hl [1, 2, 3, 4, 0] rfl)
                  · intro h42
                    refine lv_aload_n hx hb d_Mo_tryAll_45 rfl (lv_at hl 0 rfl) ?_
                    refine lv_iload_n hx hb d_Mo_tryAll_46 rfl (lv_at hl 2 rfl) ?_
                    refine lv_iload hx hb d_Mo_tryAll_47 (lv_at hl 4 rfl) ?_
                    refine wn_iadd hx hb d_Mo_tryAll_49 ?_
                    refine lv_iload hx hb d_Mo_tryAll_50 (lv_at hl 5 rfl) ?_
                    refine ck_cV (C := "ReadMapperModel") (ci := 8) (rest := []) (wr := [(aC, .inl (cA 0, 5, .inl bc)), (a1, .inl (cA 0, 128, .inl g1)), (a2, .inl (cA 0, 128, .inl g2)), (a3, .inl (cA 0, 128, .inl g3)), (a4, .inl (cA 0, 128, .inl g4))]) (ws2 := fun u => [(mo, .inr (8, [.int zt, .int (nI L.length), .ref ta, .int (nI np), .ref aN, .ref aS, .ref aC, .int (nI tot), .ref aB, .int (bz_c rd), .int (nI rt), .int (nI pl), .ref aR, .ref aO, .int (nI sg), .ref aW, .int (bz_c mp), .int (nI rn), .int (nI rs), .int (bz_c gd), .ref aD, .int (nI X1.length), .ref a1, .ref a2, .ref a3, .ref a4, .int (nI td), .ref aL, .int (nI J.length), .ref aY, .int (nI ms), .ref aM, .int (nI ip), .int (nI it), .int ir, .int (nI il), .ref bN, .ref bS, .ref bC, .ref bB, .ref bR, .ref bO, .ref aU])), (aD, .inl (cA 1, 72, .inl df)), (aC, .inl (cA 0, 5, .inl bc)), (aB, .inl (cA 0, 64, .inl bf)), (a1, .inl (cA 0, 128, .inl g1)), (a2, .inl (cA 0, 128, .inl g2)), (a3, .inl (cA 0, 128, .inl g3)), (a4, .inl (cA 0, 128, .inl g4))]) (c_Mo_differing l D cA K mo ta aN aS aC aB aR aO aW aD a1 a2 a3 a4 aL aY aM bN bS bC bB bR bO aU rd mp gd zt ir np tot rt pl sg rn rs X1.length td ms ip it il L J df RL F bf (b + o) sd (by first | assumption | omega) (by first | assumption | omega) (by first | assumption | omega) (by first | assumption | omega) (by first | assumption | omega)) hx hb hml hown hts hK hE hA hP hD hS k_Mo_differing m_1075 (by decide) 0 rfl rfl rfl hl.1 rfl (Nat.le_of_ble_eq_true rfl) d_Mo_tryAll_52  [0, 1, 3] [2, 4, 5, 6, 7] [5, 6, 0, 7, 1, 2, 3, 4] rfl rfl (by decide) (fun _ => rfl) (fun r52 u52 H locs hq52 hP hD hS => ?_)
                    try dsimp only at hq52
                    have hP : va_P D vwCl [(mo, .inr (8, [.int zt, .int (nI L.length), .ref ta, .int (nI np), .ref aN, .ref aS, .ref aC, .int (nI tot), .ref aB, .int (bz_c rd), .int (nI rt), .int (nI pl), .ref aR, .ref aO, .int (nI sg), .ref aW, .int (bz_c mp), .int (nI rn), .int (nI rs), .int (bz_c gd), .ref aD, .int (nI X1.length), .ref a1, .ref a2, .ref a3, .ref a4, .int (nI td), .ref aL, .int (nI J.length), .ref aY, .int (nI ms), .ref aM, .int (nI ip), .int (nI it), .int ir, .int (nI il), .ref bN, .ref bS, .ref bC, .ref bB, .ref bR, .ref bO, .ref aU])), (aD, .inl (cA 1, 72, .inl df)), (aC, .inl (cA 0, 5, .inl bc)), (aB, .inl (cA 0, 64, .inl bf)), (a1, .inl (cA 0, 128, .inl g1)), (a2, .inl (cA 0, 128, .inl g2)), (a3, .inl (cA 0, 128, .inl g3)), (a4, .inl (cA 0, 128, .inl g4))] H := hP
                    have hD : va_D A [(mo, .inr (8, [.int zt, .int (nI L.length), .ref ta, .int (nI np), .ref aN, .ref aS, .ref aC, .int (nI tot), .ref aB, .int (bz_c rd), .int (nI rt), .int (nI pl), .ref aR, .ref aO, .int (nI sg), .ref aW, .int (bz_c mp), .int (nI rn), .int (nI rs), .int (bz_c gd), .ref aD, .int (nI X1.length), .ref a1, .ref a2, .ref a3, .ref a4, .int (nI td), .ref aL, .int (nI J.length), .ref aY, .int (nI ms), .ref aM, .int (nI ip), .int (nI it), .int ir, .int (nI il), .ref bN, .ref bS, .ref bC, .ref bB, .ref bR, .ref bO, .ref aU])), (aD, .inl (cA 1, 72, .inl df)), (aC, .inl (cA 0, 5, .inl bc)), (aB, .inl (cA 0, 64, .inl bf)), (a1, .inl (cA 0, 128, .inl g1)), (a2, .inl (cA 0, 128, .inl g2)), (a3, .inl (cA 0, 128, .inl g3)), (a4, .inl (cA 0, 128, .inl g4))] := hD
                    obtain ⟨k52, rfl, hq52⟩ := hq52
                    have hmm : k52 = mm_c G (tt_c q p + p + o) (if sd = 0 then F else tb_c F 0) rs := by rw [hq52, hb0]; exact mm_cg (fun t ht => (by rw [Nat.add_assoc _ o t, Nat.add_assoc _ o t]; exact (hG p h14).1 (o + t) (by omega)))
                    have hmb := mm_lb hmm
                    refine lv_istore (lv' := [(6, .int (nI k52)), (0, .ref mo), (1, .int (nI kk)), (2, .int (nI b)), (3, .int (nI p)), (4, .int (nI o)), (5, .int (nI sd))]) hx hb d_Mo_tryAll_55 hl (by decide) rfl (fun ls hl => ?_)
                    refine lv_iload hx hb d_Mo_tryAll_57 (lv_at hl 0 rfl) ?_
                    refine lv_iload_n hx hb d_Mo_tryAll_59 rfl (lv_at hl 2 rfl) ?_
                    refine wn_icmp_gt (by omega) (by omega) (tgt := 118) hx hb d_Mo_tryAll_60 (by decide) ?_ ?_
                    · intro h60
                      refine lv_iinc (k := 6) (v := nI (sd + 1)) (lv' := [(5, .int (nI (sd + 1))), (6, .int (nI k52)), (0, .ref mo), (1, .int (nI kk)), (2, .int (nI b)), (3, .int (nI p)), (4, .int (nI o))]) hx hb d_Mo_tryAll_118 hl rfl (wi_inc1 _) (by decide) rfl (fun ls hl => ?_)
                      refine lv_goto (tgt := 39) hx hb d_Mo_tryAll_121 (by decide) ?_
                      exact ih39 _ (by omega) (sd + 1) X1 g1 g2 g3 g4 _ _ _ rfl (by first | assumption | omega) (by first | exact ha_y hX (Nat.le_of_eq (os_ln hFl)) hmm (Or.inl (os_ln hFl)) (by omega) | exact ha_n hX (Nat.le_of_eq (os_ln hFl)) hmm (Or.inl (os_ln hFl)) (by omega)) (by first | exact hx_a1 h1g (by omega) | exact h1g) (by first | exact hx_a2 h2g (by omega) | exact h2g) (by first | exact hx_a3 h3g (by omega) | exact h3g) (by first | exact hx_a4 h4g (by omega) | exact h4g) hP hD hS (lv_sub hl [2, 3, 4, 5, 6, 0] rfl)
                    · intro h60
                      refine lv_aload_n hx hb d_Mo_tryAll_63 rfl (lv_at hl 1 rfl) ?_
                      refine va_get (C := RX8) (T := TX8) (N := 43) hx hb hts inX8 hown hK hP 0 rfl rfl 22 (by decide) (hts _ m_867) (fun _ h9 => h9) rfl d_Mo_tryAll_64 ?_
                      refine lv_aload_n hx hb d_Mo_tryAll_67 rfl (lv_at hl 1 rfl) ?_
                      refine va_get (C := RX8) (T := TX8) (N := 43) hx hb hts inX8 hown hK hP 0 rfl rfl 21 (by decide) (hts _ m_866) (fun _ h9 => h9) rfl d_Mo_tryAll_68 ?_
                      refine lv_iload_n hx hb d_Mo_tryAll_71 rfl (lv_at hl 4 rfl) ?_
                      refine wn_iast hx hb hK hP hD hS 4 0 rfl rfl (by omega) (by omega) d_Mo_tryAll_72 (fun H locs hP hD hS => ?_)
                      have hP : va_P D vwCl [(mo, .inr (8, [.int zt, .int (nI L.length), .ref ta, .int (nI np), .ref aN, .ref aS, .ref aC, .int (nI tot), .ref aB, .int (bz_c rd), .int (nI rt), .int (nI pl), .ref aR, .ref aO, .int (nI sg), .ref aW, .int (bz_c mp), .int (nI rn), .int (nI rs), .int (bz_c gd), .ref aD, .int (nI X1.length), .ref a1, .ref a2, .ref a3, .ref a4, .int (nI td), .ref aL, .int (nI J.length), .ref aY, .int (nI ms), .ref aM, .int (nI ip), .int (nI it), .int ir, .int (nI il), .ref bN, .ref bS, .ref bC, .ref bB, .ref bR, .ref bO, .ref aU])), (aD, .inl (cA 1, 72, .inl df)), (aC, .inl (cA 0, 5, .inl bc)), (aB, .inl (cA 0, 64, .inl bf)), (a1, .inl (cA 0, 128, .inl (upd g1 X1.length (nI p)))), (a2, .inl (cA 0, 128, .inl g2)), (a3, .inl (cA 0, 128, .inl g3)), (a4, .inl (cA 0, 128, .inl g4))] H := hP
                      have hD : va_D A [(mo, .inr (8, [.int zt, .int (nI L.length), .ref ta, .int (nI np), .ref aN, .ref aS, .ref aC, .int (nI tot), .ref aB, .int (bz_c rd), .int (nI rt), .int (nI pl), .ref aR, .ref aO, .int (nI sg), .ref aW, .int (bz_c mp), .int (nI rn), .int (nI rs), .int (bz_c gd), .ref aD, .int (nI X1.length), .ref a1, .ref a2, .ref a3, .ref a4, .int (nI td), .ref aL, .int (nI J.length), .ref aY, .int (nI ms), .ref aM, .int (nI ip), .int (nI it), .int ir, .int (nI il), .ref bN, .ref bS, .ref bC, .ref bB, .ref bR, .ref bO, .ref aU])), (aD, .inl (cA 1, 72, .inl df)), (aC, .inl (cA 0, 5, .inl bc)), (aB, .inl (cA 0, 64, .inl bf)), (a1, .inl (cA 0, 128, .inl (upd g1 X1.length (nI p)))), (a2, .inl (cA 0, 128, .inl g2)), (a3, .inl (cA 0, 128, .inl g3)), (a4, .inl (cA 0, 128, .inl g4))] := hD
                      refine lv_aload_n hx hb d_Mo_tryAll_73 rfl (lv_at hl 1 rfl) ?_
                      refine va_get (C := RX8) (T := TX8) (N := 43) hx hb hts inX8 hown hK hP 0 rfl rfl 23 (by decide) (hts _ m_868) (fun _ h9 => h9) rfl d_Mo_tryAll_74 ?_
                      refine lv_aload_n hx hb d_Mo_tryAll_77 rfl (lv_at hl 1 rfl) ?_
                      refine va_get (C := RX8) (T := TX8) (N := 43) hx hb hts inX8 hown hK hP 0 rfl rfl 21 (by decide) (hts _ m_866) (fun _ h9 => h9) rfl d_Mo_tryAll_78 ?_
                      refine lv_iload hx hb d_Mo_tryAll_81 (lv_at hl 5 rfl) ?_
                      refine lv_iconst (v := nI 1) hx hb d_Mo_tryAll_83 (by decide) ?_
                      refine wn_iadd hx hb d_Mo_tryAll_84 ?_
                      refine wn_iast hx hb hK hP hD hS 5 0 rfl rfl (by omega) (by omega) d_Mo_tryAll_85 (fun H locs hP hD hS => ?_)
                      have hP : va_P D vwCl [(mo, .inr (8, [.int zt, .int (nI L.length), .ref ta, .int (nI np), .ref aN, .ref aS, .ref aC, .int (nI tot), .ref aB, .int (bz_c rd), .int (nI rt), .int (nI pl), .ref aR, .ref aO, .int (nI sg), .ref aW, .int (bz_c mp), .int (nI rn), .int (nI rs), .int (bz_c gd), .ref aD, .int (nI X1.length), .ref a1, .ref a2, .ref a3, .ref a4, .int (nI td), .ref aL, .int (nI J.length), .ref aY, .int (nI ms), .ref aM, .int (nI ip), .int (nI it), .int ir, .int (nI il), .ref bN, .ref bS, .ref bC, .ref bB, .ref bR, .ref bO, .ref aU])), (aD, .inl (cA 1, 72, .inl df)), (aC, .inl (cA 0, 5, .inl bc)), (aB, .inl (cA 0, 64, .inl bf)), (a1, .inl (cA 0, 128, .inl (upd g1 X1.length (nI p)))), (a2, .inl (cA 0, 128, .inl (upd g2 X1.length (nI (o + 1))))), (a3, .inl (cA 0, 128, .inl g3)), (a4, .inl (cA 0, 128, .inl g4))] H := hP
                      have hD : va_D A [(mo, .inr (8, [.int zt, .int (nI L.length), .ref ta, .int (nI np), .ref aN, .ref aS, .ref aC, .int (nI tot), .ref aB, .int (bz_c rd), .int (nI rt), .int (nI pl), .ref aR, .ref aO, .int (nI sg), .ref aW, .int (bz_c mp), .int (nI rn), .int (nI rs), .int (bz_c gd), .ref aD, .int (nI X1.length), .ref a1, .ref a2, .ref a3, .ref a4, .int (nI td), .ref aL, .int (nI J.length), .ref aY, .int (nI ms), .ref aM, .int (nI ip), .int (nI it), .int ir, .int (nI il), .ref bN, .ref bS, .ref bC, .ref bB, .ref bR, .ref bO, .ref aU])), (aD, .inl (cA 1, 72, .inl df)), (aC, .inl (cA 0, 5, .inl bc)), (aB, .inl (cA 0, 64, .inl bf)), (a1, .inl (cA 0, 128, .inl (upd g1 X1.length (nI p)))), (a2, .inl (cA 0, 128, .inl (upd g2 X1.length (nI (o + 1))))), (a3, .inl (cA 0, 128, .inl g3)), (a4, .inl (cA 0, 128, .inl g4))] := hD
                      refine lv_aload_n hx hb d_Mo_tryAll_86 rfl (lv_at hl 1 rfl) ?_
                      refine va_get (C := RX8) (T := TX8) (N := 43) hx hb hts inX8 hown hK hP 0 rfl rfl 24 (by decide) (hts _ m_869) (fun _ h9 => h9) rfl d_Mo_tryAll_87 ?_
                      refine lv_aload_n hx hb d_Mo_tryAll_90 rfl (lv_at hl 1 rfl) ?_
                      refine va_get (C := RX8) (T := TX8) (N := 43) hx hb hts inX8 hown hK hP 0 rfl rfl 21 (by decide) (hts _ m_866) (fun _ h9 => h9) rfl d_Mo_tryAll_91 ?_
                      refine lv_iload hx hb d_Mo_tryAll_94 (lv_at hl 6 rfl) ?_
                      refine wn_iast hx hb hK hP hD hS 6 0 rfl rfl (by omega) (by omega) d_Mo_tryAll_96 (fun H locs hP hD hS => ?_)
                      have hP : va_P D vwCl [(mo, .inr (8, [.int zt, .int (nI L.length), .ref ta, .int (nI np), .ref aN, .ref aS, .ref aC, .int (nI tot), .ref aB, .int (bz_c rd), .int (nI rt), .int (nI pl), .ref aR, .ref aO, .int (nI sg), .ref aW, .int (bz_c mp), .int (nI rn), .int (nI rs), .int (bz_c gd), .ref aD, .int (nI X1.length), .ref a1, .ref a2, .ref a3, .ref a4, .int (nI td), .ref aL, .int (nI J.length), .ref aY, .int (nI ms), .ref aM, .int (nI ip), .int (nI it), .int ir, .int (nI il), .ref bN, .ref bS, .ref bC, .ref bB, .ref bR, .ref bO, .ref aU])), (aD, .inl (cA 1, 72, .inl df)), (aC, .inl (cA 0, 5, .inl bc)), (aB, .inl (cA 0, 64, .inl bf)), (a1, .inl (cA 0, 128, .inl (upd g1 X1.length (nI p)))), (a2, .inl (cA 0, 128, .inl (upd g2 X1.length (nI (o + 1))))), (a3, .inl (cA 0, 128, .inl (upd g3 X1.length (nI sd)))), (a4, .inl (cA 0, 128, .inl g4))] H := hP
                      have hD : va_D A [(mo, .inr (8, [.int zt, .int (nI L.length), .ref ta, .int (nI np), .ref aN, .ref aS, .ref aC, .int (nI tot), .ref aB, .int (bz_c rd), .int (nI rt), .int (nI pl), .ref aR, .ref aO, .int (nI sg), .ref aW, .int (bz_c mp), .int (nI rn), .int (nI rs), .int (bz_c gd), .ref aD, .int (nI X1.length), .ref a1, .ref a2, .ref a3, .ref a4, .int (nI td), .ref aL, .int (nI J.length), .ref aY, .int (nI ms), .ref aM, .int (nI ip), .int (nI it), .int ir, .int (nI il), .ref bN, .ref bS, .ref bC, .ref bB, .ref bR, .ref bO, .ref aU])), (aD, .inl (cA 1, 72, .inl df)), (aC, .inl (cA 0, 5, .inl bc)), (aB, .inl (cA 0, 64, .inl bf)), (a1, .inl (cA 0, 128, .inl (upd g1 X1.length (nI p)))), (a2, .inl (cA 0, 128, .inl (upd g2 X1.length (nI (o + 1))))), (a3, .inl (cA 0, 128, .inl (upd g3 X1.length (nI sd)))), (a4, .inl (cA 0, 128, .inl g4))] := hD
                      refine lv_aload_n hx hb d_Mo_tryAll_97 rfl (lv_at hl 1 rfl) ?_
                      refine va_get (C := RX8) (T := TX8) (N := 43) hx hb hts inX8 hown hK hP 0 rfl rfl 25 (by decide) (hts _ m_870) (fun _ h9 => h9) rfl d_Mo_tryAll_98 ?_
                      refine lv_aload_n hx hb d_Mo_tryAll_101 rfl (lv_at hl 1 rfl) ?_
                      refine va_get (C := RX8) (T := TX8) (N := 43) hx hb hts inX8 hown hK hP 0 rfl rfl 21 (by decide) (hts _ m_866) (fun _ h9 => h9) rfl d_Mo_tryAll_102 ?_
                      refine lv_iload hx hb d_Mo_tryAll_105 (lv_at hl 0 rfl) ?_
                      refine wn_iast hx hb hK hP hD hS 7 0 rfl rfl (by omega) (by omega) d_Mo_tryAll_107 (fun H locs hP hD hS => ?_)
                      have hP : va_P D vwCl [(mo, .inr (8, [.int zt, .int (nI L.length), .ref ta, .int (nI np), .ref aN, .ref aS, .ref aC, .int (nI tot), .ref aB, .int (bz_c rd), .int (nI rt), .int (nI pl), .ref aR, .ref aO, .int (nI sg), .ref aW, .int (bz_c mp), .int (nI rn), .int (nI rs), .int (bz_c gd), .ref aD, .int (nI X1.length), .ref a1, .ref a2, .ref a3, .ref a4, .int (nI td), .ref aL, .int (nI J.length), .ref aY, .int (nI ms), .ref aM, .int (nI ip), .int (nI it), .int ir, .int (nI il), .ref bN, .ref bS, .ref bC, .ref bB, .ref bR, .ref bO, .ref aU])), (aD, .inl (cA 1, 72, .inl df)), (aC, .inl (cA 0, 5, .inl bc)), (aB, .inl (cA 0, 64, .inl bf)), (a1, .inl (cA 0, 128, .inl (upd g1 X1.length (nI p)))), (a2, .inl (cA 0, 128, .inl (upd g2 X1.length (nI (o + 1))))), (a3, .inl (cA 0, 128, .inl (upd g3 X1.length (nI sd)))), (a4, .inl (cA 0, 128, .inl (upd g4 X1.length (nI k52))))] H := hP
                      have hD : va_D A [(mo, .inr (8, [.int zt, .int (nI L.length), .ref ta, .int (nI np), .ref aN, .ref aS, .ref aC, .int (nI tot), .ref aB, .int (bz_c rd), .int (nI rt), .int (nI pl), .ref aR, .ref aO, .int (nI sg), .ref aW, .int (bz_c mp), .int (nI rn), .int (nI rs), .int (bz_c gd), .ref aD, .int (nI X1.length), .ref a1, .ref a2, .ref a3, .ref a4, .int (nI td), .ref aL, .int (nI J.length), .ref aY, .int (nI ms), .ref aM, .int (nI ip), .int (nI it), .int ir, .int (nI il), .ref bN, .ref bS, .ref bC, .ref bB, .ref bR, .ref bO, .ref aU])), (aD, .inl (cA 1, 72, .inl df)), (aC, .inl (cA 0, 5, .inl bc)), (aB, .inl (cA 0, 64, .inl bf)), (a1, .inl (cA 0, 128, .inl (upd g1 X1.length (nI p)))), (a2, .inl (cA 0, 128, .inl (upd g2 X1.length (nI (o + 1))))), (a3, .inl (cA 0, 128, .inl (upd g3 X1.length (nI sd)))), (a4, .inl (cA 0, 128, .inl (upd g4 X1.length (nI k52))))] := hD
                      refine lv_aload_n hx hb d_Mo_tryAll_108 rfl (lv_at hl 1 rfl) ?_
                      refine lv_dup hx hb d_Mo_tryAll_109 rfl ?_
                      refine va_get (C := RX8) (T := TX8) (N := 43) hx hb hts inX8 hown hK hP 0 rfl rfl 21 (by decide) (hts _ m_866) (fun _ h9 => h9) rfl d_Mo_tryAll_110 ?_
                      refine lv_iconst (v := nI 1) hx hb d_Mo_tryAll_113 (by decide) ?_
                      refine wn_iadd hx hb d_Mo_tryAll_114 ?_
                      refine wn_nat (b := (X1 ++ [(p, o + 1, sd, k52)]).length) (by rw [List.length_append]; rfl) ?_
                      refine va_put (D := D) (ci := 8) (v := .int (nI ((X1 ++ [(p, o + 1, sd, k52)]).length))) (ty := .int) (C := RX8) (T := TX8) (N := 43) hx hb hts inX8 tyX8 tyX8_ok nmX8 hown hK hP hD hS 0 rfl rfl 21 (by decide) (hts _ m_866) (fun _ h9 => h9) rfl (by decide +kernel) rfl rfl (Nat.le_of_ble_eq_true rfl) d_Mo_tryAll_115 (fun H locs hP hD hS => ?_)
                      have hP : va_P D vwCl [(mo, .inr (8, [.int zt, .int (nI L.length), .ref ta, .int (nI np), .ref aN, .ref aS, .ref aC, .int (nI tot), .ref aB, .int (bz_c rd), .int (nI rt), .int (nI pl), .ref aR, .ref aO, .int (nI sg), .ref aW, .int (bz_c mp), .int (nI rn), .int (nI rs), .int (bz_c gd), .ref aD, .int (nI ((X1 ++ [(p, o + 1, sd, k52)]).length)), .ref a1, .ref a2, .ref a3, .ref a4, .int (nI td), .ref aL, .int (nI J.length), .ref aY, .int (nI ms), .ref aM, .int (nI ip), .int (nI it), .int ir, .int (nI il), .ref bN, .ref bS, .ref bC, .ref bB, .ref bR, .ref bO, .ref aU])), (aD, .inl (cA 1, 72, .inl df)), (aC, .inl (cA 0, 5, .inl bc)), (aB, .inl (cA 0, 64, .inl bf)), (a1, .inl (cA 0, 128, .inl (upd g1 X1.length (nI p)))), (a2, .inl (cA 0, 128, .inl (upd g2 X1.length (nI (o + 1))))), (a3, .inl (cA 0, 128, .inl (upd g3 X1.length (nI sd)))), (a4, .inl (cA 0, 128, .inl (upd g4 X1.length (nI k52))))] H := hP
                      have hD : va_D A [(mo, .inr (8, [.int zt, .int (nI L.length), .ref ta, .int (nI np), .ref aN, .ref aS, .ref aC, .int (nI tot), .ref aB, .int (bz_c rd), .int (nI rt), .int (nI pl), .ref aR, .ref aO, .int (nI sg), .ref aW, .int (bz_c mp), .int (nI rn), .int (nI rs), .int (bz_c gd), .ref aD, .int (nI ((X1 ++ [(p, o + 1, sd, k52)]).length)), .ref a1, .ref a2, .ref a3, .ref a4, .int (nI td), .ref aL, .int (nI J.length), .ref aY, .int (nI ms), .ref aM, .int (nI ip), .int (nI it), .int ir, .int (nI il), .ref bN, .ref bS, .ref bC, .ref bB, .ref bR, .ref bO, .ref aU])), (aD, .inl (cA 1, 72, .inl df)), (aC, .inl (cA 0, 5, .inl bc)), (aB, .inl (cA 0, 64, .inl bf)), (a1, .inl (cA 0, 128, .inl (upd g1 X1.length (nI p)))), (a2, .inl (cA 0, 128, .inl (upd g2 X1.length (nI (o + 1))))), (a3, .inl (cA 0, 128, .inl (upd g3 X1.length (nI sd)))), (a4, .inl (cA 0, 128, .inl (upd g4 X1.length (nI k52))))] := hD
                      refine lv_iinc (k := 6) (v := nI (sd + 1)) (lv' := [(5, .int (nI (sd + 1))), (6, .int (nI k52)), (0, .ref mo), (1, .int (nI kk)), (2, .int (nI b)), (3, .int (nI p)), (4, .int (nI o))]) hx hb d_Mo_tryAll_118 hl rfl (wi_inc1 _) (by decide) rfl (fun ls hl => ?_)
                      refine lv_goto (tgt := 39) hx hb d_Mo_tryAll_121 (by decide) ?_
                      exact ih39 _ (by omega) (sd + 1) (X1 ++ [(p, o + 1, sd, k52)]) (upd g1 X1.length (nI p)) (upd g2 X1.length (nI (o + 1))) (upd g3 X1.length (nI sd)) (upd g4 X1.length (nI k52)) _ _ _ rfl (by first | assumption | omega) (by first | exact ha_y hX (Nat.le_of_eq (os_ln hFl)) hmm (Or.inl (os_ln hFl)) (by omega) | exact ha_n hX (Nat.le_of_eq (os_ln hFl)) hmm (Or.inl (os_ln hFl)) (by omega)) (by first | exact hx_a1 h1g (by omega) | exact h1g) (by first | exact hx_a2 h2g (by omega) | exact h2g) (by first | exact hx_a3 h3g (by omega) | exact h3g) (by first | exact hx_a4 h4g (by omega) | exact h4g) hP hD hS (lv_sub hl [2, 3, 4, 5, 6, 0] rfl)
              exact L39 _ 0 X1 g1 g2 g3 g4 _ _ _ rfl (by first | assumption | omega) (by rw [hX]; exact (List.append_nil _).symm) (by first | assumption | omega) (by first | assumption | omega) (by first | assumption | omega) (by first | assumption | omega) hP hD hS (lv_sub hl [1, 2, 3, 4, 5, 0] rfl)
        exact L20 _ 0 X1 g1 g2 g3 g4 _ _ _ rfl (by first | assumption | omega) (by rw [hX]; exact (List.append_nil _).symm) (by first | assumption | omega) (by first | assumption | omega) (by first | assumption | omega) (by first | assumption | omega) hP hD hS (lv_sub hl [1, 2, 3, 4, 0] rfl)
  exact L9 _ 0 0 ([]) f1 f2 f3 f4 _ _ _ rfl (by first | assumption | omega) rfl rfl (cd_clear h1c) (cd_clear h2c) (cd_clear h3c) (cd_clear h4c) hP hD hS (lv_sub hl [2, 3, 1, 0] rfl)
theorem k_Mo_tryAll : cf_V y_Mo_tryAll b_Mo_tryAll 7 none "ReadMapperModel" 1 := ⟨⟨m_1073, (wm_s (q := (y_Mo_tryAll, 43)) (by decide +kernel)), m_9, m_1074⟩, by decide +kernel⟩
set_option maxHeartbeats 4000000 in
set_option maxRecDepth 100000 in
theorem c_Mo_map (l : Launch) (D : va_G) (cA : Nat → ClassId) (K : Nat → Nat) (mo ta aN aS aC aB aR aO aW aD a1 a2 a3 a4 aL aY aM bN bS bC bB bR bO aU : Nat) (rd mp gd : Bool) (zt ir : Int32) (np tot rt pl sg rn rs td ms ip it il : Nat) (L J : List Int32) (tf : Nat → Int32) (df : Nat → Int32) (bc : Nat → Int32) (bf : Nat → Int32) (q : Nat → Nat) (G : Nat → Int32) (f1 : Nat → Int32) (f2 : Nat → Int32) (f3 : Nat → Int32) (f4 : Nat → Int32) (X : List (Nat × Nat × Nat × Nat)) (kx : Int32) (hc : cd_r 72 tf L) (htx : ∀ j, j < L.length → ch_p (L.getD j 0)) (hrd : rd = true → (np ≤ 5) ∧ (tt_c q np ≤ 60) ∧ (∀ p, p < np → bc p = nI (q p)) ∧ (ly_p np q (fun p t => bf (tt_c q p + t)) G)) (h1c : cd_r 128 f1 (hp_c X)) (h2c : cd_r 128 f2 (hl_c X)) (h3c : cd_r 128 f3 (hs_c X)) (h4c : cd_r 128 f4 (hm_c X)) : ck_I l y_Mo_map (Cond.code y_Mo_map b_Mo_map 5 (some .int) :: w_all) 5 D cA K [.ref mo, .int kx] [(mo, .inr (8, [.int zt, .int (nI L.length), .ref ta, .int (nI np), .ref aN, .ref aS, .ref aC, .int (nI tot), .ref aB, .int (bz_c rd), .int (nI rt), .int (nI pl), .ref aR, .ref aO, .int (nI sg), .ref aW, .int (bz_c mp), .int (nI rn), .int (nI rs), .int (bz_c gd), .ref aD, .int (nI X.length), .ref a1, .ref a2, .ref a3, .ref a4, .int (nI td), .ref aL, .int (nI J.length), .ref aY, .int (nI ms), .ref aM, .int (nI ip), .int (nI it), .int ir, .int (nI il), .ref bN, .ref bS, .ref bC, .ref bB, .ref bR, .ref bO, .ref aU])), (ta, .inl (cA 1, 72, .inl tf)), (aD, .inl (cA 1, 72, .inl df)), (aC, .inl (cA 0, 5, .inl bc)), (aB, .inl (cA 0, 64, .inl bf)), (a1, .inl (cA 0, 128, .inl f1)), (a2, .inl (cA 0, 128, .inl f2)), (a3, .inl (cA 0, 128, .inl f3)), (a4, .inl (cA 0, 128, .inl f4))] (fun (r : Int32) (u : (Int32) × (Nat) × (Nat) × (Bool) × (Bool) × (Nat) × (Nat → Int32) × (List (Nat × Nat × Nat × Nat)) × (Nat → Int32) × (Nat → Int32) × (Nat → Int32) × (Nat → Int32)) => cd_r 72 tf [] ∧ (cd_r 128 u.2.2.2.2.2.2.2.2.1 (hp_c u.2.2.2.2.2.2.2.1) ∧ cd_r 128 u.2.2.2.2.2.2.2.2.2.1 (hl_c u.2.2.2.2.2.2.2.1) ∧ cd_r 128 u.2.2.2.2.2.2.2.2.2.2.1 (hs_c u.2.2.2.2.2.2.2.1) ∧ cd_r 128 u.2.2.2.2.2.2.2.2.2.2.2 (hm_c u.2.2.2.2.2.2.2.1)) ∧ ((u.1 = 1 ∧ ¬ ((∃ k e, pr_ok L k e) ∧ ¬ kx < 0 ∧ kx ≤ nI 3) ∧ u.2.1 = rn ∧ u.2.2.1 = rs ∧ u.2.2.2.1 = gd ∧ u.2.2.2.2.1 = mp ∧ u.2.2.2.2.2.2.1 = df ∧ u.2.2.2.2.2.2.2.1 = X) ∨ (u.1 = 2 ∧ ((∃ k e, pr_ok L k e) ∧ ¬ kx < 0 ∧ kx ≤ nI 3) ∧ rd = false ∧ u.2.1 = rn ∧ u.2.2.1 = rs ∧ u.2.2.2.1 = gd ∧ u.2.2.2.2.1 = mp ∧ u.2.2.2.2.2.2.1 = df ∧ u.2.2.2.2.2.2.2.1 = X) ∨ (u.1 = 0 ∧ ((∃ k e, pr_ok L k e) ∧ ¬ kx < 0 ∧ kx ≤ nI 3) ∧ rd = true ∧ u.2.2.2.2.1 = true ∧ ∃ k e kk, pr_ok L k e ∧ kk ≤ 3 ∧ kx = nI kk ∧ u.2.1 = k ∧ k + 1 + u.2.2.1 = e ∧ ((u.2.2.2.1 = true ∧ e < L.length) ∨ (u.2.2.2.1 = false ∧ e = L.length)) ∧ cd_r 72 u.2.2.2.2.2.2.1 L ∧ u.2.2.2.2.2.2.2.1 = hn_c G q ((sl_p L (k + 1) e).map sy_c) (tb_c ((sl_p L (k + 1) e).map sy_c) 0) kk np ∧ r = nI u.2.2.2.2.2.2.2.1.length))) (fun u => [(mo, .inr (8, [.int u.1, .int (nI (([] : List Int32).length)), .ref ta, .int (nI np), .ref aN, .ref aS, .ref aC, .int (nI tot), .ref aB, .int (bz_c rd), .int (nI rt), .int (nI pl), .ref aR, .ref aO, .int (nI sg), .ref aW, .int (bz_c u.2.2.2.2.1), .int (nI u.2.1), .int (nI u.2.2.1), .int (bz_c u.2.2.2.1), .ref aD, .int (nI u.2.2.2.2.2.2.2.1.length), .ref a1, .ref a2, .ref a3, .ref a4, .int (nI u.2.2.2.2.2.1), .ref aL, .int (nI J.length), .ref aY, .int (nI ms), .ref aM, .int (nI ip), .int (nI it), .int ir, .int (nI il), .ref bN, .ref bS, .ref bC, .ref bB, .ref bR, .ref bO, .ref aU])), (ta, .inl (cA 1, 72, .inl tf)), (aD, .inl (cA 1, 72, .inl u.2.2.2.2.2.2.1)), (aC, .inl (cA 0, 5, .inl bc)), (aB, .inl (cA 0, 64, .inl bf)), (a1, .inl (cA 0, 128, .inl u.2.2.2.2.2.2.2.2.1)), (a2, .inl (cA 0, 128, .inl u.2.2.2.2.2.2.2.2.2.1)), (a3, .inl (cA 0, 128, .inl u.2.2.2.2.2.2.2.2.2.2.1)), (a4, .inl (cA 0, 128, .inl u.2.2.2.2.2.2.2.2.2.2.2))]) := by
  refine ck_mkI (by decide) (fun _ _ _ => rfl) (Nat.le_of_ble_eq_true rfl) ?_
  intro pG eG sG mG argsG belowG methG cG Q A H locs ls hx hb hml hown hts hK hE hA hP hD hS hl hret
  have hl : lv_has ls 5 [(0, .ref mo), (1, .int kx)] := hl
  have hl1 := cd_len hc
  have hl0 := hc.1
  refine lv_aload_n hx hb d_Mo_map_0 rfl (lv_at hl 0 rfl) ?_
  refine ck_cV (C := "ReadMapperModel") (ci := 8) (rest := []) (wr := [(aD, .inl (cA 1, 72, .inl df)), (aC, .inl (cA 0, 5, .inl bc)), (aB, .inl (cA 0, 64, .inl bf)), (a1, .inl (cA 0, 128, .inl f1)), (a2, .inl (cA 0, 128, .inl f2)), (a3, .inl (cA 0, 128, .inl f3)), (a4, .inl (cA 0, 128, .inl f4))]) (ws2 := fun u => [(mo, .inr (8, [.int zt, .int (nI L.length), .ref ta, .int (nI np), .ref aN, .ref aS, .ref aC, .int (nI tot), .ref aB, .int (bz_c rd), .int (nI rt), .int (nI pl), .ref aR, .ref aO, .int (nI sg), .ref aW, .int (bz_c mp), .int (nI rn), .int (nI rs), .int (bz_c gd), .ref aD, .int (nI X.length), .ref a1, .ref a2, .ref a3, .ref a4, .int (nI u), .ref aL, .int (nI J.length), .ref aY, .int (nI ms), .ref aM, .int (nI ip), .int (nI it), .int ir, .int (nI il), .ref bN, .ref bS, .ref bC, .ref bB, .ref bR, .ref bO, .ref aU])), (ta, .inl (cA 1, 72, .inl tf)), (aD, .inl (cA 1, 72, .inl df)), (aC, .inl (cA 0, 5, .inl bc)), (aB, .inl (cA 0, 64, .inl bf)), (a1, .inl (cA 0, 128, .inl f1)), (a2, .inl (cA 0, 128, .inl f2)), (a3, .inl (cA 0, 128, .inl f3)), (a4, .inl (cA 0, 128, .inl f4))]) (c_Mo_isRead l D cA K mo ta aN aS aC aB aR aO aW aD a1 a2 a3 a4 aL aY aM bN bS bC bB bR bO aU rd mp gd zt ir np tot rt pl sg rn rs X.length td ms ip it il L J tf (by first | assumption | omega)) hx hb hml hown hts hK hE hA hP hD hS k_Mo_isRead m_1067 (by decide) 0 rfl rfl rfl hl.1 rfl (Nat.le_of_ble_eq_true rfl) d_Mo_map_1  [0, 1] [2, 3, 4, 5, 6, 7, 8] [7, 8, 0, 1, 2, 3, 4, 5, 6] rfl rfl (by decide) (fun _ => rfl) (fun r1 u1 H locs hq1 hP hD hS => ?_)
  obtain ⟨td2_1, rfl⟩ : ∃ z, z = u1 := ⟨_, rfl⟩
  try dsimp only at hq1
  have hP : va_P D vwCl [(mo, .inr (8, [.int zt, .int (nI L.length), .ref ta, .int (nI np), .ref aN, .ref aS, .ref aC, .int (nI tot), .ref aB, .int (bz_c rd), .int (nI rt), .int (nI pl), .ref aR, .ref aO, .int (nI sg), .ref aW, .int (bz_c mp), .int (nI rn), .int (nI rs), .int (bz_c gd), .ref aD, .int (nI X.length), .ref a1, .ref a2, .ref a3, .ref a4, .int (nI td2_1), .ref aL, .int (nI J.length), .ref aY, .int (nI ms), .ref aM, .int (nI ip), .int (nI it), .int ir, .int (nI il), .ref bN, .ref bS, .ref bC, .ref bB, .ref bR, .ref bO, .ref aU])), (ta, .inl (cA 1, 72, .inl tf)), (aD, .inl (cA 1, 72, .inl df)), (aC, .inl (cA 0, 5, .inl bc)), (aB, .inl (cA 0, 64, .inl bf)), (a1, .inl (cA 0, 128, .inl f1)), (a2, .inl (cA 0, 128, .inl f2)), (a3, .inl (cA 0, 128, .inl f3)), (a4, .inl (cA 0, 128, .inl f4))] H := hP
  have hD : va_D A [(mo, .inr (8, [.int zt, .int (nI L.length), .ref ta, .int (nI np), .ref aN, .ref aS, .ref aC, .int (nI tot), .ref aB, .int (bz_c rd), .int (nI rt), .int (nI pl), .ref aR, .ref aO, .int (nI sg), .ref aW, .int (bz_c mp), .int (nI rn), .int (nI rs), .int (bz_c gd), .ref aD, .int (nI X.length), .ref a1, .ref a2, .ref a3, .ref a4, .int (nI td2_1), .ref aL, .int (nI J.length), .ref aY, .int (nI ms), .ref aM, .int (nI ip), .int (nI it), .int ir, .int (nI il), .ref bN, .ref bS, .ref bC, .ref bB, .ref bR, .ref bO, .ref aU])), (ta, .inl (cA 1, 72, .inl tf)), (aD, .inl (cA 1, 72, .inl df)), (aC, .inl (cA 0, 5, .inl bc)), (aB, .inl (cA 0, 64, .inl bf)), (a1, .inl (cA 0, 128, .inl f1)), (a2, .inl (cA 0, 128, .inl f2)), (a3, .inl (cA 0, 128, .inl f3)), (a4, .inl (cA 0, 128, .inl f4))] := hD
  rcases hq1 with ⟨rfl, hq1⟩ | ⟨rfl, hq1⟩
  ·
    obtain ⟨k0, e0, hpr, htd⟩ := hq1
    have hpb := pr_b hl0 hpr
    refine lv_istore_n (lv' := [(2, .int 1), (0, .ref mo), (1, .int kx)]) hx hb d_Mo_map_4 rfl hl (by decide) rfl (fun ls hl => ?_)
    refine lv_aload_n hx hb d_Mo_map_5 rfl (lv_at hl 1 rfl) ?_
    refine va_get (C := RX8) (T := TX8) (N := 43) hx hb hts inX8 hown hK hP 0 rfl rfl 26 (by decide) (hts _ m_871) (fun _ h9 => h9) rfl d_Mo_map_6 ?_
    refine lv_istore_n (lv' := [(3, .int (nI td2_1)), (2, .int 1), (0, .ref mo), (1, .int kx)]) hx hb d_Mo_map_9 rfl hl (by decide) rfl (fun ls hl => ?_)
    refine lv_aload_n hx hb d_Mo_map_10 rfl (lv_at hl 2 rfl) ?_
    refine lv_iload_n hx hb d_Mo_map_11 rfl (lv_at hl 1 rfl) ?_
    refine lv_if_eq (tgt := 24) hx hb d_Mo_map_12 (by decide) (fun h9 => absurd h9 (by decide)) (fun _ => ?_)
    refine lv_iload_n hx hb d_Mo_map_15 rfl (lv_at hl 3 rfl) ?_
    refine lv_if_lt (tgt := 24) hx hb d_Mo_map_16 (by decide) ?_ ?_
    · intro h16
      refine lv_iconst (v := nI 1) hx hb d_Mo_map_24 (by decide) ?_
      refine lv_goto (tgt := 40) hx hb d_Mo_map_25 (by decide) ?_
      refine va_put (D := D) (ci := 8) (v := .int (nI 1)) (ty := .int) (C := RX8) (T := TX8) (N := 43) hx hb hts inX8 tyX8 tyX8_ok nmX8 hown hK hP hD hS 0 rfl rfl 0 (by decide) (hts _ m_845) (fun _ h9 => h9) rfl (by decide +kernel) rfl rfl (Nat.le_of_ble_eq_true rfl) d_Mo_map_40 (fun H locs hP hD hS => ?_)
      have hP : va_P D vwCl [(mo, .inr (8, [.int (nI 1), .int (nI L.length), .ref ta, .int (nI np), .ref aN, .ref aS, .ref aC, .int (nI tot), .ref aB, .int (bz_c rd), .int (nI rt), .int (nI pl), .ref aR, .ref aO, .int (nI sg), .ref aW, .int (bz_c mp), .int (nI rn), .int (nI rs), .int (bz_c gd), .ref aD, .int (nI X.length), .ref a1, .ref a2, .ref a3, .ref a4, .int (nI td2_1), .ref aL, .int (nI J.length), .ref aY, .int (nI ms), .ref aM, .int (nI ip), .int (nI it), .int ir, .int (nI il), .ref bN, .ref bS, .ref bC, .ref bB, .ref bR, .ref bO, .ref aU])), (ta, .inl (cA 1, 72, .inl tf)), (aD, .inl (cA 1, 72, .inl df)), (aC, .inl (cA 0, 5, .inl bc)), (aB, .inl (cA 0, 64, .inl bf)), (a1, .inl (cA 0, 128, .inl f1)), (a2, .inl (cA 0, 128, .inl f2)), (a3, .inl (cA 0, 128, .inl f3)), (a4, .inl (cA 0, 128, .inl f4))] H := hP
      have hD : va_D A [(mo, .inr (8, [.int (nI 1), .int (nI L.length), .ref ta, .int (nI np), .ref aN, .ref aS, .ref aC, .int (nI tot), .ref aB, .int (bz_c rd), .int (nI rt), .int (nI pl), .ref aR, .ref aO, .int (nI sg), .ref aW, .int (bz_c mp), .int (nI rn), .int (nI rs), .int (bz_c gd), .ref aD, .int (nI X.length), .ref a1, .ref a2, .ref a3, .ref a4, .int (nI td2_1), .ref aL, .int (nI J.length), .ref aY, .int (nI ms), .ref aM, .int (nI ip), .int (nI it), .int ir, .int (nI il), .ref bN, .ref bS, .ref bC, .ref bB, .ref bR, .ref bO, .ref aU])), (ta, .inl (cA 1, 72, .inl tf)), (aD, .inl (cA 1, 72, .inl df)), (aC, .inl (cA 0, 5, .inl bc)), (aB, .inl (cA 0, 64, .inl bf)), (a1, .inl (cA 0, 128, .inl f1)), (a2, .inl (cA 0, 128, .inl f2)), (a3, .inl (cA 0, 128, .inl f3)), (a4, .inl (cA 0, 128, .inl f4))] := hD
      refine lv_aload_n hx hb d_Mo_map_43 rfl (lv_at hl 2 rfl) ?_
      refine va_get (C := RX8) (T := TX8) (N := 43) hx hb hts inX8 hown hK hP 0 rfl rfl 0 (by decide) (hts _ m_845) (fun _ h9 => h9) rfl d_Mo_map_44 ?_
      refine lv_if_ne (tgt := 129) hx hb d_Mo_map_47 (by decide) (fun _ => ?_) (fun h9 => absurd h9 (by decide))
      refine lv_aload_n hx hb d_Mo_map_129 rfl (lv_at hl 2 rfl) ?_
      refine lv_iconst (v := nI (([] : List Int32).length)) hx hb d_Mo_map_130 rfl ?_
      refine va_put (D := D) (ci := 8) (v := .int (nI (([] : List Int32).length))) (ty := .int) (C := RX8) (T := TX8) (N := 43) hx hb hts inX8 tyX8 tyX8_ok nmX8 hown hK hP hD hS 0 rfl rfl 1 (by decide) (hts _ m_846) (fun _ h9 => h9) rfl (by decide +kernel) rfl rfl (Nat.le_of_ble_eq_true rfl) d_Mo_map_131 (fun H locs hP hD hS => ?_)
      have hP : va_P D vwCl [(mo, .inr (8, [.int (nI 1), .int (nI (([] : List Int32).length)), .ref ta, .int (nI np), .ref aN, .ref aS, .ref aC, .int (nI tot), .ref aB, .int (bz_c rd), .int (nI rt), .int (nI pl), .ref aR, .ref aO, .int (nI sg), .ref aW, .int (bz_c mp), .int (nI rn), .int (nI rs), .int (bz_c gd), .ref aD, .int (nI X.length), .ref a1, .ref a2, .ref a3, .ref a4, .int (nI td2_1), .ref aL, .int (nI J.length), .ref aY, .int (nI ms), .ref aM, .int (nI ip), .int (nI it), .int ir, .int (nI il), .ref bN, .ref bS, .ref bC, .ref bB, .ref bR, .ref bO, .ref aU])), (ta, .inl (cA 1, 72, .inl tf)), (aD, .inl (cA 1, 72, .inl df)), (aC, .inl (cA 0, 5, .inl bc)), (aB, .inl (cA 0, 64, .inl bf)), (a1, .inl (cA 0, 128, .inl f1)), (a2, .inl (cA 0, 128, .inl f2)), (a3, .inl (cA 0, 128, .inl f3)), (a4, .inl (cA 0, 128, .inl f4))] H := hP
      have hD : va_D A [(mo, .inr (8, [.int (nI 1), .int (nI (([] : List Int32).length)), .ref ta, .int (nI np), .ref aN, .ref aS, .ref aC, .int (nI tot), .ref aB, .int (bz_c rd), .int (nI rt), .int (nI pl), .ref aR, .ref aO, .int (nI sg), .ref aW, .int (bz_c mp), .int (nI rn), .int (nI rs), .int (bz_c gd), .ref aD, .int (nI X.length), .ref a1, .ref a2, .ref a3, .ref a4, .int (nI td2_1), .ref aL, .int (nI J.length), .ref aY, .int (nI ms), .ref aM, .int (nI ip), .int (nI it), .int ir, .int (nI il), .ref bN, .ref bS, .ref bC, .ref bB, .ref bR, .ref bO, .ref aU])), (ta, .inl (cA 1, 72, .inl tf)), (aD, .inl (cA 1, 72, .inl df)), (aC, .inl (cA 0, 5, .inl bc)), (aB, .inl (cA 0, 64, .inl bf)), (a1, .inl (cA 0, 128, .inl f1)), (a2, .inl (cA 0, 128, .inl f2)), (a3, .inl (cA 0, 128, .inl f3)), (a4, .inl (cA 0, 128, .inl f4))] := hD
      refine lv_aload_n hx hb d_Mo_map_134 rfl (lv_at hl 2 rfl) ?_
      refine va_get (C := RX8) (T := TX8) (N := 43) hx hb hts inX8 hown hK hP 0 rfl rfl 0 (by decide) (hts _ m_845) (fun _ h9 => h9) rfl d_Mo_map_135 ?_
      refine lv_if_ne (tgt := 148) hx hb d_Mo_map_138 (by decide) (fun _ => ?_) (fun h9 => absurd h9 (by decide))
      refine lv_iconst (v := nI 0) hx hb d_Mo_map_148 (by decide) ?_
      exact hret (nI 0) (nI 1, rn, rs, gd, mp, td2_1, df, X, f1, f2, f3, f4) _ _ _ 149 d_Mo_map_149 (by first | exact ⟨cd_clear hc, ⟨h1c, h2c, h3c, h4c⟩, Or.inl ⟨rfl, fun y => hq1 y.1, rfl, rfl, rfl, rfl, rfl, rfl⟩⟩ | exact ⟨cd_clear hc, ⟨h1c, h2c, h3c, h4c⟩, Or.inl ⟨rfl, fun y => y.2.1 h16, rfl, rfl, rfl, rfl, rfl, rfl⟩⟩ | exact ⟨cd_clear hc, ⟨h1c, h2c, h3c, h4c⟩, Or.inl ⟨rfl, fun y => h21 y.2.2, rfl, rfl, rfl, rfl, rfl, rfl⟩⟩ | exact ⟨cd_clear hc, ⟨h1c, h2c, h3c, h4c⟩, Or.inr (Or.inl ⟨rfl, ⟨⟨k0, e0, hpr⟩, h16, h21⟩, bz_0 h32, rfl, rfl, rfl, rfl, rfl, rfl⟩)⟩) hP hD hS
    · intro h16
      refine lv_iload_n hx hb d_Mo_map_19 rfl (lv_at hl 3 rfl) ?_
      refine lv_iconst (v := nI 3) hx hb d_Mo_map_20 (by decide) ?_
      refine lv_icmp_le (tgt := 28) hx hb d_Mo_map_21 (by decide) ?_ ?_
      · intro h21
        refine lv_aload_n hx hb d_Mo_map_28 rfl (lv_at hl 2 rfl) ?_
        refine va_get (C := RX8) (T := TX8) (N := 43) hx hb hts inX8 hown hK hP 0 rfl rfl 9 (by decide) (hts _ m_854) (fun _ h9 => h9) rfl d_Mo_map_29 ?_
        refine lv_if_ne (tgt := 39) hx hb d_Mo_map_32 (by decide) ?_ ?_
        · intro h32
          refine lv_iconst (v := nI 0) hx hb d_Mo_map_39 (by decide) ?_
          refine va_put (D := D) (ci := 8) (v := .int (nI 0)) (ty := .int) (C := RX8) (T := TX8) (N := 43) hx hb hts inX8 tyX8 tyX8_ok nmX8 hown hK hP hD hS 0 rfl rfl 0 (by decide) (hts _ m_845) (fun _ h9 => h9) rfl (by decide +kernel) rfl rfl (Nat.le_of_ble_eq_true rfl) d_Mo_map_40 (fun H locs hP hD hS => ?_)
          have hP : va_P D vwCl [(mo, .inr (8, [.int (nI 0), .int (nI L.length), .ref ta, .int (nI np), .ref aN, .ref aS, .ref aC, .int (nI tot), .ref aB, .int (bz_c rd), .int (nI rt), .int (nI pl), .ref aR, .ref aO, .int (nI sg), .ref aW, .int (bz_c mp), .int (nI rn), .int (nI rs), .int (bz_c gd), .ref aD, .int (nI X.length), .ref a1, .ref a2, .ref a3, .ref a4, .int (nI td2_1), .ref aL, .int (nI J.length), .ref aY, .int (nI ms), .ref aM, .int (nI ip), .int (nI it), .int ir, .int (nI il), .ref bN, .ref bS, .ref bC, .ref bB, .ref bR, .ref bO, .ref aU])), (ta, .inl (cA 1, 72, .inl tf)), (aD, .inl (cA 1, 72, .inl df)), (aC, .inl (cA 0, 5, .inl bc)), (aB, .inl (cA 0, 64, .inl bf)), (a1, .inl (cA 0, 128, .inl f1)), (a2, .inl (cA 0, 128, .inl f2)), (a3, .inl (cA 0, 128, .inl f3)), (a4, .inl (cA 0, 128, .inl f4))] H := hP
          have hD : va_D A [(mo, .inr (8, [.int (nI 0), .int (nI L.length), .ref ta, .int (nI np), .ref aN, .ref aS, .ref aC, .int (nI tot), .ref aB, .int (bz_c rd), .int (nI rt), .int (nI pl), .ref aR, .ref aO, .int (nI sg), .ref aW, .int (bz_c mp), .int (nI rn), .int (nI rs), .int (bz_c gd), .ref aD, .int (nI X.length), .ref a1, .ref a2, .ref a3, .ref a4, .int (nI td2_1), .ref aL, .int (nI J.length), .ref aY, .int (nI ms), .ref aM, .int (nI ip), .int (nI it), .int ir, .int (nI il), .ref bN, .ref bS, .ref bC, .ref bB, .ref bR, .ref bO, .ref aU])), (ta, .inl (cA 1, 72, .inl tf)), (aD, .inl (cA 1, 72, .inl df)), (aC, .inl (cA 0, 5, .inl bc)), (aB, .inl (cA 0, 64, .inl bf)), (a1, .inl (cA 0, 128, .inl f1)), (a2, .inl (cA 0, 128, .inl f2)), (a3, .inl (cA 0, 128, .inl f3)), (a4, .inl (cA 0, 128, .inl f4))] := hD
          refine lv_aload_n hx hb d_Mo_map_43 rfl (lv_at hl 2 rfl) ?_
          refine va_get (C := RX8) (T := TX8) (N := 43) hx hb hts inX8 hown hK hP 0 rfl rfl 0 (by decide) (hts _ m_845) (fun _ h9 => h9) rfl d_Mo_map_44 ?_
          refine lv_if_ne (tgt := 129) hx hb d_Mo_map_47 (by decide) (fun h9 => absurd h9 (by decide)) (fun _ => ?_)
          obtain ⟨kk, hkk, rfl⟩ := nI_of2 (nI_toInt (show 3 < 2 ^ 31 by omega)) h16 h21
          refine lv_aload_n hx hb d_Mo_map_50 rfl (lv_at hl 2 rfl) ?_
          refine lv_aload_n hx hb d_Mo_map_51 rfl (lv_at hl 2 rfl) ?_
          refine ck_cV (C := "ReadMapperModel") (ci := 8) (rest := [.ref mo]) (wr := [(aD, .inl (cA 1, 72, .inl df)), (aC, .inl (cA 0, 5, .inl bc)), (aB, .inl (cA 0, 64, .inl bf)), (a1, .inl (cA 0, 128, .inl f1)), (a2, .inl (cA 0, 128, .inl f2)), (a3, .inl (cA 0, 128, .inl f3)), (a4, .inl (cA 0, 128, .inl f4))]) (ws2 := fun u => [(mo, .inr (8, [.int (nI 0), .int (nI L.length), .ref ta, .int (nI np), .ref aN, .ref aS, .ref aC, .int (nI tot), .ref aB, .int (bz_c rd), .int (nI rt), .int (nI pl), .ref aR, .ref aO, .int (nI sg), .ref aW, .int (bz_c mp), .int (nI rn), .int (nI rs), .int (bz_c gd), .ref aD, .int (nI X.length), .ref a1, .ref a2, .ref a3, .ref a4, .int (nI td2_1), .ref aL, .int (nI J.length), .ref aY, .int (nI ms), .ref aM, .int (nI ip), .int (nI it), .int ir, .int (nI il), .ref bN, .ref bS, .ref bC, .ref bB, .ref bR, .ref bO, .ref aU])), (ta, .inl (cA 1, 72, .inl tf)), (aD, .inl (cA 1, 72, .inl df)), (aC, .inl (cA 0, 5, .inl bc)), (aB, .inl (cA 0, 64, .inl bf)), (a1, .inl (cA 0, 128, .inl f1)), (a2, .inl (cA 0, 128, .inl f2)), (a3, .inl (cA 0, 128, .inl f3)), (a4, .inl (cA 0, 128, .inl f4))]) (c_Mo_nameLength l D cA K mo ta aN aS aC aB aR aO aW aD a1 a2 a3 a4 aL aY aM bN bS bC bB bR bO aU rd mp gd (nI 0) ir np tot rt pl sg rn rs X.length td2_1 ms ip it il L J tf (by first | assumption | omega)) hx hb hml hown hts hK hE hA hP hD hS k_Mo_nameLength m_989 (by decide) 0 rfl rfl rfl hl.1 rfl (Nat.le_of_ble_eq_true rfl) d_Mo_map_52  [0, 1] [2, 3, 4, 5, 6, 7, 8] [7, 8, 0, 1, 2, 3, 4, 5, 6] rfl rfl (by decide) (fun _ => rfl) (fun r52 u52 H locs hq52 hP hD hS => ?_)
          try dsimp only at hq52
          have hP : va_P D vwCl [(mo, .inr (8, [.int (nI 0), .int (nI L.length), .ref ta, .int (nI np), .ref aN, .ref aS, .ref aC, .int (nI tot), .ref aB, .int (bz_c rd), .int (nI rt), .int (nI pl), .ref aR, .ref aO, .int (nI sg), .ref aW, .int (bz_c mp), .int (nI rn), .int (nI rs), .int (bz_c gd), .ref aD, .int (nI X.length), .ref a1, .ref a2, .ref a3, .ref a4, .int (nI td2_1), .ref aL, .int (nI J.length), .ref aY, .int (nI ms), .ref aM, .int (nI ip), .int (nI it), .int ir, .int (nI il), .ref bN, .ref bS, .ref bC, .ref bB, .ref bR, .ref bO, .ref aU])), (ta, .inl (cA 1, 72, .inl tf)), (aD, .inl (cA 1, 72, .inl df)), (aC, .inl (cA 0, 5, .inl bc)), (aB, .inl (cA 0, 64, .inl bf)), (a1, .inl (cA 0, 128, .inl f1)), (a2, .inl (cA 0, 128, .inl f2)), (a3, .inl (cA 0, 128, .inl f3)), (a4, .inl (cA 0, 128, .inl f4))] H := hP
          have hD : va_D A [(mo, .inr (8, [.int (nI 0), .int (nI L.length), .ref ta, .int (nI np), .ref aN, .ref aS, .ref aC, .int (nI tot), .ref aB, .int (bz_c rd), .int (nI rt), .int (nI pl), .ref aR, .ref aO, .int (nI sg), .ref aW, .int (bz_c mp), .int (nI rn), .int (nI rs), .int (bz_c gd), .ref aD, .int (nI X.length), .ref a1, .ref a2, .ref a3, .ref a4, .int (nI td2_1), .ref aL, .int (nI J.length), .ref aY, .int (nI ms), .ref aM, .int (nI ip), .int (nI it), .int ir, .int (nI il), .ref bN, .ref bS, .ref bC, .ref bB, .ref bR, .ref bO, .ref aU])), (ta, .inl (cA 1, 72, .inl tf)), (aD, .inl (cA 1, 72, .inl df)), (aC, .inl (cA 0, 5, .inl bc)), (aB, .inl (cA 0, 64, .inl bf)), (a1, .inl (cA 0, 128, .inl f1)), (a2, .inl (cA 0, 128, .inl f2)), (a3, .inl (cA 0, 128, .inl f3)), (a4, .inl (cA 0, 128, .inl f4))] := hD
          obtain ⟨k52, rfl, hq52⟩ := hq52
          have ek := nl_un hq52 (pr_nl hpr)
          subst ek
          have he0 : k52 + 1 + td2_1 = e0 := by omega
          refine va_put (D := D) (ci := 8) (v := .int (nI k52)) (ty := .int) (C := RX8) (T := TX8) (N := 43) hx hb hts inX8 tyX8 tyX8_ok nmX8 hown hK hP hD hS 0 rfl rfl 17 (by decide) (hts _ m_862) (fun _ h9 => h9) rfl (by decide +kernel) rfl rfl (Nat.le_of_ble_eq_true rfl) d_Mo_map_55 (fun H locs hP hD hS => ?_)
          have hP : va_P D vwCl [(mo, .inr (8, [.int (nI 0), .int (nI L.length), .ref ta, .int (nI np), .ref aN, .ref aS, .ref aC, .int (nI tot), .ref aB, .int (bz_c rd), .int (nI rt), .int (nI pl), .ref aR, .ref aO, .int (nI sg), .ref aW, .int (bz_c mp), .int (nI k52), .int (nI rs), .int (bz_c gd), .ref aD, .int (nI X.length), .ref a1, .ref a2, .ref a3, .ref a4, .int (nI td2_1), .ref aL, .int (nI J.length), .ref aY, .int (nI ms), .ref aM, .int (nI ip), .int (nI it), .int ir, .int (nI il), .ref bN, .ref bS, .ref bC, .ref bB, .ref bR, .ref bO, .ref aU])), (ta, .inl (cA 1, 72, .inl tf)), (aD, .inl (cA 1, 72, .inl df)), (aC, .inl (cA 0, 5, .inl bc)), (aB, .inl (cA 0, 64, .inl bf)), (a1, .inl (cA 0, 128, .inl f1)), (a2, .inl (cA 0, 128, .inl f2)), (a3, .inl (cA 0, 128, .inl f3)), (a4, .inl (cA 0, 128, .inl f4))] H := hP
          have hD : va_D A [(mo, .inr (8, [.int (nI 0), .int (nI L.length), .ref ta, .int (nI np), .ref aN, .ref aS, .ref aC, .int (nI tot), .ref aB, .int (bz_c rd), .int (nI rt), .int (nI pl), .ref aR, .ref aO, .int (nI sg), .ref aW, .int (bz_c mp), .int (nI k52), .int (nI rs), .int (bz_c gd), .ref aD, .int (nI X.length), .ref a1, .ref a2, .ref a3, .ref a4, .int (nI td2_1), .ref aL, .int (nI J.length), .ref aY, .int (nI ms), .ref aM, .int (nI ip), .int (nI it), .int ir, .int (nI il), .ref bN, .ref bS, .ref bC, .ref bB, .ref bR, .ref bO, .ref aU])), (ta, .inl (cA 1, 72, .inl tf)), (aD, .inl (cA 1, 72, .inl df)), (aC, .inl (cA 0, 5, .inl bc)), (aB, .inl (cA 0, 64, .inl bf)), (a1, .inl (cA 0, 128, .inl f1)), (a2, .inl (cA 0, 128, .inl f2)), (a3, .inl (cA 0, 128, .inl f3)), (a4, .inl (cA 0, 128, .inl f4))] := hD
          refine lv_aload_n hx hb d_Mo_map_58 rfl (lv_at hl 2 rfl) ?_
          refine lv_iload_n hx hb d_Mo_map_59 rfl (lv_at hl 0 rfl) ?_
          refine va_put (D := D) (ci := 8) (v := .int (nI td2_1)) (ty := .int) (C := RX8) (T := TX8) (N := 43) hx hb hts inX8 tyX8 tyX8_ok nmX8 hown hK hP hD hS 0 rfl rfl 18 (by decide) (hts _ m_863) (fun _ h9 => h9) rfl (by decide +kernel) rfl rfl (Nat.le_of_ble_eq_true rfl) d_Mo_map_60 (fun H locs hP hD hS => ?_)
          have hP : va_P D vwCl [(mo, .inr (8, [.int (nI 0), .int (nI L.length), .ref ta, .int (nI np), .ref aN, .ref aS, .ref aC, .int (nI tot), .ref aB, .int (bz_c rd), .int (nI rt), .int (nI pl), .ref aR, .ref aO, .int (nI sg), .ref aW, .int (bz_c mp), .int (nI k52), .int (nI td2_1), .int (bz_c gd), .ref aD, .int (nI X.length), .ref a1, .ref a2, .ref a3, .ref a4, .int (nI td2_1), .ref aL, .int (nI J.length), .ref aY, .int (nI ms), .ref aM, .int (nI ip), .int (nI it), .int ir, .int (nI il), .ref bN, .ref bS, .ref bC, .ref bB, .ref bR, .ref bO, .ref aU])), (ta, .inl (cA 1, 72, .inl tf)), (aD, .inl (cA 1, 72, .inl df)), (aC, .inl (cA 0, 5, .inl bc)), (aB, .inl (cA 0, 64, .inl bf)), (a1, .inl (cA 0, 128, .inl f1)), (a2, .inl (cA 0, 128, .inl f2)), (a3, .inl (cA 0, 128, .inl f3)), (a4, .inl (cA 0, 128, .inl f4))] H := hP
          have hD : va_D A [(mo, .inr (8, [.int (nI 0), .int (nI L.length), .ref ta, .int (nI np), .ref aN, .ref aS, .ref aC, .int (nI tot), .ref aB, .int (bz_c rd), .int (nI rt), .int (nI pl), .ref aR, .ref aO, .int (nI sg), .ref aW, .int (bz_c mp), .int (nI k52), .int (nI td2_1), .int (bz_c gd), .ref aD, .int (nI X.length), .ref a1, .ref a2, .ref a3, .ref a4, .int (nI td2_1), .ref aL, .int (nI J.length), .ref aY, .int (nI ms), .ref aM, .int (nI ip), .int (nI it), .int ir, .int (nI il), .ref bN, .ref bS, .ref bC, .ref bB, .ref bR, .ref bO, .ref aU])), (ta, .inl (cA 1, 72, .inl tf)), (aD, .inl (cA 1, 72, .inl df)), (aC, .inl (cA 0, 5, .inl bc)), (aB, .inl (cA 0, 64, .inl bf)), (a1, .inl (cA 0, 128, .inl f1)), (a2, .inl (cA 0, 128, .inl f2)), (a3, .inl (cA 0, 128, .inl f3)), (a4, .inl (cA 0, 128, .inl f4))] := hD
          refine lv_aload_n hx hb d_Mo_map_63 rfl (lv_at hl 2 rfl) ?_
          refine lv_aload_n hx hb d_Mo_map_64 rfl (lv_at hl 2 rfl) ?_
          refine va_get (C := RX8) (T := TX8) (N := 43) hx hb hts inX8 hown hK hP 0 rfl rfl 1 (by decide) (hts _ m_846) (fun _ h9 => h9) rfl d_Mo_map_65 ?_
          refine lv_aload_n hx hb d_Mo_map_68 rfl (lv_at hl 2 rfl) ?_
          refine va_get (C := RX8) (T := TX8) (N := 43) hx hb hts inX8 hown hK hP 0 rfl rfl 17 (by decide) (hts _ m_862) (fun _ h9 => h9) rfl d_Mo_map_69 ?_
          refine lv_iconst (v := nI 1) hx hb d_Mo_map_72 (by decide) ?_
          refine wn_iadd hx hb d_Mo_map_73 ?_
          refine lv_iload_n hx hb d_Mo_map_74 rfl (lv_at hl 0 rfl) ?_
          refine wn_iadd hx hb d_Mo_map_75 ?_
          refine wn_icmp_le (by omega) (by omega) (tgt := 83) hx hb d_Mo_map_76 (by decide) ?_ ?_
          · intro h76
            refine lv_iconst (v := 0) hx hb d_Mo_map_83 (by decide) ?_
            refine va_put (D := D) (ci := 8) (v := .int 0) (ty := .boolean) (C := RX8) (T := TX8) (N := 43) hx hb hts inX8 tyX8 tyX8_ok nmX8 hown hK hP hD hS 0 rfl rfl 19 (by decide) (hts _ m_864) (fun _ h9 => h9) rfl (by decide +kernel) rfl rfl (Nat.le_of_ble_eq_true rfl) d_Mo_map_84 (fun H locs hP hD hS => ?_)
            have hP : va_P D vwCl [(mo, .inr (8, [.int (nI 0), .int (nI L.length), .ref ta, .int (nI np), .ref aN, .ref aS, .ref aC, .int (nI tot), .ref aB, .int (bz_c rd), .int (nI rt), .int (nI pl), .ref aR, .ref aO, .int (nI sg), .ref aW, .int (bz_c mp), .int (nI k52), .int (nI td2_1), .int 0, .ref aD, .int (nI X.length), .ref a1, .ref a2, .ref a3, .ref a4, .int (nI td2_1), .ref aL, .int (nI J.length), .ref aY, .int (nI ms), .ref aM, .int (nI ip), .int (nI it), .int ir, .int (nI il), .ref bN, .ref bS, .ref bC, .ref bB, .ref bR, .ref bO, .ref aU])), (ta, .inl (cA 1, 72, .inl tf)), (aD, .inl (cA 1, 72, .inl df)), (aC, .inl (cA 0, 5, .inl bc)), (aB, .inl (cA 0, 64, .inl bf)), (a1, .inl (cA 0, 128, .inl f1)), (a2, .inl (cA 0, 128, .inl f2)), (a3, .inl (cA 0, 128, .inl f3)), (a4, .inl (cA 0, 128, .inl f4))] H := hP
            have hD : va_D A [(mo, .inr (8, [.int (nI 0), .int (nI L.length), .ref ta, .int (nI np), .ref aN, .ref aS, .ref aC, .int (nI tot), .ref aB, .int (bz_c rd), .int (nI rt), .int (nI pl), .ref aR, .ref aO, .int (nI sg), .ref aW, .int (bz_c mp), .int (nI k52), .int (nI td2_1), .int 0, .ref aD, .int (nI X.length), .ref a1, .ref a2, .ref a3, .ref a4, .int (nI td2_1), .ref aL, .int (nI J.length), .ref aY, .int (nI ms), .ref aM, .int (nI ip), .int (nI it), .int ir, .int (nI il), .ref bN, .ref bS, .ref bC, .ref bB, .ref bR, .ref bO, .ref aU])), (ta, .inl (cA 1, 72, .inl tf)), (aD, .inl (cA 1, 72, .inl df)), (aC, .inl (cA 0, 5, .inl bc)), (aB, .inl (cA 0, 64, .inl bf)), (a1, .inl (cA 0, 128, .inl f1)), (a2, .inl (cA 0, 128, .inl f2)), (a3, .inl (cA 0, 128, .inl f3)), (a4, .inl (cA 0, 128, .inl f4))] := hD
            have hP : va_P D vwCl [(mo, .inr (8, [.int (nI 0), .int (nI L.length), .ref ta, .int (nI np), .ref aN, .ref aS, .ref aC, .int (nI tot), .ref aB, .int (bz_c rd), .int (nI rt), .int (nI pl), .ref aR, .ref aO, .int (nI sg), .ref aW, .int (bz_c mp), .int (nI k52), .int (nI td2_1), .int (bz_c false), .ref aD, .int (nI X.length), .ref a1, .ref a2, .ref a3, .ref a4, .int (nI td2_1), .ref aL, .int (nI J.length), .ref aY, .int (nI ms), .ref aM, .int (nI ip), .int (nI it), .int ir, .int (nI il), .ref bN, .ref bS, .ref bC, .ref bB, .ref bR, .ref bO, .ref aU])), (ta, .inl (cA 1, 72, .inl tf)), (aD, .inl (cA 1, 72, .inl df)), (aC, .inl (cA 0, 5, .inl bc)), (aB, .inl (cA 0, 64, .inl bf)), (a1, .inl (cA 0, 128, .inl f1)), (a2, .inl (cA 0, 128, .inl f2)), (a3, .inl (cA 0, 128, .inl f3)), (a4, .inl (cA 0, 128, .inl f4))] H := id hP
            have hD : va_D A [(mo, .inr (8, [.int (nI 0), .int (nI L.length), .ref ta, .int (nI np), .ref aN, .ref aS, .ref aC, .int (nI tot), .ref aB, .int (bz_c rd), .int (nI rt), .int (nI pl), .ref aR, .ref aO, .int (nI sg), .ref aW, .int (bz_c mp), .int (nI k52), .int (nI td2_1), .int (bz_c false), .ref aD, .int (nI X.length), .ref a1, .ref a2, .ref a3, .ref a4, .int (nI td2_1), .ref aL, .int (nI J.length), .ref aY, .int (nI ms), .ref aM, .int (nI ip), .int (nI it), .int ir, .int (nI il), .ref bN, .ref bS, .ref bC, .ref bB, .ref bR, .ref bO, .ref aU])), (ta, .inl (cA 1, 72, .inl tf)), (aD, .inl (cA 1, 72, .inl df)), (aC, .inl (cA 0, 5, .inl bc)), (aB, .inl (cA 0, 64, .inl bf)), (a1, .inl (cA 0, 128, .inl f1)), (a2, .inl (cA 0, 128, .inl f2)), (a3, .inl (cA 0, 128, .inl f3)), (a4, .inl (cA 0, 128, .inl f4))] := id hD
            refine lv_iconst (v := nI 0) hx hb d_Mo_map_87 (by decide) ?_
            refine lv_istore (lv' := [(4, .int (nI 0)), (3, .int (nI td2_1)), (2, .int 1), (0, .ref mo), (1, .int (nI kk))]) hx hb d_Mo_map_88 hl (by decide) rfl (fun ls hl => ?_)
            have L90 : ∀ (nG : Nat) (j : Nat) (df1 : Nat → Int32) (H : Heap) (locs : List Loc) (ls : Array Slot), L.length - j = nG → (j ≤ L.length) → (∀ i, i < j → df1 i = L.getD i 0) →  va_P D vwCl [(mo, .inr (8, [.int (nI 0), .int (nI L.length), .ref ta, .int (nI np), .ref aN, .ref aS, .ref aC, .int (nI tot), .ref aB, .int (bz_c rd), .int (nI rt), .int (nI pl), .ref aR, .ref aO, .int (nI sg), .ref aW, .int (bz_c mp), .int (nI k52), .int (nI td2_1), .int (bz_c false), .ref aD, .int (nI X.length), .ref a1, .ref a2, .ref a3, .ref a4, .int (nI td2_1), .ref aL, .int (nI J.length), .ref aY, .int (nI ms), .ref aM, .int (nI ip), .int (nI it), .int ir, .int (nI il), .ref bN, .ref bS, .ref bC, .ref bB, .ref bR, .ref bO, .ref aU])), (ta, .inl (cA 1, 72, .inl tf)), (aD, .inl (cA 1, 72, .inl df1)), (aC, .inl (cA 0, 5, .inl bc)), (aB, .inl (cA 0, 64, .inl bf)), (a1, .inl (cA 0, 128, .inl f1)), (a2, .inl (cA 0, 128, .inl f2)), (a3, .inl (cA 0, 128, .inl f3)), (a4, .inl (cA 0, 128, .inl f4))] H → va_D A [(mo, .inr (8, [.int (nI 0), .int (nI L.length), .ref ta, .int (nI np), .ref aN, .ref aS, .ref aC, .int (nI tot), .ref aB, .int (bz_c rd), .int (nI rt), .int (nI pl), .ref aR, .ref aO, .int (nI sg), .ref aW, .int (bz_c mp), .int (nI k52), .int (nI td2_1), .int (bz_c false), .ref aD, .int (nI X.length), .ref a1, .ref a2, .ref a3, .ref a4, .int (nI td2_1), .ref aL, .int (nI J.length), .ref aY, .int (nI ms), .ref aM, .int (nI ip), .int (nI it), .int ir, .int (nI il), .ref bN, .ref bS, .ref bC, .ref bB, .ref bR, .ref bO, .ref aU])), (ta, .inl (cA 1, 72, .inl tf)), (aD, .inl (cA 1, 72, .inl df1)), (aC, .inl (cA 0, 5, .inl bc)), (aB, .inl (cA 0, 64, .inl bf)), (a1, .inl (cA 0, 128, .inl f1)), (a2, .inl (cA 0, 128, .inl f2)), (a3, .inl (cA 0, 128, .inl f3)), (a4, .inl (cA 0, 128, .inl f4))] → va_S A sG.heap H locs → lv_has ls 5 [(0, .ref mo), (1, .int (nI kk)), (4, .int (nI j))] → W pG l eG (rm_d 5) sG mG argsG belowG methG cG H locs 0 0 Q (F0 mG 90 ls []) := by
              intro nG
              induction nG using Nat.strongRecOn with
              | ind nG ih90 =>
                intro j df1 H locs ls hn90 hj hs hP hD hS hl
                refine lv_iload hx hb d_Mo_map_90 (lv_at hl 2 rfl) ?_
                refine lv_aload_n hx hb d_Mo_map_92 rfl (lv_at hl 0 rfl) ?_
                refine va_get (C := RX8) (T := TX8) (N := 43) hx hb hts inX8 hown hK hP 0 rfl rfl 1 (by decide) (hts _ m_846) (fun _ h9 => h9) rfl d_Mo_map_93 ?_
                refine wn_icmp_ge (by omega) (by omega) (tgt := 119) hx hb d_Mo_map_96 (by decide) ?_ ?_
                · intro h96
                  have hdl : cd_r 72 df1 L := ⟨hl0, by omega, fun i hi => hs i (by omega)⟩
                  obtain ⟨hnp, htt, hbc, hG⟩ := hrd (bz_1 h32)
                  refine lv_aload_n hx hb d_Mo_map_119 rfl (lv_at hl 0 rfl) ?_
                  refine lv_iconst (v := 1) hx hb d_Mo_map_120 (by decide) ?_
                  refine va_put (D := D) (ci := 8) (v := .int 1) (ty := .boolean) (C := RX8) (T := TX8) (N := 43) hx hb hts inX8 tyX8 tyX8_ok nmX8 hown hK hP hD hS 0 rfl rfl 16 (by decide) (hts _ m_861) (fun _ h9 => h9) rfl (by decide +kernel) rfl rfl (Nat.le_of_ble_eq_true rfl) d_Mo_map_121 (fun H locs hP hD hS => ?_)
                  have hP : va_P D vwCl [(mo, .inr (8, [.int (nI 0), .int (nI L.length), .ref ta, .int (nI np), .ref aN, .ref aS, .ref aC, .int (nI tot), .ref aB, .int (bz_c rd), .int (nI rt), .int (nI pl), .ref aR, .ref aO, .int (nI sg), .ref aW, .int 1, .int (nI k52), .int (nI td2_1), .int (bz_c false), .ref aD, .int (nI X.length), .ref a1, .ref a2, .ref a3, .ref a4, .int (nI td2_1), .ref aL, .int (nI J.length), .ref aY, .int (nI ms), .ref aM, .int (nI ip), .int (nI it), .int ir, .int (nI il), .ref bN, .ref bS, .ref bC, .ref bB, .ref bR, .ref bO, .ref aU])), (ta, .inl (cA 1, 72, .inl tf)), (aD, .inl (cA 1, 72, .inl df1)), (aC, .inl (cA 0, 5, .inl bc)), (aB, .inl (cA 0, 64, .inl bf)), (a1, .inl (cA 0, 128, .inl f1)), (a2, .inl (cA 0, 128, .inl f2)), (a3, .inl (cA 0, 128, .inl f3)), (a4, .inl (cA 0, 128, .inl f4))] H := hP
                  have hD : va_D A [(mo, .inr (8, [.int (nI 0), .int (nI L.length), .ref ta, .int (nI np), .ref aN, .ref aS, .ref aC, .int (nI tot), .ref aB, .int (bz_c rd), .int (nI rt), .int (nI pl), .ref aR, .ref aO, .int (nI sg), .ref aW, .int 1, .int (nI k52), .int (nI td2_1), .int (bz_c false), .ref aD, .int (nI X.length), .ref a1, .ref a2, .ref a3, .ref a4, .int (nI td2_1), .ref aL, .int (nI J.length), .ref aY, .int (nI ms), .ref aM, .int (nI ip), .int (nI it), .int ir, .int (nI il), .ref bN, .ref bS, .ref bC, .ref bB, .ref bR, .ref bO, .ref aU])), (ta, .inl (cA 1, 72, .inl tf)), (aD, .inl (cA 1, 72, .inl df1)), (aC, .inl (cA 0, 5, .inl bc)), (aB, .inl (cA 0, 64, .inl bf)), (a1, .inl (cA 0, 128, .inl f1)), (a2, .inl (cA 0, 128, .inl f2)), (a3, .inl (cA 0, 128, .inl f3)), (a4, .inl (cA 0, 128, .inl f4))] := hD
                  have hP : va_P D vwCl [(mo, .inr (8, [.int (nI 0), .int (nI L.length), .ref ta, .int (nI np), .ref aN, .ref aS, .ref aC, .int (nI tot), .ref aB, .int (bz_c rd), .int (nI rt), .int (nI pl), .ref aR, .ref aO, .int (nI sg), .ref aW, .int (bz_c true), .int (nI k52), .int (nI td2_1), .int (bz_c false), .ref aD, .int (nI X.length), .ref a1, .ref a2, .ref a3, .ref a4, .int (nI td2_1), .ref aL, .int (nI J.length), .ref aY, .int (nI ms), .ref aM, .int (nI ip), .int (nI it), .int ir, .int (nI il), .ref bN, .ref bS, .ref bC, .ref bB, .ref bR, .ref bO, .ref aU])), (ta, .inl (cA 1, 72, .inl tf)), (aD, .inl (cA 1, 72, .inl df1)), (aC, .inl (cA 0, 5, .inl bc)), (aB, .inl (cA 0, 64, .inl bf)), (a1, .inl (cA 0, 128, .inl f1)), (a2, .inl (cA 0, 128, .inl f2)), (a3, .inl (cA 0, 128, .inl f3)), (a4, .inl (cA 0, 128, .inl f4))] H := id hP
                  have hD : va_D A [(mo, .inr (8, [.int (nI 0), .int (nI L.length), .ref ta, .int (nI np), .ref aN, .ref aS, .ref aC, .int (nI tot), .ref aB, .int (bz_c rd), .int (nI rt), .int (nI pl), .ref aR, .ref aO, .int (nI sg), .ref aW, .int (bz_c true), .int (nI k52), .int (nI td2_1), .int (bz_c false), .ref aD, .int (nI X.length), .ref a1, .ref a2, .ref a3, .ref a4, .int (nI td2_1), .ref aL, .int (nI J.length), .ref aY, .int (nI ms), .ref aM, .int (nI ip), .int (nI it), .int ir, .int (nI il), .ref bN, .ref bS, .ref bC, .ref bB, .ref bR, .ref bO, .ref aU])), (ta, .inl (cA 1, 72, .inl tf)), (aD, .inl (cA 1, 72, .inl df1)), (aC, .inl (cA 0, 5, .inl bc)), (aB, .inl (cA 0, 64, .inl bf)), (a1, .inl (cA 0, 128, .inl f1)), (a2, .inl (cA 0, 128, .inl f2)), (a3, .inl (cA 0, 128, .inl f3)), (a4, .inl (cA 0, 128, .inl f4))] := id hD
                  refine lv_aload_n hx hb d_Mo_map_124 rfl (lv_at hl 0 rfl) ?_
                  refine lv_iload_n hx hb d_Mo_map_125 rfl (lv_at hl 1 rfl) ?_
                  refine ck_cVv (C := "ReadMapperModel") (ci := 8) (rest := []) (wr := [(ta, .inl (cA 1, 72, .inl tf))]) (ws2 := fun u => [(mo, .inr (8, [.int (nI 0), .int (nI L.length), .ref ta, .int (nI np), .ref aN, .ref aS, .ref aC, .int (nI tot), .ref aB, .int (bz_c rd), .int (nI rt), .int (nI pl), .ref aR, .ref aO, .int (nI sg), .ref aW, .int (bz_c true), .int (nI k52), .int (nI td2_1), .int (bz_c false), .ref aD, .int (nI u.1.length), .ref a1, .ref a2, .ref a3, .ref a4, .int (nI td2_1), .ref aL, .int (nI J.length), .ref aY, .int (nI ms), .ref aM, .int (nI ip), .int (nI it), .int ir, .int (nI il), .ref bN, .ref bS, .ref bC, .ref bB, .ref bR, .ref bO, .ref aU])), (ta, .inl (cA 1, 72, .inl tf)), (aD, .inl (cA 1, 72, .inl df1)), (aC, .inl (cA 0, 5, .inl bc)), (aB, .inl (cA 0, 64, .inl bf)), (a1, .inl (cA 0, 128, .inl u.2.1)), (a2, .inl (cA 0, 128, .inl u.2.2.1)), (a3, .inl (cA 0, 128, .inl u.2.2.2.1)), (a4, .inl (cA 0, 128, .inl u.2.2.2.2))]) (c_Mo_tryAll l D cA K mo ta aN aS aC aB aR aO aW aD a1 a2 a3 a4 aL aY aM bN bS bC bB bR bO aU rd true false (nI 0) ir np tot rt pl sg k52 td2_1 td2_1 ms ip it il L J df1 L ((sl_p L (k52 + 1) (k52 + 1 + td2_1)).map sy_c) bc bf q G f1 f2 f3 f4 X kk hdl rfl (by omega) (by omega) (by first | assumption | omega) (by first | assumption | omega) (by first | assumption | omega) hbc hG (by first | assumption | omega) (by first | assumption | omega) (by first | assumption | omega) (by first | assumption | omega)) hx hb hml hown hts hK hE hA hP hD hS k_Mo_tryAll m_1071 (by decide) 0 rfl rfl rfl hl.1 rfl (Nat.le_of_ble_eq_true rfl) d_Mo_map_126  [0, 2, 3, 4, 5, 6, 7, 8] [1] [1, 0, 2, 3, 4, 5, 6, 7, 8] rfl rfl (by decide) (fun _ => rfl) (fun u126 H locs hq126 hP hD hS => ?_)
                  obtain ⟨X2_126, f1z_126, f2z_126, f3z_126, f4z_126⟩ := u126
                  try dsimp only at hq126
                  have hP : va_P D vwCl [(mo, .inr (8, [.int (nI 0), .int (nI L.length), .ref ta, .int (nI np), .ref aN, .ref aS, .ref aC, .int (nI tot), .ref aB, .int (bz_c rd), .int (nI rt), .int (nI pl), .ref aR, .ref aO, .int (nI sg), .ref aW, .int (bz_c true), .int (nI k52), .int (nI td2_1), .int (bz_c false), .ref aD, .int (nI X2_126.length), .ref a1, .ref a2, .ref a3, .ref a4, .int (nI td2_1), .ref aL, .int (nI J.length), .ref aY, .int (nI ms), .ref aM, .int (nI ip), .int (nI it), .int ir, .int (nI il), .ref bN, .ref bS, .ref bC, .ref bB, .ref bR, .ref bO, .ref aU])), (ta, .inl (cA 1, 72, .inl tf)), (aD, .inl (cA 1, 72, .inl df1)), (aC, .inl (cA 0, 5, .inl bc)), (aB, .inl (cA 0, 64, .inl bf)), (a1, .inl (cA 0, 128, .inl f1z_126)), (a2, .inl (cA 0, 128, .inl f2z_126)), (a3, .inl (cA 0, 128, .inl f3z_126)), (a4, .inl (cA 0, 128, .inl f4z_126))] H := hP
                  have hD : va_D A [(mo, .inr (8, [.int (nI 0), .int (nI L.length), .ref ta, .int (nI np), .ref aN, .ref aS, .ref aC, .int (nI tot), .ref aB, .int (bz_c rd), .int (nI rt), .int (nI pl), .ref aR, .ref aO, .int (nI sg), .ref aW, .int (bz_c true), .int (nI k52), .int (nI td2_1), .int (bz_c false), .ref aD, .int (nI X2_126.length), .ref a1, .ref a2, .ref a3, .ref a4, .int (nI td2_1), .ref aL, .int (nI J.length), .ref aY, .int (nI ms), .ref aM, .int (nI ip), .int (nI it), .int ir, .int (nI il), .ref bN, .ref bS, .ref bC, .ref bB, .ref bR, .ref bO, .ref aU])), (ta, .inl (cA 1, 72, .inl tf)), (aD, .inl (cA 1, 72, .inl df1)), (aC, .inl (cA 0, 5, .inl bc)), (aB, .inl (cA 0, 64, .inl bf)), (a1, .inl (cA 0, 128, .inl f1z_126)), (a2, .inl (cA 0, 128, .inl f2z_126)), (a3, .inl (cA 0, 128, .inl f3z_126)), (a4, .inl (cA 0, 128, .inl f4z_126))] := hD
                  refine lv_aload_n hx hb d_Mo_map_129 rfl (lv_at hl 0 rfl) ?_
                  refine lv_iconst (v := nI (([] : List Int32).length)) hx hb d_Mo_map_130 rfl ?_
                  refine va_put (D := D) (ci := 8) (v := .int (nI (([] : List Int32).length))) (ty := .int) (C := RX8) (T := TX8) (N := 43) hx hb hts inX8 tyX8 tyX8_ok nmX8 hown hK hP hD hS 0 rfl rfl 1 (by decide) (hts _ m_846) (fun _ h9 => h9) rfl (by decide +kernel) rfl rfl (Nat.le_of_ble_eq_true rfl) d_Mo_map_131 (fun H locs hP hD hS => ?_)
                  have hP : va_P D vwCl [(mo, .inr (8, [.int (nI 0), .int (nI (([] : List Int32).length)), .ref ta, .int (nI np), .ref aN, .ref aS, .ref aC, .int (nI tot), .ref aB, .int (bz_c rd), .int (nI rt), .int (nI pl), .ref aR, .ref aO, .int (nI sg), .ref aW, .int (bz_c true), .int (nI k52), .int (nI td2_1), .int (bz_c false), .ref aD, .int (nI X2_126.length), .ref a1, .ref a2, .ref a3, .ref a4, .int (nI td2_1), .ref aL, .int (nI J.length), .ref aY, .int (nI ms), .ref aM, .int (nI ip), .int (nI it), .int ir, .int (nI il), .ref bN, .ref bS, .ref bC, .ref bB, .ref bR, .ref bO, .ref aU])), (ta, .inl (cA 1, 72, .inl tf)), (aD, .inl (cA 1, 72, .inl df1)), (aC, .inl (cA 0, 5, .inl bc)), (aB, .inl (cA 0, 64, .inl bf)), (a1, .inl (cA 0, 128, .inl f1z_126)), (a2, .inl (cA 0, 128, .inl f2z_126)), (a3, .inl (cA 0, 128, .inl f3z_126)), (a4, .inl (cA 0, 128, .inl f4z_126))] H := hP
                  have hD : va_D A [(mo, .inr (8, [.int (nI 0), .int (nI (([] : List Int32).length)), .ref ta, .int (nI np), .ref aN, .ref aS, .ref aC, .int (nI tot), .ref aB, .int (bz_c rd), .int (nI rt), .int (nI pl), .ref aR, .ref aO, .int (nI sg), .ref aW, .int (bz_c true), .int (nI k52), .int (nI td2_1), .int (bz_c false), .ref aD, .int (nI X2_126.length), .ref a1, .ref a2, .ref a3, .ref a4, .int (nI td2_1), .ref aL, .int (nI J.length), .ref aY, .int (nI ms), .ref aM, .int (nI ip), .int (nI it), .int ir, .int (nI il), .ref bN, .ref bS, .ref bC, .ref bB, .ref bR, .ref bO, .ref aU])), (ta, .inl (cA 1, 72, .inl tf)), (aD, .inl (cA 1, 72, .inl df1)), (aC, .inl (cA 0, 5, .inl bc)), (aB, .inl (cA 0, 64, .inl bf)), (a1, .inl (cA 0, 128, .inl f1z_126)), (a2, .inl (cA 0, 128, .inl f2z_126)), (a3, .inl (cA 0, 128, .inl f3z_126)), (a4, .inl (cA 0, 128, .inl f4z_126))] := hD
                  refine lv_aload_n hx hb d_Mo_map_134 rfl (lv_at hl 0 rfl) ?_
                  refine va_get (C := RX8) (T := TX8) (N := 43) hx hb hts inX8 hown hK hP 0 rfl rfl 0 (by decide) (hts _ m_845) (fun _ h9 => h9) rfl d_Mo_map_135 ?_
                  refine lv_if_ne (tgt := 148) hx hb d_Mo_map_138 (by decide) (fun h9 => absurd h9 (by decide)) (fun _ => ?_)
                  refine lv_aload_n hx hb d_Mo_map_141 rfl (lv_at hl 0 rfl) ?_
                  refine va_get (C := RX8) (T := TX8) (N := 43) hx hb hts inX8 hown hK hP 0 rfl rfl 21 (by decide) (hts _ m_866) (fun _ h9 => h9) rfl d_Mo_map_142 ?_
                  refine lv_goto (tgt := 149) hx hb d_Mo_map_145 (by decide) ?_
                  exact hret (nI X2_126.length) (nI 0, k52, td2_1, false, true, td2_1, df1, X2_126, f1z_126, f2z_126, f3z_126, f4z_126) _ _ _ 149 d_Mo_map_149 (by obtain ⟨y1, y2, y3, y4, y5⟩ := hq126; exact ⟨cd_clear hc, ⟨y2, y3, y4, y5⟩, Or.inr (Or.inr ⟨rfl, ⟨⟨k52, e0, hpr⟩, h16, h21⟩, bz_1 h32, rfl, k52, e0, kk, hpr, hkk, rfl, rfl, by omega, Or.inr ⟨rfl, by omega⟩, hdl, by rw [he0] at y1; exact y1, rfl⟩)⟩) hP hD hS
                · intro h96
                  refine lv_aload_n hx hb d_Mo_map_99 rfl (lv_at hl 0 rfl) ?_
                  refine va_get (C := RX8) (T := TX8) (N := 43) hx hb hts inX8 hown hK hP 0 rfl rfl 20 (by decide) (hts _ m_865) (fun _ h9 => h9) rfl d_Mo_map_100 ?_
                  refine lv_iload hx hb d_Mo_map_103 (lv_at hl 2 rfl) ?_
                  refine lv_aload_n hx hb d_Mo_map_105 rfl (lv_at hl 0 rfl) ?_
                  refine va_get (C := RX8) (T := TX8) (N := 43) hx hb hts inX8 hown hK hP 0 rfl rfl 2 (by decide) (hts _ m_847) (fun _ h9 => h9) rfl d_Mo_map_106 ?_
                  refine lv_iload hx hb d_Mo_map_109 (lv_at hl 2 rfl) ?_
                  refine wn_cald hx hb hK hP 1 1 rfl rfl (by omega) (by omega) d_Mo_map_111 ?_
                  refine wn_eq (y := L.getD j 0) (hc.2.2 j (by omega)) ?_
                  refine wn_cast hx hb hK hP hD hS 2 1 rfl rfl (by omega) (by omega) (ch_f (htx j (by omega))) d_Mo_map_112 (fun H locs hP hD hS => ?_)
                  have hP : va_P D vwCl [(mo, .inr (8, [.int (nI 0), .int (nI L.length), .ref ta, .int (nI np), .ref aN, .ref aS, .ref aC, .int (nI tot), .ref aB, .int (bz_c rd), .int (nI rt), .int (nI pl), .ref aR, .ref aO, .int (nI sg), .ref aW, .int (bz_c mp), .int (nI k52), .int (nI td2_1), .int (bz_c false), .ref aD, .int (nI X.length), .ref a1, .ref a2, .ref a3, .ref a4, .int (nI td2_1), .ref aL, .int (nI J.length), .ref aY, .int (nI ms), .ref aM, .int (nI ip), .int (nI it), .int ir, .int (nI il), .ref bN, .ref bS, .ref bC, .ref bB, .ref bR, .ref bO, .ref aU])), (ta, .inl (cA 1, 72, .inl tf)), (aD, .inl (cA 1, 72, .inl (upd df1 j (L.getD j 0)))), (aC, .inl (cA 0, 5, .inl bc)), (aB, .inl (cA 0, 64, .inl bf)), (a1, .inl (cA 0, 128, .inl f1)), (a2, .inl (cA 0, 128, .inl f2)), (a3, .inl (cA 0, 128, .inl f3)), (a4, .inl (cA 0, 128, .inl f4))] H := hP
                  have hD : va_D A [(mo, .inr (8, [.int (nI 0), .int (nI L.length), .ref ta, .int (nI np), .ref aN, .ref aS, .ref aC, .int (nI tot), .ref aB, .int (bz_c rd), .int (nI rt), .int (nI pl), .ref aR, .ref aO, .int (nI sg), .ref aW, .int (bz_c mp), .int (nI k52), .int (nI td2_1), .int (bz_c false), .ref aD, .int (nI X.length), .ref a1, .ref a2, .ref a3, .ref a4, .int (nI td2_1), .ref aL, .int (nI J.length), .ref aY, .int (nI ms), .ref aM, .int (nI ip), .int (nI it), .int ir, .int (nI il), .ref bN, .ref bS, .ref bC, .ref bB, .ref bR, .ref bO, .ref aU])), (ta, .inl (cA 1, 72, .inl tf)), (aD, .inl (cA 1, 72, .inl (upd df1 j (L.getD j 0)))), (aC, .inl (cA 0, 5, .inl bc)), (aB, .inl (cA 0, 64, .inl bf)), (a1, .inl (cA 0, 128, .inl f1)), (a2, .inl (cA 0, 128, .inl f2)), (a3, .inl (cA 0, 128, .inl f3)), (a4, .inl (cA 0, 128, .inl f4))] := hD
                  refine lv_iinc (k := 2) (v := nI (j + 1)) (lv' := [(4, .int (nI (j + 1))), (0, .ref mo), (1, .int (nI kk))]) hx hb d_Mo_map_113 hl rfl (wi_inc1 _) (by decide) rfl (fun ls hl => ?_)
                  refine lv_goto (tgt := 90) hx hb d_Mo_map_116 (by decide) ?_
                  exact ih90 _ (by omega) (j + 1) (upd df1 j (L.getD j 0)) _ _ _ rfl (by first | assumption | omega) (up_s hs rfl) hP hD hS (lv_sub hl [1, 2, 0] rfl)
            exact L90 _ 0 df _ _ _ rfl (by first | assumption | omega) (fun j hj => absurd hj (Nat.not_lt_zero j)) hP hD hS (lv_sub hl [3, 4, 0] rfl)
          · intro h76
            refine lv_iconst (v := 1) hx hb d_Mo_map_79 (by decide) ?_
            refine lv_goto (tgt := 84) hx hb d_Mo_map_80 (by decide) ?_
            refine va_put (D := D) (ci := 8) (v := .int 1) (ty := .boolean) (C := RX8) (T := TX8) (N := 43) hx hb hts inX8 tyX8 tyX8_ok nmX8 hown hK hP hD hS 0 rfl rfl 19 (by decide) (hts _ m_864) (fun _ h9 => h9) rfl (by decide +kernel) rfl rfl (Nat.le_of_ble_eq_true rfl) d_Mo_map_84 (fun H locs hP hD hS => ?_)
            have hP : va_P D vwCl [(mo, .inr (8, [.int (nI 0), .int (nI L.length), .ref ta, .int (nI np), .ref aN, .ref aS, .ref aC, .int (nI tot), .ref aB, .int (bz_c rd), .int (nI rt), .int (nI pl), .ref aR, .ref aO, .int (nI sg), .ref aW, .int (bz_c mp), .int (nI k52), .int (nI td2_1), .int 1, .ref aD, .int (nI X.length), .ref a1, .ref a2, .ref a3, .ref a4, .int (nI td2_1), .ref aL, .int (nI J.length), .ref aY, .int (nI ms), .ref aM, .int (nI ip), .int (nI it), .int ir, .int (nI il), .ref bN, .ref bS, .ref bC, .ref bB, .ref bR, .ref bO, .ref aU])), (ta, .inl (cA 1, 72, .inl tf)), (aD, .inl (cA 1, 72, .inl df)), (aC, .inl (cA 0, 5, .inl bc)), (aB, .inl (cA 0, 64, .inl bf)), (a1, .inl (cA 0, 128, .inl f1)), (a2, .inl (cA 0, 128, .inl f2)), (a3, .inl (cA 0, 128, .inl f3)), (a4, .inl (cA 0, 128, .inl f4))] H := hP
            have hD : va_D A [(mo, .inr (8, [.int (nI 0), .int (nI L.length), .ref ta, .int (nI np), .ref aN, .ref aS, .ref aC, .int (nI tot), .ref aB, .int (bz_c rd), .int (nI rt), .int (nI pl), .ref aR, .ref aO, .int (nI sg), .ref aW, .int (bz_c mp), .int (nI k52), .int (nI td2_1), .int 1, .ref aD, .int (nI X.length), .ref a1, .ref a2, .ref a3, .ref a4, .int (nI td2_1), .ref aL, .int (nI J.length), .ref aY, .int (nI ms), .ref aM, .int (nI ip), .int (nI it), .int ir, .int (nI il), .ref bN, .ref bS, .ref bC, .ref bB, .ref bR, .ref bO, .ref aU])), (ta, .inl (cA 1, 72, .inl tf)), (aD, .inl (cA 1, 72, .inl df)), (aC, .inl (cA 0, 5, .inl bc)), (aB, .inl (cA 0, 64, .inl bf)), (a1, .inl (cA 0, 128, .inl f1)), (a2, .inl (cA 0, 128, .inl f2)), (a3, .inl (cA 0, 128, .inl f3)), (a4, .inl (cA 0, 128, .inl f4))] := hD
            have hP : va_P D vwCl [(mo, .inr (8, [.int (nI 0), .int (nI L.length), .ref ta, .int (nI np), .ref aN, .ref aS, .ref aC, .int (nI tot), .ref aB, .int (bz_c rd), .int (nI rt), .int (nI pl), .ref aR, .ref aO, .int (nI sg), .ref aW, .int (bz_c mp), .int (nI k52), .int (nI td2_1), .int (bz_c true), .ref aD, .int (nI X.length), .ref a1, .ref a2, .ref a3, .ref a4, .int (nI td2_1), .ref aL, .int (nI J.length), .ref aY, .int (nI ms), .ref aM, .int (nI ip), .int (nI it), .int ir, .int (nI il), .ref bN, .ref bS, .ref bC, .ref bB, .ref bR, .ref bO, .ref aU])), (ta, .inl (cA 1, 72, .inl tf)), (aD, .inl (cA 1, 72, .inl df)), (aC, .inl (cA 0, 5, .inl bc)), (aB, .inl (cA 0, 64, .inl bf)), (a1, .inl (cA 0, 128, .inl f1)), (a2, .inl (cA 0, 128, .inl f2)), (a3, .inl (cA 0, 128, .inl f3)), (a4, .inl (cA 0, 128, .inl f4))] H := id hP
            have hD : va_D A [(mo, .inr (8, [.int (nI 0), .int (nI L.length), .ref ta, .int (nI np), .ref aN, .ref aS, .ref aC, .int (nI tot), .ref aB, .int (bz_c rd), .int (nI rt), .int (nI pl), .ref aR, .ref aO, .int (nI sg), .ref aW, .int (bz_c mp), .int (nI k52), .int (nI td2_1), .int (bz_c true), .ref aD, .int (nI X.length), .ref a1, .ref a2, .ref a3, .ref a4, .int (nI td2_1), .ref aL, .int (nI J.length), .ref aY, .int (nI ms), .ref aM, .int (nI ip), .int (nI it), .int ir, .int (nI il), .ref bN, .ref bS, .ref bC, .ref bB, .ref bR, .ref bO, .ref aU])), (ta, .inl (cA 1, 72, .inl tf)), (aD, .inl (cA 1, 72, .inl df)), (aC, .inl (cA 0, 5, .inl bc)), (aB, .inl (cA 0, 64, .inl bf)), (a1, .inl (cA 0, 128, .inl f1)), (a2, .inl (cA 0, 128, .inl f2)), (a3, .inl (cA 0, 128, .inl f3)), (a4, .inl (cA 0, 128, .inl f4))] := id hD
            refine lv_iconst (v := nI 0) hx hb d_Mo_map_87 (by decide) ?_
            refine lv_istore (lv' := [(4, .int (nI 0)), (3, .int (nI td2_1)), (2, .int 1), (0, .ref mo), (1, .int (nI kk))]) hx hb d_Mo_map_88 hl (by decide) rfl (fun ls hl => ?_)
            have L90 : ∀ (nG : Nat) (j : Nat) (df1 : Nat → Int32) (H : Heap) (locs : List Loc) (ls : Array Slot), L.length - j = nG → (j ≤ L.length) → (∀ i, i < j → df1 i = L.getD i 0) →  va_P D vwCl [(mo, .inr (8, [.int (nI 0), .int (nI L.length), .ref ta, .int (nI np), .ref aN, .ref aS, .ref aC, .int (nI tot), .ref aB, .int (bz_c rd), .int (nI rt), .int (nI pl), .ref aR, .ref aO, .int (nI sg), .ref aW, .int (bz_c mp), .int (nI k52), .int (nI td2_1), .int (bz_c true), .ref aD, .int (nI X.length), .ref a1, .ref a2, .ref a3, .ref a4, .int (nI td2_1), .ref aL, .int (nI J.length), .ref aY, .int (nI ms), .ref aM, .int (nI ip), .int (nI it), .int ir, .int (nI il), .ref bN, .ref bS, .ref bC, .ref bB, .ref bR, .ref bO, .ref aU])), (ta, .inl (cA 1, 72, .inl tf)), (aD, .inl (cA 1, 72, .inl df1)), (aC, .inl (cA 0, 5, .inl bc)), (aB, .inl (cA 0, 64, .inl bf)), (a1, .inl (cA 0, 128, .inl f1)), (a2, .inl (cA 0, 128, .inl f2)), (a3, .inl (cA 0, 128, .inl f3)), (a4, .inl (cA 0, 128, .inl f4))] H → va_D A [(mo, .inr (8, [.int (nI 0), .int (nI L.length), .ref ta, .int (nI np), .ref aN, .ref aS, .ref aC, .int (nI tot), .ref aB, .int (bz_c rd), .int (nI rt), .int (nI pl), .ref aR, .ref aO, .int (nI sg), .ref aW, .int (bz_c mp), .int (nI k52), .int (nI td2_1), .int (bz_c true), .ref aD, .int (nI X.length), .ref a1, .ref a2, .ref a3, .ref a4, .int (nI td2_1), .ref aL, .int (nI J.length), .ref aY, .int (nI ms), .ref aM, .int (nI ip), .int (nI it), .int ir, .int (nI il), .ref bN, .ref bS, .ref bC, .ref bB, .ref bR, .ref bO, .ref aU])), (ta, .inl (cA 1, 72, .inl tf)), (aD, .inl (cA 1, 72, .inl df1)), (aC, .inl (cA 0, 5, .inl bc)), (aB, .inl (cA 0, 64, .inl bf)), (a1, .inl (cA 0, 128, .inl f1)), (a2, .inl (cA 0, 128, .inl f2)), (a3, .inl (cA 0, 128, .inl f3)), (a4, .inl (cA 0, 128, .inl f4))] → va_S A sG.heap H locs → lv_has ls 5 [(0, .ref mo), (1, .int (nI kk)), (4, .int (nI j))] → W pG l eG (rm_d 5) sG mG argsG belowG methG cG H locs 0 0 Q (F0 mG 90 ls []) := by
              intro nG
              induction nG using Nat.strongRecOn with
              | ind nG ih90 =>
                intro j df1 H locs ls hn90 hj hs hP hD hS hl
                refine lv_iload hx hb d_Mo_map_90 (lv_at hl 2 rfl) ?_
                refine lv_aload_n hx hb d_Mo_map_92 rfl (lv_at hl 0 rfl) ?_
                refine va_get (C := RX8) (T := TX8) (N := 43) hx hb hts inX8 hown hK hP 0 rfl rfl 1 (by decide) (hts _ m_846) (fun _ h9 => h9) rfl d_Mo_map_93 ?_
                refine wn_icmp_ge (by omega) (by omega) (tgt := 119) hx hb d_Mo_map_96 (by decide) ?_ ?_
                · intro h96
                  have hdl : cd_r 72 df1 L := ⟨hl0, by omega, fun i hi => hs i (by omega)⟩
                  obtain ⟨hnp, htt, hbc, hG⟩ := hrd (bz_1 h32)
                  refine lv_aload_n hx hb d_Mo_map_119 rfl (lv_at hl 0 rfl) ?_
                  refine lv_iconst (v := 1) hx hb d_Mo_map_120 (by decide) ?_
                  refine va_put (D := D) (ci := 8) (v := .int 1) (ty := .boolean) (C := RX8) (T := TX8) (N := 43) hx hb hts inX8 tyX8 tyX8_ok nmX8 hown hK hP hD hS 0 rfl rfl 16 (by decide) (hts _ m_861) (fun _ h9 => h9) rfl (by decide +kernel) rfl rfl (Nat.le_of_ble_eq_true rfl) d_Mo_map_121 (fun H locs hP hD hS => ?_)
                  have hP : va_P D vwCl [(mo, .inr (8, [.int (nI 0), .int (nI L.length), .ref ta, .int (nI np), .ref aN, .ref aS, .ref aC, .int (nI tot), .ref aB, .int (bz_c rd), .int (nI rt), .int (nI pl), .ref aR, .ref aO, .int (nI sg), .ref aW, .int 1, .int (nI k52), .int (nI td2_1), .int (bz_c true), .ref aD, .int (nI X.length), .ref a1, .ref a2, .ref a3, .ref a4, .int (nI td2_1), .ref aL, .int (nI J.length), .ref aY, .int (nI ms), .ref aM, .int (nI ip), .int (nI it), .int ir, .int (nI il), .ref bN, .ref bS, .ref bC, .ref bB, .ref bR, .ref bO, .ref aU])), (ta, .inl (cA 1, 72, .inl tf)), (aD, .inl (cA 1, 72, .inl df1)), (aC, .inl (cA 0, 5, .inl bc)), (aB, .inl (cA 0, 64, .inl bf)), (a1, .inl (cA 0, 128, .inl f1)), (a2, .inl (cA 0, 128, .inl f2)), (a3, .inl (cA 0, 128, .inl f3)), (a4, .inl (cA 0, 128, .inl f4))] H := hP
                  have hD : va_D A [(mo, .inr (8, [.int (nI 0), .int (nI L.length), .ref ta, .int (nI np), .ref aN, .ref aS, .ref aC, .int (nI tot), .ref aB, .int (bz_c rd), .int (nI rt), .int (nI pl), .ref aR, .ref aO, .int (nI sg), .ref aW, .int 1, .int (nI k52), .int (nI td2_1), .int (bz_c true), .ref aD, .int (nI X.length), .ref a1, .ref a2, .ref a3, .ref a4, .int (nI td2_1), .ref aL, .int (nI J.length), .ref aY, .int (nI ms), .ref aM, .int (nI ip), .int (nI it), .int ir, .int (nI il), .ref bN, .ref bS, .ref bC, .ref bB, .ref bR, .ref bO, .ref aU])), (ta, .inl (cA 1, 72, .inl tf)), (aD, .inl (cA 1, 72, .inl df1)), (aC, .inl (cA 0, 5, .inl bc)), (aB, .inl (cA 0, 64, .inl bf)), (a1, .inl (cA 0, 128, .inl f1)), (a2, .inl (cA 0, 128, .inl f2)), (a3, .inl (cA 0, 128, .inl f3)), (a4, .inl (cA 0, 128, .inl f4))] := hD
                  have hP : va_P D vwCl [(mo, .inr (8, [.int (nI 0), .int (nI L.length), .ref ta, .int (nI np), .ref aN, .ref aS, .ref aC, .int (nI tot), .ref aB, .int (bz_c rd), .int (nI rt), .int (nI pl), .ref aR, .ref aO, .int (nI sg), .ref aW, .int (bz_c true), .int (nI k52), .int (nI td2_1), .int (bz_c true), .ref aD, .int (nI X.length), .ref a1, .ref a2, .ref a3, .ref a4, .int (nI td2_1), .ref aL, .int (nI J.length), .ref aY, .int (nI ms), .ref aM, .int (nI ip), .int (nI it), .int ir, .int (nI il), .ref bN, .ref bS, .ref bC, .ref bB, .ref bR, .ref bO, .ref aU])), (ta, .inl (cA 1, 72, .inl tf)), (aD, .inl (cA 1, 72, .inl df1)), (aC, .inl (cA 0, 5, .inl bc)), (aB, .inl (cA 0, 64, .inl bf)), (a1, .inl (cA 0, 128, .inl f1)), (a2, .inl (cA 0, 128, .inl f2)), (a3, .inl (cA 0, 128, .inl f3)), (a4, .inl (cA 0, 128, .inl f4))] H := id hP
                  have hD : va_D A [(mo, .inr (8, [.int (nI 0), .int (nI L.length), .ref ta, .int (nI np), .ref aN, .ref aS, .ref aC, .int (nI tot), .ref aB, .int (bz_c rd), .int (nI rt), .int (nI pl), .ref aR, .ref aO, .int (nI sg), .ref aW, .int (bz_c true), .int (nI k52), .int (nI td2_1), .int (bz_c true), .ref aD, .int (nI X.length), .ref a1, .ref a2, .ref a3, .ref a4, .int (nI td2_1), .ref aL, .int (nI J.length), .ref aY, .int (nI ms), .ref aM, .int (nI ip), .int (nI it), .int ir, .int (nI il), .ref bN, .ref bS, .ref bC, .ref bB, .ref bR, .ref bO, .ref aU])), (ta, .inl (cA 1, 72, .inl tf)), (aD, .inl (cA 1, 72, .inl df1)), (aC, .inl (cA 0, 5, .inl bc)), (aB, .inl (cA 0, 64, .inl bf)), (a1, .inl (cA 0, 128, .inl f1)), (a2, .inl (cA 0, 128, .inl f2)), (a3, .inl (cA 0, 128, .inl f3)), (a4, .inl (cA 0, 128, .inl f4))] := id hD
                  refine lv_aload_n hx hb d_Mo_map_124 rfl (lv_at hl 0 rfl) ?_
                  refine lv_iload_n hx hb d_Mo_map_125 rfl (lv_at hl 1 rfl) ?_
                  refine ck_cVv (C := "ReadMapperModel") (ci := 8) (rest := []) (wr := [(ta, .inl (cA 1, 72, .inl tf))]) (ws2 := fun u => [(mo, .inr (8, [.int (nI 0), .int (nI L.length), .ref ta, .int (nI np), .ref aN, .ref aS, .ref aC, .int (nI tot), .ref aB, .int (bz_c rd), .int (nI rt), .int (nI pl), .ref aR, .ref aO, .int (nI sg), .ref aW, .int (bz_c true), .int (nI k52), .int (nI td2_1), .int (bz_c true), .ref aD, .int (nI u.1.length), .ref a1, .ref a2, .ref a3, .ref a4, .int (nI td2_1), .ref aL, .int (nI J.length), .ref aY, .int (nI ms), .ref aM, .int (nI ip), .int (nI it), .int ir, .int (nI il), .ref bN, .ref bS, .ref bC, .ref bB, .ref bR, .ref bO, .ref aU])), (ta, .inl (cA 1, 72, .inl tf)), (aD, .inl (cA 1, 72, .inl df1)), (aC, .inl (cA 0, 5, .inl bc)), (aB, .inl (cA 0, 64, .inl bf)), (a1, .inl (cA 0, 128, .inl u.2.1)), (a2, .inl (cA 0, 128, .inl u.2.2.1)), (a3, .inl (cA 0, 128, .inl u.2.2.2.1)), (a4, .inl (cA 0, 128, .inl u.2.2.2.2))]) (c_Mo_tryAll l D cA K mo ta aN aS aC aB aR aO aW aD a1 a2 a3 a4 aL aY aM bN bS bC bB bR bO aU rd true true (nI 0) ir np tot rt pl sg k52 td2_1 td2_1 ms ip it il L J df1 L ((sl_p L (k52 + 1) (k52 + 1 + td2_1)).map sy_c) bc bf q G f1 f2 f3 f4 X kk hdl rfl (by omega) (by omega) (by first | assumption | omega) (by first | assumption | omega) (by first | assumption | omega) hbc hG (by first | assumption | omega) (by first | assumption | omega) (by first | assumption | omega) (by first | assumption | omega)) hx hb hml hown hts hK hE hA hP hD hS k_Mo_tryAll m_1071 (by decide) 0 rfl rfl rfl hl.1 rfl (Nat.le_of_ble_eq_true rfl) d_Mo_map_126  [0, 2, 3, 4, 5, 6, 7, 8] [1] [1, 0, 2, 3, 4, 5, 6, 7, 8] rfl rfl (by decide) (fun _ => rfl) (fun u126 H locs hq126 hP hD hS => ?_)
                  obtain ⟨X2_126, f1z_126, f2z_126, f3z_126, f4z_126⟩ := u126
                  try dsimp only at hq126
                  have hP : va_P D vwCl [(mo, .inr (8, [.int (nI 0), .int (nI L.length), .ref ta, .int (nI np), .ref aN, .ref aS, .ref aC, .int (nI tot), .ref aB, .int (bz_c rd), .int (nI rt), .int (nI pl), .ref aR, .ref aO, .int (nI sg), .ref aW, .int (bz_c true), .int (nI k52), .int (nI td2_1), .int (bz_c true), .ref aD, .int (nI X2_126.length), .ref a1, .ref a2, .ref a3, .ref a4, .int (nI td2_1), .ref aL, .int (nI J.length), .ref aY, .int (nI ms), .ref aM, .int (nI ip), .int (nI it), .int ir, .int (nI il), .ref bN, .ref bS, .ref bC, .ref bB, .ref bR, .ref bO, .ref aU])), (ta, .inl (cA 1, 72, .inl tf)), (aD, .inl (cA 1, 72, .inl df1)), (aC, .inl (cA 0, 5, .inl bc)), (aB, .inl (cA 0, 64, .inl bf)), (a1, .inl (cA 0, 128, .inl f1z_126)), (a2, .inl (cA 0, 128, .inl f2z_126)), (a3, .inl (cA 0, 128, .inl f3z_126)), (a4, .inl (cA 0, 128, .inl f4z_126))] H := hP
                  have hD : va_D A [(mo, .inr (8, [.int (nI 0), .int (nI L.length), .ref ta, .int (nI np), .ref aN, .ref aS, .ref aC, .int (nI tot), .ref aB, .int (bz_c rd), .int (nI rt), .int (nI pl), .ref aR, .ref aO, .int (nI sg), .ref aW, .int (bz_c true), .int (nI k52), .int (nI td2_1), .int (bz_c true), .ref aD, .int (nI X2_126.length), .ref a1, .ref a2, .ref a3, .ref a4, .int (nI td2_1), .ref aL, .int (nI J.length), .ref aY, .int (nI ms), .ref aM, .int (nI ip), .int (nI it), .int ir, .int (nI il), .ref bN, .ref bS, .ref bC, .ref bB, .ref bR, .ref bO, .ref aU])), (ta, .inl (cA 1, 72, .inl tf)), (aD, .inl (cA 1, 72, .inl df1)), (aC, .inl (cA 0, 5, .inl bc)), (aB, .inl (cA 0, 64, .inl bf)), (a1, .inl (cA 0, 128, .inl f1z_126)), (a2, .inl (cA 0, 128, .inl f2z_126)), (a3, .inl (cA 0, 128, .inl f3z_126)), (a4, .inl (cA 0, 128, .inl f4z_126))] := hD
                  refine lv_aload_n hx hb d_Mo_map_129 rfl (lv_at hl 0 rfl) ?_
                  refine lv_iconst (v := nI (([] : List Int32).length)) hx hb d_Mo_map_130 rfl ?_
                  refine va_put (D := D) (ci := 8) (v := .int (nI (([] : List Int32).length))) (ty := .int) (C := RX8) (T := TX8) (N := 43) hx hb hts inX8 tyX8 tyX8_ok nmX8 hown hK hP hD hS 0 rfl rfl 1 (by decide) (hts _ m_846) (fun _ h9 => h9) rfl (by decide +kernel) rfl rfl (Nat.le_of_ble_eq_true rfl) d_Mo_map_131 (fun H locs hP hD hS => ?_)
                  have hP : va_P D vwCl [(mo, .inr (8, [.int (nI 0), .int (nI (([] : List Int32).length)), .ref ta, .int (nI np), .ref aN, .ref aS, .ref aC, .int (nI tot), .ref aB, .int (bz_c rd), .int (nI rt), .int (nI pl), .ref aR, .ref aO, .int (nI sg), .ref aW, .int (bz_c true), .int (nI k52), .int (nI td2_1), .int (bz_c true), .ref aD, .int (nI X2_126.length), .ref a1, .ref a2, .ref a3, .ref a4, .int (nI td2_1), .ref aL, .int (nI J.length), .ref aY, .int (nI ms), .ref aM, .int (nI ip), .int (nI it), .int ir, .int (nI il), .ref bN, .ref bS, .ref bC, .ref bB, .ref bR, .ref bO, .ref aU])), (ta, .inl (cA 1, 72, .inl tf)), (aD, .inl (cA 1, 72, .inl df1)), (aC, .inl (cA 0, 5, .inl bc)), (aB, .inl (cA 0, 64, .inl bf)), (a1, .inl (cA 0, 128, .inl f1z_126)), (a2, .inl (cA 0, 128, .inl f2z_126)), (a3, .inl (cA 0, 128, .inl f3z_126)), (a4, .inl (cA 0, 128, .inl f4z_126))] H := hP
                  have hD : va_D A [(mo, .inr (8, [.int (nI 0), .int (nI (([] : List Int32).length)), .ref ta, .int (nI np), .ref aN, .ref aS, .ref aC, .int (nI tot), .ref aB, .int (bz_c rd), .int (nI rt), .int (nI pl), .ref aR, .ref aO, .int (nI sg), .ref aW, .int (bz_c true), .int (nI k52), .int (nI td2_1), .int (bz_c true), .ref aD, .int (nI X2_126.length), .ref a1, .ref a2, .ref a3, .ref a4, .int (nI td2_1), .ref aL, .int (nI J.length), .ref aY, .int (nI ms), .ref aM, .int (nI ip), .int (nI it), .int ir, .int (nI il), .ref bN, .ref bS, .ref bC, .ref bB, .ref bR, .ref bO, .ref aU])), (ta, .inl (cA 1, 72, .inl tf)), (aD, .inl (cA 1, 72, .inl df1)), (aC, .inl (cA 0, 5, .inl bc)), (aB, .inl (cA 0, 64, .inl bf)), (a1, .inl (cA 0, 128, .inl f1z_126)), (a2, .inl (cA 0, 128, .inl f2z_126)), (a3, .inl (cA 0, 128, .inl f3z_126)), (a4, .inl (cA 0, 128, .inl f4z_126))] := hD
                  refine lv_aload_n hx hb d_Mo_map_134 rfl (lv_at hl 0 rfl) ?_
                  refine va_get (C := RX8) (T := TX8) (N := 43) hx hb hts inX8 hown hK hP 0 rfl rfl 0 (by decide) (hts _ m_845) (fun _ h9 => h9) rfl d_Mo_map_135 ?_
                  refine lv_if_ne (tgt := 148) hx hb d_Mo_map_138 (by decide) (fun h9 => absurd h9 (by decide)) (fun _ => ?_)
                  refine lv_aload_n hx hb d_Mo_map_141 rfl (lv_at hl 0 rfl) ?_
                  refine va_get (C := RX8) (T := TX8) (N := 43) hx hb hts inX8 hown hK hP 0 rfl rfl 21 (by decide) (hts _ m_866) (fun _ h9 => h9) rfl d_Mo_map_142 ?_
                  refine lv_goto (tgt := 149) hx hb d_Mo_map_145 (by decide) ?_
                  exact hret (nI X2_126.length) (nI 0, k52, td2_1, true, true, td2_1, df1, X2_126, f1z_126, f2z_126, f3z_126, f4z_126) _ _ _ 149 d_Mo_map_149 (by obtain ⟨y1, y2, y3, y4, y5⟩ := hq126; exact ⟨cd_clear hc, ⟨y2, y3, y4, y5⟩, Or.inr (Or.inr ⟨rfl, ⟨⟨k52, e0, hpr⟩, h16, h21⟩, bz_1 h32, rfl, k52, e0, kk, hpr, hkk, rfl, rfl, by omega, Or.inl ⟨rfl, by omega⟩, hdl, by rw [he0] at y1; exact y1, rfl⟩)⟩) hP hD hS
                · intro h96
                  refine lv_aload_n hx hb d_Mo_map_99 rfl (lv_at hl 0 rfl) ?_
                  refine va_get (C := RX8) (T := TX8) (N := 43) hx hb hts inX8 hown hK hP 0 rfl rfl 20 (by decide) (hts _ m_865) (fun _ h9 => h9) rfl d_Mo_map_100 ?_
                  refine lv_iload hx hb d_Mo_map_103 (lv_at hl 2 rfl) ?_
                  refine lv_aload_n hx hb d_Mo_map_105 rfl (lv_at hl 0 rfl) ?_
                  refine va_get (C := RX8) (T := TX8) (N := 43) hx hb hts inX8 hown hK hP 0 rfl rfl 2 (by decide) (hts _ m_847) (fun _ h9 => h9) rfl d_Mo_map_106 ?_
                  refine lv_iload hx hb d_Mo_map_109 (lv_at hl 2 rfl) ?_
                  refine wn_cald hx hb hK hP 1 1 rfl rfl (by omega) (by omega) d_Mo_map_111 ?_
                  refine wn_eq (y := L.getD j 0) (hc.2.2 j (by omega)) ?_
                  refine wn_cast hx hb hK hP hD hS 2 1 rfl rfl (by omega) (by omega) (ch_f (htx j (by omega))) d_Mo_map_112 (fun H locs hP hD hS => ?_)
                  have hP : va_P D vwCl [(mo, .inr (8, [.int (nI 0), .int (nI L.length), .ref ta, .int (nI np), .ref aN, .ref aS, .ref aC, .int (nI tot), .ref aB, .int (bz_c rd), .int (nI rt), .int (nI pl), .ref aR, .ref aO, .int (nI sg), .ref aW, .int (bz_c mp), .int (nI k52), .int (nI td2_1), .int (bz_c true), .ref aD, .int (nI X.length), .ref a1, .ref a2, .ref a3, .ref a4, .int (nI td2_1), .ref aL, .int (nI J.length), .ref aY, .int (nI ms), .ref aM, .int (nI ip), .int (nI it), .int ir, .int (nI il), .ref bN, .ref bS, .ref bC, .ref bB, .ref bR, .ref bO, .ref aU])), (ta, .inl (cA 1, 72, .inl tf)), (aD, .inl (cA 1, 72, .inl (upd df1 j (L.getD j 0)))), (aC, .inl (cA 0, 5, .inl bc)), (aB, .inl (cA 0, 64, .inl bf)), (a1, .inl (cA 0, 128, .inl f1)), (a2, .inl (cA 0, 128, .inl f2)), (a3, .inl (cA 0, 128, .inl f3)), (a4, .inl (cA 0, 128, .inl f4))] H := hP
                  have hD : va_D A [(mo, .inr (8, [.int (nI 0), .int (nI L.length), .ref ta, .int (nI np), .ref aN, .ref aS, .ref aC, .int (nI tot), .ref aB, .int (bz_c rd), .int (nI rt), .int (nI pl), .ref aR, .ref aO, .int (nI sg), .ref aW, .int (bz_c mp), .int (nI k52), .int (nI td2_1), .int (bz_c true), .ref aD, .int (nI X.length), .ref a1, .ref a2, .ref a3, .ref a4, .int (nI td2_1), .ref aL, .int (nI J.length), .ref aY, .int (nI ms), .ref aM, .int (nI ip), .int (nI it), .int ir, .int (nI il), .ref bN, .ref bS, .ref bC, .ref bB, .ref bR, .ref bO, .ref aU])), (ta, .inl (cA 1, 72, .inl tf)), (aD, .inl (cA 1, 72, .inl (upd df1 j (L.getD j 0)))), (aC, .inl (cA 0, 5, .inl bc)), (aB, .inl (cA 0, 64, .inl bf)), (a1, .inl (cA 0, 128, .inl f1)), (a2, .inl (cA 0, 128, .inl f2)), (a3, .inl (cA 0, 128, .inl f3)), (a4, .inl (cA 0, 128, .inl f4))] := hD
                  refine lv_iinc (k := 2) (v := nI (j + 1)) (lv' := [(4, .int (nI (j + 1))), (0, .ref mo), (1, .int (nI kk))]) hx hb d_Mo_map_113 hl rfl (wi_inc1 _) (by decide) rfl (fun ls hl => ?_)
                  refine lv_goto (tgt := 90) hx hb d_Mo_map_116 (by decide) ?_
                  exact ih90 _ (by omega) (j + 1) (upd df1 j (L.getD j 0)) _ _ _ rfl (by first | assumption | omega) (up_s hs rfl) hP hD hS (lv_sub hl [1, 2, 0] rfl)
            exact L90 _ 0 df _ _ _ rfl (by first | assumption | omega) (fun j hj => absurd hj (Nat.not_lt_zero j)) hP hD hS (lv_sub hl [3, 4, 0] rfl)
        · intro h32
          refine lv_iconst (v := nI 2) hx hb d_Mo_map_35 (by decide) ?_
          refine lv_goto (tgt := 40) hx hb d_Mo_map_36 (by decide) ?_
          refine va_put (D := D) (ci := 8) (v := .int (nI 2)) (ty := .int) (C := RX8) (T := TX8) (N := 43) hx hb hts inX8 tyX8 tyX8_ok nmX8 hown hK hP hD hS 0 rfl rfl 0 (by decide) (hts _ m_845) (fun _ h9 => h9) rfl (by decide +kernel) rfl rfl (Nat.le_of_ble_eq_true rfl) d_Mo_map_40 (fun H locs hP hD hS => ?_)
          have hP : va_P D vwCl [(mo, .inr (8, [.int (nI 2), .int (nI L.length), .ref ta, .int (nI np), .ref aN, .ref aS, .ref aC, .int (nI tot), .ref aB, .int (bz_c rd), .int (nI rt), .int (nI pl), .ref aR, .ref aO, .int (nI sg), .ref aW, .int (bz_c mp), .int (nI rn), .int (nI rs), .int (bz_c gd), .ref aD, .int (nI X.length), .ref a1, .ref a2, .ref a3, .ref a4, .int (nI td2_1), .ref aL, .int (nI J.length), .ref aY, .int (nI ms), .ref aM, .int (nI ip), .int (nI it), .int ir, .int (nI il), .ref bN, .ref bS, .ref bC, .ref bB, .ref bR, .ref bO, .ref aU])), (ta, .inl (cA 1, 72, .inl tf)), (aD, .inl (cA 1, 72, .inl df)), (aC, .inl (cA 0, 5, .inl bc)), (aB, .inl (cA 0, 64, .inl bf)), (a1, .inl (cA 0, 128, .inl f1)), (a2, .inl (cA 0, 128, .inl f2)), (a3, .inl (cA 0, 128, .inl f3)), (a4, .inl (cA 0, 128, .inl f4))] H := hP
          have hD : va_D A [(mo, .inr (8, [.int (nI 2), .int (nI L.length), .ref ta, .int (nI np), .ref aN, .ref aS, .ref aC, .int (nI tot), .ref aB, .int (bz_c rd), .int (nI rt), .int (nI pl), .ref aR, .ref aO, .int (nI sg), .ref aW, .int (bz_c mp), .int (nI rn), .int (nI rs), .int (bz_c gd), .ref aD, .int (nI X.length), .ref a1, .ref a2, .ref a3, .ref a4, .int (nI td2_1), .ref aL, .int (nI J.length), .ref aY, .int (nI ms), .ref aM, .int (nI ip), .int (nI it), .int ir, .int (nI il), .ref bN, .ref bS, .ref bC, .ref bB, .ref bR, .ref bO, .ref aU])), (ta, .inl (cA 1, 72, .inl tf)), (aD, .inl (cA 1, 72, .inl df)), (aC, .inl (cA 0, 5, .inl bc)), (aB, .inl (cA 0, 64, .inl bf)), (a1, .inl (cA 0, 128, .inl f1)), (a2, .inl (cA 0, 128, .inl f2)), (a3, .inl (cA 0, 128, .inl f3)), (a4, .inl (cA 0, 128, .inl f4))] := hD
          refine lv_aload_n hx hb d_Mo_map_43 rfl (lv_at hl 2 rfl) ?_
          refine va_get (C := RX8) (T := TX8) (N := 43) hx hb hts inX8 hown hK hP 0 rfl rfl 0 (by decide) (hts _ m_845) (fun _ h9 => h9) rfl d_Mo_map_44 ?_
          refine lv_if_ne (tgt := 129) hx hb d_Mo_map_47 (by decide) (fun _ => ?_) (fun h9 => absurd h9 (by decide))
          refine lv_aload_n hx hb d_Mo_map_129 rfl (lv_at hl 2 rfl) ?_
          refine lv_iconst (v := nI (([] : List Int32).length)) hx hb d_Mo_map_130 rfl ?_
          refine va_put (D := D) (ci := 8) (v := .int (nI (([] : List Int32).length))) (ty := .int) (C := RX8) (T := TX8) (N := 43) hx hb hts inX8 tyX8 tyX8_ok nmX8 hown hK hP hD hS 0 rfl rfl 1 (by decide) (hts _ m_846) (fun _ h9 => h9) rfl (by decide +kernel) rfl rfl (Nat.le_of_ble_eq_true rfl) d_Mo_map_131 (fun H locs hP hD hS => ?_)
          have hP : va_P D vwCl [(mo, .inr (8, [.int (nI 2), .int (nI (([] : List Int32).length)), .ref ta, .int (nI np), .ref aN, .ref aS, .ref aC, .int (nI tot), .ref aB, .int (bz_c rd), .int (nI rt), .int (nI pl), .ref aR, .ref aO, .int (nI sg), .ref aW, .int (bz_c mp), .int (nI rn), .int (nI rs), .int (bz_c gd), .ref aD, .int (nI X.length), .ref a1, .ref a2, .ref a3, .ref a4, .int (nI td2_1), .ref aL, .int (nI J.length), .ref aY, .int (nI ms), .ref aM, .int (nI ip), .int (nI it), .int ir, .int (nI il), .ref bN, .ref bS, .ref bC, .ref bB, .ref bR, .ref bO, .ref aU])), (ta, .inl (cA 1, 72, .inl tf)), (aD, .inl (cA 1, 72, .inl df)), (aC, .inl (cA 0, 5, .inl bc)), (aB, .inl (cA 0, 64, .inl bf)), (a1, .inl (cA 0, 128, .inl f1)), (a2, .inl (cA 0, 128, .inl f2)), (a3, .inl (cA 0, 128, .inl f3)), (a4, .inl (cA 0, 128, .inl f4))] H := hP
          have hD : va_D A [(mo, .inr (8, [.int (nI 2), .int (nI (([] : List Int32).length)), .ref ta, .int (nI np), .ref aN, .ref aS, .ref aC, .int (nI tot), .ref aB, .int (bz_c rd), .int (nI rt), .int (nI pl), .ref aR, .ref aO, .int (nI sg), .ref aW, .int (bz_c mp), .int (nI rn), .int (nI rs), .int (bz_c gd), .ref aD, .int (nI X.length), .ref a1, .ref a2, .ref a3, .ref a4, .int (nI td2_1), .ref aL, .int (nI J.length), .ref aY, .int (nI ms), .ref aM, .int (nI ip), .int (nI it), .int ir, .int (nI il), .ref bN, .ref bS, .ref bC, .ref bB, .ref bR, .ref bO, .ref aU])), (ta, .inl (cA 1, 72, .inl tf)), (aD, .inl (cA 1, 72, .inl df)), (aC, .inl (cA 0, 5, .inl bc)), (aB, .inl (cA 0, 64, .inl bf)), (a1, .inl (cA 0, 128, .inl f1)), (a2, .inl (cA 0, 128, .inl f2)), (a3, .inl (cA 0, 128, .inl f3)), (a4, .inl (cA 0, 128, .inl f4))] := hD
          refine lv_aload_n hx hb d_Mo_map_134 rfl (lv_at hl 2 rfl) ?_
          refine va_get (C := RX8) (T := TX8) (N := 43) hx hb hts inX8 hown hK hP 0 rfl rfl 0 (by decide) (hts _ m_845) (fun _ h9 => h9) rfl d_Mo_map_135 ?_
          refine lv_if_ne (tgt := 148) hx hb d_Mo_map_138 (by decide) (fun _ => ?_) (fun h9 => absurd h9 (by decide))
          refine lv_iconst (v := nI 0) hx hb d_Mo_map_148 (by decide) ?_
          exact hret (nI 0) (nI 2, rn, rs, gd, mp, td2_1, df, X, f1, f2, f3, f4) _ _ _ 149 d_Mo_map_149 (by first | exact ⟨cd_clear hc, ⟨h1c, h2c, h3c, h4c⟩, Or.inl ⟨rfl, fun y => hq1 y.1, rfl, rfl, rfl, rfl, rfl, rfl⟩⟩ | exact ⟨cd_clear hc, ⟨h1c, h2c, h3c, h4c⟩, Or.inl ⟨rfl, fun y => y.2.1 h16, rfl, rfl, rfl, rfl, rfl, rfl⟩⟩ | exact ⟨cd_clear hc, ⟨h1c, h2c, h3c, h4c⟩, Or.inl ⟨rfl, fun y => h21 y.2.2, rfl, rfl, rfl, rfl, rfl, rfl⟩⟩ | exact ⟨cd_clear hc, ⟨h1c, h2c, h3c, h4c⟩, Or.inr (Or.inl ⟨rfl, ⟨⟨k0, e0, hpr⟩, h16, h21⟩, bz_0 h32, rfl, rfl, rfl, rfl, rfl, rfl⟩)⟩) hP hD hS
      · intro h21
        refine lv_iconst (v := nI 1) hx hb d_Mo_map_24 (by decide) ?_
        refine lv_goto (tgt := 40) hx hb d_Mo_map_25 (by decide) ?_
        refine va_put (D := D) (ci := 8) (v := .int (nI 1)) (ty := .int) (C := RX8) (T := TX8) (N := 43) hx hb hts inX8 tyX8 tyX8_ok nmX8 hown hK hP hD hS 0 rfl rfl 0 (by decide) (hts _ m_845) (fun _ h9 => h9) rfl (by decide +kernel) rfl rfl (Nat.le_of_ble_eq_true rfl) d_Mo_map_40 (fun H locs hP hD hS => ?_)
        have hP : va_P D vwCl [(mo, .inr (8, [.int (nI 1), .int (nI L.length), .ref ta, .int (nI np), .ref aN, .ref aS, .ref aC, .int (nI tot), .ref aB, .int (bz_c rd), .int (nI rt), .int (nI pl), .ref aR, .ref aO, .int (nI sg), .ref aW, .int (bz_c mp), .int (nI rn), .int (nI rs), .int (bz_c gd), .ref aD, .int (nI X.length), .ref a1, .ref a2, .ref a3, .ref a4, .int (nI td2_1), .ref aL, .int (nI J.length), .ref aY, .int (nI ms), .ref aM, .int (nI ip), .int (nI it), .int ir, .int (nI il), .ref bN, .ref bS, .ref bC, .ref bB, .ref bR, .ref bO, .ref aU])), (ta, .inl (cA 1, 72, .inl tf)), (aD, .inl (cA 1, 72, .inl df)), (aC, .inl (cA 0, 5, .inl bc)), (aB, .inl (cA 0, 64, .inl bf)), (a1, .inl (cA 0, 128, .inl f1)), (a2, .inl (cA 0, 128, .inl f2)), (a3, .inl (cA 0, 128, .inl f3)), (a4, .inl (cA 0, 128, .inl f4))] H := hP
        have hD : va_D A [(mo, .inr (8, [.int (nI 1), .int (nI L.length), .ref ta, .int (nI np), .ref aN, .ref aS, .ref aC, .int (nI tot), .ref aB, .int (bz_c rd), .int (nI rt), .int (nI pl), .ref aR, .ref aO, .int (nI sg), .ref aW, .int (bz_c mp), .int (nI rn), .int (nI rs), .int (bz_c gd), .ref aD, .int (nI X.length), .ref a1, .ref a2, .ref a3, .ref a4, .int (nI td2_1), .ref aL, .int (nI J.length), .ref aY, .int (nI ms), .ref aM, .int (nI ip), .int (nI it), .int ir, .int (nI il), .ref bN, .ref bS, .ref bC, .ref bB, .ref bR, .ref bO, .ref aU])), (ta, .inl (cA 1, 72, .inl tf)), (aD, .inl (cA 1, 72, .inl df)), (aC, .inl (cA 0, 5, .inl bc)), (aB, .inl (cA 0, 64, .inl bf)), (a1, .inl (cA 0, 128, .inl f1)), (a2, .inl (cA 0, 128, .inl f2)), (a3, .inl (cA 0, 128, .inl f3)), (a4, .inl (cA 0, 128, .inl f4))] := hD
        refine lv_aload_n hx hb d_Mo_map_43 rfl (lv_at hl 2 rfl) ?_
        refine va_get (C := RX8) (T := TX8) (N := 43) hx hb hts inX8 hown hK hP 0 rfl rfl 0 (by decide) (hts _ m_845) (fun _ h9 => h9) rfl d_Mo_map_44 ?_
        refine lv_if_ne (tgt := 129) hx hb d_Mo_map_47 (by decide) (fun _ => ?_) (fun h9 => absurd h9 (by decide))
        refine lv_aload_n hx hb d_Mo_map_129 rfl (lv_at hl 2 rfl) ?_
        refine lv_iconst (v := nI (([] : List Int32).length)) hx hb d_Mo_map_130 rfl ?_
        refine va_put (D := D) (ci := 8) (v := .int (nI (([] : List Int32).length))) (ty := .int) (C := RX8) (T := TX8) (N := 43) hx hb hts inX8 tyX8 tyX8_ok nmX8 hown hK hP hD hS 0 rfl rfl 1 (by decide) (hts _ m_846) (fun _ h9 => h9) rfl (by decide +kernel) rfl rfl (Nat.le_of_ble_eq_true rfl) d_Mo_map_131 (fun H locs hP hD hS => ?_)
        have hP : va_P D vwCl [(mo, .inr (8, [.int (nI 1), .int (nI (([] : List Int32).length)), .ref ta, .int (nI np), .ref aN, .ref aS, .ref aC, .int (nI tot), .ref aB, .int (bz_c rd), .int (nI rt), .int (nI pl), .ref aR, .ref aO, .int (nI sg), .ref aW, .int (bz_c mp), .int (nI rn), .int (nI rs), .int (bz_c gd), .ref aD, .int (nI X.length), .ref a1, .ref a2, .ref a3, .ref a4, .int (nI td2_1), .ref aL, .int (nI J.length), .ref aY, .int (nI ms), .ref aM, .int (nI ip), .int (nI it), .int ir, .int (nI il), .ref bN, .ref bS, .ref bC, .ref bB, .ref bR, .ref bO, .ref aU])), (ta, .inl (cA 1, 72, .inl tf)), (aD, .inl (cA 1, 72, .inl df)), (aC, .inl (cA 0, 5, .inl bc)), (aB, .inl (cA 0, 64, .inl bf)), (a1, .inl (cA 0, 128, .inl f1)), (a2, .inl (cA 0, 128, .inl f2)), (a3, .inl (cA 0, 128, .inl f3)), (a4, .inl (cA 0, 128, .inl f4))] H := hP
        have hD : va_D A [(mo, .inr (8, [.int (nI 1), .int (nI (([] : List Int32).length)), .ref ta, .int (nI np), .ref aN, .ref aS, .ref aC, .int (nI tot), .ref aB, .int (bz_c rd), .int (nI rt), .int (nI pl), .ref aR, .ref aO, .int (nI sg), .ref aW, .int (bz_c mp), .int (nI rn), .int (nI rs), .int (bz_c gd), .ref aD, .int (nI X.length), .ref a1, .ref a2, .ref a3, .ref a4, .int (nI td2_1), .ref aL, .int (nI J.length), .ref aY, .int (nI ms), .ref aM, .int (nI ip), .int (nI it), .int ir, .int (nI il), .ref bN, .ref bS, .ref bC, .ref bB, .ref bR, .ref bO, .ref aU])), (ta, .inl (cA 1, 72, .inl tf)), (aD, .inl (cA 1, 72, .inl df)), (aC, .inl (cA 0, 5, .inl bc)), (aB, .inl (cA 0, 64, .inl bf)), (a1, .inl (cA 0, 128, .inl f1)), (a2, .inl (cA 0, 128, .inl f2)), (a3, .inl (cA 0, 128, .inl f3)), (a4, .inl (cA 0, 128, .inl f4))] := hD
        refine lv_aload_n hx hb d_Mo_map_134 rfl (lv_at hl 2 rfl) ?_
        refine va_get (C := RX8) (T := TX8) (N := 43) hx hb hts inX8 hown hK hP 0 rfl rfl 0 (by decide) (hts _ m_845) (fun _ h9 => h9) rfl d_Mo_map_135 ?_
        refine lv_if_ne (tgt := 148) hx hb d_Mo_map_138 (by decide) (fun _ => ?_) (fun h9 => absurd h9 (by decide))
        refine lv_iconst (v := nI 0) hx hb d_Mo_map_148 (by decide) ?_
        exact hret (nI 0) (nI 1, rn, rs, gd, mp, td2_1, df, X, f1, f2, f3, f4) _ _ _ 149 d_Mo_map_149 (by first | exact ⟨cd_clear hc, ⟨h1c, h2c, h3c, h4c⟩, Or.inl ⟨rfl, fun y => hq1 y.1, rfl, rfl, rfl, rfl, rfl, rfl⟩⟩ | exact ⟨cd_clear hc, ⟨h1c, h2c, h3c, h4c⟩, Or.inl ⟨rfl, fun y => y.2.1 h16, rfl, rfl, rfl, rfl, rfl, rfl⟩⟩ | exact ⟨cd_clear hc, ⟨h1c, h2c, h3c, h4c⟩, Or.inl ⟨rfl, fun y => h21 y.2.2, rfl, rfl, rfl, rfl, rfl, rfl⟩⟩ | exact ⟨cd_clear hc, ⟨h1c, h2c, h3c, h4c⟩, Or.inr (Or.inl ⟨rfl, ⟨⟨k0, e0, hpr⟩, h16, h21⟩, bz_0 h32, rfl, rfl, rfl, rfl, rfl, rfl⟩)⟩) hP hD hS
  ·
    refine lv_istore_n (lv' := [(2, .int 0), (0, .ref mo), (1, .int kx)]) hx hb d_Mo_map_4 rfl hl (by decide) rfl (fun ls hl => ?_)
    refine lv_aload_n hx hb d_Mo_map_5 rfl (lv_at hl 1 rfl) ?_
    refine va_get (C := RX8) (T := TX8) (N := 43) hx hb hts inX8 hown hK hP 0 rfl rfl 26 (by decide) (hts _ m_871) (fun _ h9 => h9) rfl d_Mo_map_6 ?_
    refine lv_istore_n (lv' := [(3, .int (nI td2_1)), (2, .int 0), (0, .ref mo), (1, .int kx)]) hx hb d_Mo_map_9 rfl hl (by decide) rfl (fun ls hl => ?_)
    refine lv_aload_n hx hb d_Mo_map_10 rfl (lv_at hl 2 rfl) ?_
    refine lv_iload_n hx hb d_Mo_map_11 rfl (lv_at hl 1 rfl) ?_
    refine lv_if_eq (tgt := 24) hx hb d_Mo_map_12 (by decide) (fun _ => ?_) (fun h9 => absurd h9 (by decide))
    refine lv_iconst (v := nI 1) hx hb d_Mo_map_24 (by decide) ?_
    refine lv_goto (tgt := 40) hx hb d_Mo_map_25 (by decide) ?_
    refine va_put (D := D) (ci := 8) (v := .int (nI 1)) (ty := .int) (C := RX8) (T := TX8) (N := 43) hx hb hts inX8 tyX8 tyX8_ok nmX8 hown hK hP hD hS 0 rfl rfl 0 (by decide) (hts _ m_845) (fun _ h9 => h9) rfl (by decide +kernel) rfl rfl (Nat.le_of_ble_eq_true rfl) d_Mo_map_40 (fun H locs hP hD hS => ?_)
    have hP : va_P D vwCl [(mo, .inr (8, [.int (nI 1), .int (nI L.length), .ref ta, .int (nI np), .ref aN, .ref aS, .ref aC, .int (nI tot), .ref aB, .int (bz_c rd), .int (nI rt), .int (nI pl), .ref aR, .ref aO, .int (nI sg), .ref aW, .int (bz_c mp), .int (nI rn), .int (nI rs), .int (bz_c gd), .ref aD, .int (nI X.length), .ref a1, .ref a2, .ref a3, .ref a4, .int (nI td2_1), .ref aL, .int (nI J.length), .ref aY, .int (nI ms), .ref aM, .int (nI ip), .int (nI it), .int ir, .int (nI il), .ref bN, .ref bS, .ref bC, .ref bB, .ref bR, .ref bO, .ref aU])), (ta, .inl (cA 1, 72, .inl tf)), (aD, .inl (cA 1, 72, .inl df)), (aC, .inl (cA 0, 5, .inl bc)), (aB, .inl (cA 0, 64, .inl bf)), (a1, .inl (cA 0, 128, .inl f1)), (a2, .inl (cA 0, 128, .inl f2)), (a3, .inl (cA 0, 128, .inl f3)), (a4, .inl (cA 0, 128, .inl f4))] H := hP
    have hD : va_D A [(mo, .inr (8, [.int (nI 1), .int (nI L.length), .ref ta, .int (nI np), .ref aN, .ref aS, .ref aC, .int (nI tot), .ref aB, .int (bz_c rd), .int (nI rt), .int (nI pl), .ref aR, .ref aO, .int (nI sg), .ref aW, .int (bz_c mp), .int (nI rn), .int (nI rs), .int (bz_c gd), .ref aD, .int (nI X.length), .ref a1, .ref a2, .ref a3, .ref a4, .int (nI td2_1), .ref aL, .int (nI J.length), .ref aY, .int (nI ms), .ref aM, .int (nI ip), .int (nI it), .int ir, .int (nI il), .ref bN, .ref bS, .ref bC, .ref bB, .ref bR, .ref bO, .ref aU])), (ta, .inl (cA 1, 72, .inl tf)), (aD, .inl (cA 1, 72, .inl df)), (aC, .inl (cA 0, 5, .inl bc)), (aB, .inl (cA 0, 64, .inl bf)), (a1, .inl (cA 0, 128, .inl f1)), (a2, .inl (cA 0, 128, .inl f2)), (a3, .inl (cA 0, 128, .inl f3)), (a4, .inl (cA 0, 128, .inl f4))] := hD
    refine lv_aload_n hx hb d_Mo_map_43 rfl (lv_at hl 2 rfl) ?_
    refine va_get (C := RX8) (T := TX8) (N := 43) hx hb hts inX8 hown hK hP 0 rfl rfl 0 (by decide) (hts _ m_845) (fun _ h9 => h9) rfl d_Mo_map_44 ?_
    refine lv_if_ne (tgt := 129) hx hb d_Mo_map_47 (by decide) (fun _ => ?_) (fun h9 => absurd h9 (by decide))
    refine lv_aload_n hx hb d_Mo_map_129 rfl (lv_at hl 2 rfl) ?_
    refine lv_iconst (v := nI (([] : List Int32).length)) hx hb d_Mo_map_130 rfl ?_
    refine va_put (D := D) (ci := 8) (v := .int (nI (([] : List Int32).length))) (ty := .int) (C := RX8) (T := TX8) (N := 43) hx hb hts inX8 tyX8 tyX8_ok nmX8 hown hK hP hD hS 0 rfl rfl 1 (by decide) (hts _ m_846) (fun _ h9 => h9) rfl (by decide +kernel) rfl rfl (Nat.le_of_ble_eq_true rfl) d_Mo_map_131 (fun H locs hP hD hS => ?_)
    have hP : va_P D vwCl [(mo, .inr (8, [.int (nI 1), .int (nI (([] : List Int32).length)), .ref ta, .int (nI np), .ref aN, .ref aS, .ref aC, .int (nI tot), .ref aB, .int (bz_c rd), .int (nI rt), .int (nI pl), .ref aR, .ref aO, .int (nI sg), .ref aW, .int (bz_c mp), .int (nI rn), .int (nI rs), .int (bz_c gd), .ref aD, .int (nI X.length), .ref a1, .ref a2, .ref a3, .ref a4, .int (nI td2_1), .ref aL, .int (nI J.length), .ref aY, .int (nI ms), .ref aM, .int (nI ip), .int (nI it), .int ir, .int (nI il), .ref bN, .ref bS, .ref bC, .ref bB, .ref bR, .ref bO, .ref aU])), (ta, .inl (cA 1, 72, .inl tf)), (aD, .inl (cA 1, 72, .inl df)), (aC, .inl (cA 0, 5, .inl bc)), (aB, .inl (cA 0, 64, .inl bf)), (a1, .inl (cA 0, 128, .inl f1)), (a2, .inl (cA 0, 128, .inl f2)), (a3, .inl (cA 0, 128, .inl f3)), (a4, .inl (cA 0, 128, .inl f4))] H := hP
    have hD : va_D A [(mo, .inr (8, [.int (nI 1), .int (nI (([] : List Int32).length)), .ref ta, .int (nI np), .ref aN, .ref aS, .ref aC, .int (nI tot), .ref aB, .int (bz_c rd), .int (nI rt), .int (nI pl), .ref aR, .ref aO, .int (nI sg), .ref aW, .int (bz_c mp), .int (nI rn), .int (nI rs), .int (bz_c gd), .ref aD, .int (nI X.length), .ref a1, .ref a2, .ref a3, .ref a4, .int (nI td2_1), .ref aL, .int (nI J.length), .ref aY, .int (nI ms), .ref aM, .int (nI ip), .int (nI it), .int ir, .int (nI il), .ref bN, .ref bS, .ref bC, .ref bB, .ref bR, .ref bO, .ref aU])), (ta, .inl (cA 1, 72, .inl tf)), (aD, .inl (cA 1, 72, .inl df)), (aC, .inl (cA 0, 5, .inl bc)), (aB, .inl (cA 0, 64, .inl bf)), (a1, .inl (cA 0, 128, .inl f1)), (a2, .inl (cA 0, 128, .inl f2)), (a3, .inl (cA 0, 128, .inl f3)), (a4, .inl (cA 0, 128, .inl f4))] := hD
    refine lv_aload_n hx hb d_Mo_map_134 rfl (lv_at hl 2 rfl) ?_
    refine va_get (C := RX8) (T := TX8) (N := 43) hx hb hts inX8 hown hK hP 0 rfl rfl 0 (by decide) (hts _ m_845) (fun _ h9 => h9) rfl d_Mo_map_135 ?_
    refine lv_if_ne (tgt := 148) hx hb d_Mo_map_138 (by decide) (fun _ => ?_) (fun h9 => absurd h9 (by decide))
    refine lv_iconst (v := nI 0) hx hb d_Mo_map_148 (by decide) ?_
    exact hret (nI 0) (nI 1, rn, rs, gd, mp, td2_1, df, X, f1, f2, f3, f4) _ _ _ 149 d_Mo_map_149 (by first | exact ⟨cd_clear hc, ⟨h1c, h2c, h3c, h4c⟩, Or.inl ⟨rfl, fun y => hq1 y.1, rfl, rfl, rfl, rfl, rfl, rfl⟩⟩ | exact ⟨cd_clear hc, ⟨h1c, h2c, h3c, h4c⟩, Or.inl ⟨rfl, fun y => y.2.1 h16, rfl, rfl, rfl, rfl, rfl, rfl⟩⟩ | exact ⟨cd_clear hc, ⟨h1c, h2c, h3c, h4c⟩, Or.inl ⟨rfl, fun y => h21 y.2.2, rfl, rfl, rfl, rfl, rfl, rfl⟩⟩ | exact ⟨cd_clear hc, ⟨h1c, h2c, h3c, h4c⟩, Or.inr (Or.inl ⟨rfl, ⟨⟨k0, e0, hpr⟩, h16, h21⟩, bz_0 h32, rfl, rfl, rfl, rfl, rfl, rfl⟩)⟩) hP hD hS
theorem k_Mo_map : cf_V y_Mo_map b_Mo_map 5 (some .int) "ReadMapperModel" 1 := ⟨⟨m_1064, m_1065, m_9, m_1066⟩, by decide +kernel⟩
set_option maxHeartbeats 4000000 in
set_option maxRecDepth 100000 in
theorem c_Mo_hit (l : Launch) (D : va_G) (cA : Nat → ClassId) (K : Nat → Nat) (mo ta aN aS aC aB aR aO aW aD a1 a2 a3 a4 aL aY aM bN bS bC bB bR bO aU : Nat) (rd mp gd : Bool) (zt ir : Int32) (np tot rt pl sg rn rs td ms ip it il : Nat) (L J : List Int32) (f1 : Nat → Int32) (f2 : Nat → Int32) (f3 : Nat → Int32) (f4 : Nat → Int32) (X : List (Nat × Nat × Nat × Nat)) (i x : Int32) (h1c : cd_r 128 f1 (hp_c X)) (h2c : cd_r 128 f2 (hl_c X)) (h3c : cd_r 128 f3 (hs_c X)) (h4c : cd_r 128 f4 (hm_c X)) : ck_I l y_Mo_hit (Cond.code y_Mo_hit b_Mo_hit 3 (some .int) :: w_all) 1 D cA K [.ref mo, .int i, .int x] [(mo, .inr (8, [.int zt, .int (nI L.length), .ref ta, .int (nI np), .ref aN, .ref aS, .ref aC, .int (nI tot), .ref aB, .int (bz_c rd), .int (nI rt), .int (nI pl), .ref aR, .ref aO, .int (nI sg), .ref aW, .int (bz_c mp), .int (nI rn), .int (nI rs), .int (bz_c gd), .ref aD, .int (nI X.length), .ref a1, .ref a2, .ref a3, .ref a4, .int (nI td), .ref aL, .int (nI J.length), .ref aY, .int (nI ms), .ref aM, .int (nI ip), .int (nI it), .int ir, .int (nI il), .ref bN, .ref bS, .ref bC, .ref bB, .ref bR, .ref bO, .ref aU])), (a1, .inl (cA 0, 128, .inl f1)), (a2, .inl (cA 0, 128, .inl f2)), (a3, .inl (cA 0, 128, .inl f3)), (a4, .inl (cA 0, 128, .inl f4))] (fun (r : Int32) (u : Unit) => r = ab_c X i x) (fun u => [(mo, .inr (8, [.int (nI 0), .int (nI L.length), .ref ta, .int (nI np), .ref aN, .ref aS, .ref aC, .int (nI tot), .ref aB, .int (bz_c rd), .int (nI rt), .int (nI pl), .ref aR, .ref aO, .int (nI sg), .ref aW, .int (bz_c mp), .int (nI rn), .int (nI rs), .int (bz_c gd), .ref aD, .int (nI X.length), .ref a1, .ref a2, .ref a3, .ref a4, .int (nI td), .ref aL, .int (nI J.length), .ref aY, .int (nI ms), .ref aM, .int (nI ip), .int (nI it), .int ir, .int (nI il), .ref bN, .ref bS, .ref bC, .ref bB, .ref bR, .ref bO, .ref aU])), (a1, .inl (cA 0, 128, .inl f1)), (a2, .inl (cA 0, 128, .inl f2)), (a3, .inl (cA 0, 128, .inl f3)), (a4, .inl (cA 0, 128, .inl f4))]) := by
  refine ck_mkI (by decide) (fun _ _ _ => rfl) (Nat.le_of_ble_eq_true rfl) ?_
  intro pG eG sG mG argsG belowG methG cG Q A H locs ls hx hb hml hown hts hK hE hA hP hD hS hl hret
  have hl : lv_has ls 3 [(0, .ref mo), (1, .int i), (2, .int x)] := hl
  have hl1 := cd_len h4c
  rw [hx_len4] at hl1
  refine lv_aload_n hx hb d_Mo_hit_0 rfl (lv_at hl 0 rfl) ?_
  refine lv_iconst (v := nI 0) hx hb d_Mo_hit_1 (by decide) ?_
  refine va_put (D := D) (ci := 8) (v := .int (nI 0)) (ty := .int) (C := RX8) (T := TX8) (N := 43) hx hb hts inX8 tyX8 tyX8_ok nmX8 hown hK hP hD hS 0 rfl rfl 0 (by decide) (hts _ m_845) (fun _ h9 => h9) rfl (by decide +kernel) rfl rfl (Nat.le_of_ble_eq_true rfl) d_Mo_hit_2 (fun H locs hP hD hS => ?_)
  have hP : va_P D vwCl [(mo, .inr (8, [.int (nI 0), .int (nI L.length), .ref ta, .int (nI np), .ref aN, .ref aS, .ref aC, .int (nI tot), .ref aB, .int (bz_c rd), .int (nI rt), .int (nI pl), .ref aR, .ref aO, .int (nI sg), .ref aW, .int (bz_c mp), .int (nI rn), .int (nI rs), .int (bz_c gd), .ref aD, .int (nI X.length), .ref a1, .ref a2, .ref a3, .ref a4, .int (nI td), .ref aL, .int (nI J.length), .ref aY, .int (nI ms), .ref aM, .int (nI ip), .int (nI it), .int ir, .int (nI il), .ref bN, .ref bS, .ref bC, .ref bB, .ref bR, .ref bO, .ref aU])), (a1, .inl (cA 0, 128, .inl f1)), (a2, .inl (cA 0, 128, .inl f2)), (a3, .inl (cA 0, 128, .inl f3)), (a4, .inl (cA 0, 128, .inl f4))] H := hP
  have hD : va_D A [(mo, .inr (8, [.int (nI 0), .int (nI L.length), .ref ta, .int (nI np), .ref aN, .ref aS, .ref aC, .int (nI tot), .ref aB, .int (bz_c rd), .int (nI rt), .int (nI pl), .ref aR, .ref aO, .int (nI sg), .ref aW, .int (bz_c mp), .int (nI rn), .int (nI rs), .int (bz_c gd), .ref aD, .int (nI X.length), .ref a1, .ref a2, .ref a3, .ref a4, .int (nI td), .ref aL, .int (nI J.length), .ref aY, .int (nI ms), .ref aM, .int (nI ip), .int (nI it), .int ir, .int (nI il), .ref bN, .ref bS, .ref bC, .ref bB, .ref bR, .ref bO, .ref aU])), (a1, .inl (cA 0, 128, .inl f1)), (a2, .inl (cA 0, 128, .inl f2)), (a3, .inl (cA 0, 128, .inl f3)), (a4, .inl (cA 0, 128, .inl f4))] := hD
  refine lv_iload_n hx hb d_Mo_hit_5 rfl (lv_at hl 1 rfl) ?_
  refine lv_if_lt (tgt := 26) hx hb d_Mo_hit_6 (by decide) ?_ ?_
  · intro h6
    refine lv_iconst (v := (-1)) hx hb d_Mo_hit_26 (by decide) ?_
    exact hret (-1) () _ _ _ 27 d_Mo_hit_27 (by first | exact (ab_o1 (Or.inl h6)).symm | exact (ab_o1 (Or.inr h14)).symm | exact (ab_out (Or.inl (in_neg h18))).symm | exact (ab_out (Or.inr (in_3 h23))).symm) hP hD hS
  · intro h6
    refine lv_iload_n hx hb d_Mo_hit_9 rfl (lv_at hl 1 rfl) ?_
    refine lv_aload_n hx hb d_Mo_hit_10 rfl (lv_at hl 0 rfl) ?_
    refine va_get (C := RX8) (T := TX8) (N := 43) hx hb hts inX8 hown hK hP 0 rfl rfl 21 (by decide) (hts _ m_866) (fun _ h9 => h9) rfl d_Mo_hit_11 ?_
    refine lv_icmp_ge (tgt := 26) hx hb d_Mo_hit_14 (by decide) ?_ ?_
    · intro h14
      refine lv_iconst (v := (-1)) hx hb d_Mo_hit_26 (by decide) ?_
      exact hret (-1) () _ _ _ 27 d_Mo_hit_27 (by first | exact (ab_o1 (Or.inl h6)).symm | exact (ab_o1 (Or.inr h14)).symm | exact (ab_out (Or.inl (in_neg h18))).symm | exact (ab_out (Or.inr (in_3 h23))).symm) hP hD hS
    · intro h14
      refine lv_iload_n hx hb d_Mo_hit_17 rfl (lv_at hl 2 rfl) ?_
      refine lv_if_lt (tgt := 26) hx hb d_Mo_hit_18 (by decide) ?_ ?_
      · intro h18
        refine lv_iconst (v := (-1)) hx hb d_Mo_hit_26 (by decide) ?_
        exact hret (-1) () _ _ _ 27 d_Mo_hit_27 (by first | exact (ab_o1 (Or.inl h6)).symm | exact (ab_o1 (Or.inr h14)).symm | exact (ab_out (Or.inl (in_neg h18))).symm | exact (ab_out (Or.inr (in_3 h23))).symm) hP hD hS
      · intro h18
        refine lv_iload_n hx hb d_Mo_hit_21 rfl (lv_at hl 2 rfl) ?_
        refine lv_iconst (v := 3) hx hb d_Mo_hit_22 (by decide) ?_
        refine lv_icmp_le (tgt := 28) hx hb d_Mo_hit_23 (by decide) ?_ ?_
        · intro h23
          obtain ⟨k, hk, rfl⟩ := hx_in (by omega) h6 h14
          refine lv_iload_n hx hb d_Mo_hit_28 rfl (lv_at hl 2 rfl) ?_
          refine lv_if_ne (tgt := 41) hx hb d_Mo_hit_29 (by decide) ?_ ?_
          · intro h29
            refine lv_iload_n hx hb d_Mo_hit_41 rfl (lv_at hl 2 rfl) ?_
            refine lv_iconst (v := 1) hx hb d_Mo_hit_42 (by decide) ?_
            refine lv_icmp_ne (tgt := 55) hx hb d_Mo_hit_43 (by decide) ?_ ?_
            · intro h43
              refine lv_iload_n hx hb d_Mo_hit_55 rfl (lv_at hl 2 rfl) ?_
              refine lv_iconst (v := 2) hx hb d_Mo_hit_56 (by decide) ?_
              refine lv_icmp_ne (tgt := 69) hx hb d_Mo_hit_57 (by decide) ?_ ?_
              · intro h57
                refine lv_aload_n hx hb d_Mo_hit_69 rfl (lv_at hl 0 rfl) ?_
                refine va_get (C := RX8) (T := TX8) (N := 43) hx hb hts inX8 hown hK hP 0 rfl rfl 25 (by decide) (hts _ m_870) (fun _ h9 => h9) rfl d_Mo_hit_70 ?_
                refine lv_iload_n hx hb d_Mo_hit_73 rfl (lv_at hl 1 rfl) ?_
                refine wn_iald hx hb hK hP 4 0 rfl rfl (by omega) (by omega) d_Mo_hit_74 ?_
                refine wn_eq (y := (hm_c X).getD k 0) (h4c.2.2 k (by rw [hx_len4]; exact hk)) ?_
                exact hret ((hm_c X).getD k 0) () _ _ _ 75 d_Mo_hit_75 (by first | exact ab_0 hk hl1 h29 | exact ab_1 hk hl1 h29 h43 | exact ab_2 hk hl1 h29 h43 h57 | exact ab_3 hk hl1 h18 h23 h29 h43 h57) hP hD hS
              · intro h57
                refine lv_aload_n hx hb d_Mo_hit_60 rfl (lv_at hl 0 rfl) ?_
                refine va_get (C := RX8) (T := TX8) (N := 43) hx hb hts inX8 hown hK hP 0 rfl rfl 24 (by decide) (hts _ m_869) (fun _ h9 => h9) rfl d_Mo_hit_61 ?_
                refine lv_iload_n hx hb d_Mo_hit_64 rfl (lv_at hl 1 rfl) ?_
                refine wn_iald hx hb hK hP 3 0 rfl rfl (by omega) (by omega) d_Mo_hit_65 ?_
                refine wn_eq (y := (hs_c X).getD k 0) (h3c.2.2 k (by rw [hx_len3]; exact hk)) ?_
                refine lv_goto (tgt := 75) hx hb d_Mo_hit_66 (by decide) ?_
                exact hret ((hs_c X).getD k 0) () _ _ _ 75 d_Mo_hit_75 (by first | exact ab_0 hk hl1 h29 | exact ab_1 hk hl1 h29 h43 | exact ab_2 hk hl1 h29 h43 h57 | exact ab_3 hk hl1 h18 h23 h29 h43 h57) hP hD hS
            · intro h43
              refine lv_aload_n hx hb d_Mo_hit_46 rfl (lv_at hl 0 rfl) ?_
              refine va_get (C := RX8) (T := TX8) (N := 43) hx hb hts inX8 hown hK hP 0 rfl rfl 23 (by decide) (hts _ m_868) (fun _ h9 => h9) rfl d_Mo_hit_47 ?_
              refine lv_iload_n hx hb d_Mo_hit_50 rfl (lv_at hl 1 rfl) ?_
              refine wn_iald hx hb hK hP 2 0 rfl rfl (by omega) (by omega) d_Mo_hit_51 ?_
              refine wn_eq (y := (hl_c X).getD k 0) (h2c.2.2 k (by rw [hx_len2]; exact hk)) ?_
              refine lv_goto (tgt := 75) hx hb d_Mo_hit_52 (by decide) ?_
              exact hret ((hl_c X).getD k 0) () _ _ _ 75 d_Mo_hit_75 (by first | exact ab_0 hk hl1 h29 | exact ab_1 hk hl1 h29 h43 | exact ab_2 hk hl1 h29 h43 h57 | exact ab_3 hk hl1 h18 h23 h29 h43 h57) hP hD hS
          · intro h29
            refine lv_aload_n hx hb d_Mo_hit_32 rfl (lv_at hl 0 rfl) ?_
            refine va_get (C := RX8) (T := TX8) (N := 43) hx hb hts inX8 hown hK hP 0 rfl rfl 22 (by decide) (hts _ m_867) (fun _ h9 => h9) rfl d_Mo_hit_33 ?_
            refine lv_iload_n hx hb d_Mo_hit_36 rfl (lv_at hl 1 rfl) ?_
            refine wn_iald hx hb hK hP 1 0 rfl rfl (by omega) (by omega) d_Mo_hit_37 ?_
            refine wn_eq (y := (hp_c X).getD k 0) (h1c.2.2 k (by rw [hx_len]; exact hk)) ?_
            refine lv_goto (tgt := 75) hx hb d_Mo_hit_38 (by decide) ?_
            exact hret ((hp_c X).getD k 0) () _ _ _ 75 d_Mo_hit_75 (by first | exact ab_0 hk hl1 h29 | exact ab_1 hk hl1 h29 h43 | exact ab_2 hk hl1 h29 h43 h57 | exact ab_3 hk hl1 h18 h23 h29 h43 h57) hP hD hS
        · intro h23
          refine lv_iconst (v := (-1)) hx hb d_Mo_hit_26 (by decide) ?_
          exact hret (-1) () _ _ _ 27 d_Mo_hit_27 (by first | exact (ab_o1 (Or.inl h6)).symm | exact (ab_o1 (Or.inr h14)).symm | exact (ab_out (Or.inl (in_neg h18))).symm | exact (ab_out (Or.inr (in_3 h23))).symm) hP hD hS
theorem k_Mo_hit : cf_V y_Mo_hit b_Mo_hit 3 (some .int) "ReadMapperModel" 2 := ⟨⟨m_1087, m_1088, m_9, m_1089⟩, by decide +kernel⟩
set_option maxHeartbeats 4000000 in
set_option maxRecDepth 100000 in
theorem c_Mo_withBad (l : Launch) (D : va_G) (cA : Nat → ClassId) (K : Nat → Nat) (mo ta aN aS aC aB aR aO aW aD a1 a2 a3 a4 aL aY aM bN bS bC bB bR bO aU : Nat) (rd mp gd : Bool) (zt ir : Int32) (np tot rt pl sg rn rs td ms ip it il : Nat) (L J : List Int32) (f4 : Nat → Int32) (X : List (Nat × Nat × Nat × Nat)) (x : Int32) (h4c : cd_r 128 f4 (hm_c X)) : ck_I l y_Mo_withBad (Cond.code y_Mo_withBad b_Mo_withBad 4 (some .int) :: w_all) 1 D cA K [.ref mo, .int x] [(mo, .inr (8, [.int zt, .int (nI L.length), .ref ta, .int (nI np), .ref aN, .ref aS, .ref aC, .int (nI tot), .ref aB, .int (bz_c rd), .int (nI rt), .int (nI pl), .ref aR, .ref aO, .int (nI sg), .ref aW, .int (bz_c mp), .int (nI rn), .int (nI rs), .int (bz_c gd), .ref aD, .int (nI X.length), .ref a1, .ref a2, .ref a3, .ref a4, .int (nI td), .ref aL, .int (nI J.length), .ref aY, .int (nI ms), .ref aM, .int (nI ip), .int (nI it), .int ir, .int (nI il), .ref bN, .ref bS, .ref bC, .ref bB, .ref bR, .ref bO, .ref aU])), (a4, .inl (cA 0, 128, .inl f4))] (fun (r : Int32) (u : Unit) => ∃ n, r = nI n ∧ n = ct_c (fun j => (hm_c X).getD j 0) x X.length) (fun u => [(mo, .inr (8, [.int zt, .int (nI L.length), .ref ta, .int (nI np), .ref aN, .ref aS, .ref aC, .int (nI tot), .ref aB, .int (bz_c rd), .int (nI rt), .int (nI pl), .ref aR, .ref aO, .int (nI sg), .ref aW, .int (bz_c mp), .int (nI rn), .int (nI rs), .int (bz_c gd), .ref aD, .int (nI X.length), .ref a1, .ref a2, .ref a3, .ref a4, .int (nI td), .ref aL, .int (nI J.length), .ref aY, .int (nI ms), .ref aM, .int (nI ip), .int (nI it), .int ir, .int (nI il), .ref bN, .ref bS, .ref bC, .ref bB, .ref bR, .ref bO, .ref aU])), (a4, .inl (cA 0, 128, .inl f4))]) := by
  refine ck_mkI (by decide) (fun _ _ _ => rfl) (Nat.le_of_ble_eq_true rfl) ?_
  intro pG eG sG mG argsG belowG methG cG Q A H locs ls hx hb hml hown hts hK hE hA hP hD hS hl hret
  have hl : lv_has ls 4 [(0, .ref mo), (1, .int x)] := hl
  have hl1 := cd_len h4c
  rw [hx_len4] at hl1
  refine lv_iconst (v := nI 0) hx hb d_Mo_withBad_0 (by decide) ?_
  refine lv_istore_n (lv' := [(2, .int (nI 0)), (0, .ref mo), (1, .int x)]) hx hb d_Mo_withBad_1 rfl hl (by decide) rfl (fun ls hl => ?_)
  refine lv_iconst (v := nI 0) hx hb d_Mo_withBad_2 (by decide) ?_
  refine lv_istore_n (lv' := [(3, .int (nI 0)), (2, .int (nI 0)), (0, .ref mo), (1, .int x)]) hx hb d_Mo_withBad_3 rfl hl (by decide) rfl (fun ls hl => ?_)
  have L4 : ∀ (nG : Nat) (n j : Nat) (H : Heap) (locs : List Loc) (ls : Array Slot), X.length - j = nG → (j ≤ X.length) → (n = ct_c (fun j => (hm_c X).getD j 0) x j) →  va_P D vwCl [(mo, .inr (8, [.int zt, .int (nI L.length), .ref ta, .int (nI np), .ref aN, .ref aS, .ref aC, .int (nI tot), .ref aB, .int (bz_c rd), .int (nI rt), .int (nI pl), .ref aR, .ref aO, .int (nI sg), .ref aW, .int (bz_c mp), .int (nI rn), .int (nI rs), .int (bz_c gd), .ref aD, .int (nI X.length), .ref a1, .ref a2, .ref a3, .ref a4, .int (nI td), .ref aL, .int (nI J.length), .ref aY, .int (nI ms), .ref aM, .int (nI ip), .int (nI it), .int ir, .int (nI il), .ref bN, .ref bS, .ref bC, .ref bB, .ref bR, .ref bO, .ref aU])), (a4, .inl (cA 0, 128, .inl f4))] H → va_D A [(mo, .inr (8, [.int zt, .int (nI L.length), .ref ta, .int (nI np), .ref aN, .ref aS, .ref aC, .int (nI tot), .ref aB, .int (bz_c rd), .int (nI rt), .int (nI pl), .ref aR, .ref aO, .int (nI sg), .ref aW, .int (bz_c mp), .int (nI rn), .int (nI rs), .int (bz_c gd), .ref aD, .int (nI X.length), .ref a1, .ref a2, .ref a3, .ref a4, .int (nI td), .ref aL, .int (nI J.length), .ref aY, .int (nI ms), .ref aM, .int (nI ip), .int (nI it), .int ir, .int (nI il), .ref bN, .ref bS, .ref bC, .ref bB, .ref bR, .ref bO, .ref aU])), (a4, .inl (cA 0, 128, .inl f4))] → va_S A sG.heap H locs → lv_has ls 4 [(0, .ref mo), (1, .int x), (2, .int (nI n)), (3, .int (nI j))] → W pG l eG (rm_d 1) sG mG argsG belowG methG cG H locs 0 0 Q (F0 mG 4 ls []) := by
    intro nG
    induction nG using Nat.strongRecOn with
    | ind nG ih4 =>
      intro n j H locs ls hn4 hj hn hP hD hS hl
      have hcl := ct_le (fun j => (hm_c X).getD j 0) x j
      rw [← hn] at hcl
      refine lv_iload_n hx hb d_Mo_withBad_4 rfl (lv_at hl 3 rfl) ?_
      refine lv_aload_n hx hb d_Mo_withBad_5 rfl (lv_at hl 0 rfl) ?_
      refine va_get (C := RX8) (T := TX8) (N := 43) hx hb hts inX8 hown hK hP 0 rfl rfl 21 (by decide) (hts _ m_866) (fun _ h9 => h9) rfl d_Mo_withBad_6 ?_
      refine wn_icmp_ge (by omega) (by omega) (tgt := 36) hx hb d_Mo_withBad_9 (by decide) ?_ ?_
      · intro h9
        refine lv_iload_n hx hb d_Mo_withBad_36 rfl (lv_at hl 2 rfl) ?_
        exact hret (nI n) () _ _ _ 37 d_Mo_withBad_37 ⟨n, rfl, by rw [hn, show j = X.length by omega]⟩ hP hD hS
      · intro h9
        refine lv_aload_n hx hb d_Mo_withBad_12 rfl (lv_at hl 0 rfl) ?_
        refine va_get (C := RX8) (T := TX8) (N := 43) hx hb hts inX8 hown hK hP 0 rfl rfl 25 (by decide) (hts _ m_870) (fun _ h9 => h9) rfl d_Mo_withBad_13 ?_
        refine lv_iload_n hx hb d_Mo_withBad_16 rfl (lv_at hl 3 rfl) ?_
        refine wn_iald hx hb hK hP 1 0 rfl rfl (by omega) (by omega) d_Mo_withBad_17 ?_
        refine wn_eq (y := (hm_c X).getD j 0) (h4c.2.2 j (by rw [hx_len4]; omega)) ?_
        refine lv_iload_n hx hb d_Mo_withBad_18 rfl (lv_at hl 1 rfl) ?_
        refine lv_icmp_ne (tgt := 28) hx hb d_Mo_withBad_19 (by decide) ?_ ?_
        · intro h19
          refine lv_iload_n hx hb d_Mo_withBad_28 rfl (lv_at hl 2 rfl) ?_
          refine lv_istore_n (lv' := [(2, .int (nI n)), (0, .ref mo), (1, .int x), (3, .int (nI j))]) hx hb d_Mo_withBad_29 rfl hl (by decide) rfl (fun ls hl => ?_)
          refine lv_iinc (k := 3) (v := nI (j + 1)) (lv' := [(3, .int (nI (j + 1))), (2, .int (nI n)), (0, .ref mo), (1, .int x)]) hx hb d_Mo_withBad_30 hl rfl (wi_inc1 _) (by decide) rfl (fun ls hl => ?_)
          refine lv_goto (tgt := 4) hx hb d_Mo_withBad_33 (by decide) ?_
          exact ih4 _ (by omega) n (j + 1) _ _ _ rfl (by first | assumption | omega) (by first | exact ct_1 hn h19 | exact ct_0 hn h19) hP hD hS (lv_sub hl [2, 3, 1, 0] rfl)
        · intro h19
          refine lv_iload_n hx hb d_Mo_withBad_22 rfl (lv_at hl 2 rfl) ?_
          refine lv_iconst (v := nI 1) hx hb d_Mo_withBad_23 (by decide) ?_
          refine wn_iadd hx hb d_Mo_withBad_24 ?_
          refine lv_goto (tgt := 29) hx hb d_Mo_withBad_25 (by decide) ?_
          refine lv_istore_n (lv' := [(2, .int (nI (n + 1))), (0, .ref mo), (1, .int x), (3, .int (nI j))]) hx hb d_Mo_withBad_29 rfl hl (by decide) rfl (fun ls hl => ?_)
          refine lv_iinc (k := 3) (v := nI (j + 1)) (lv' := [(3, .int (nI (j + 1))), (2, .int (nI (n + 1))), (0, .ref mo), (1, .int x)]) hx hb d_Mo_withBad_30 hl rfl (wi_inc1 _) (by decide) rfl (fun ls hl => ?_)
          refine lv_goto (tgt := 4) hx hb d_Mo_withBad_33 (by decide) ?_
          exact ih4 _ (by omega) (n + 1) (j + 1) _ _ _ rfl (by first | assumption | omega) (by first | exact ct_1 hn h19 | exact ct_0 hn h19) hP hD hS (lv_sub hl [2, 3, 1, 0] rfl)
  exact L4 _ 0 0 _ _ _ rfl (by first | assumption | omega) rfl hP hD hS (lv_sub hl [2, 3, 1, 0] rfl)
theorem k_Mo_withBad : cf_V y_Mo_withBad b_Mo_withBad 4 (some .int) "ReadMapperModel" 1 := ⟨⟨m_1124, (wm_s (q := (y_Mo_withBad, 43)) (by decide +kernel)), m_9, m_1125⟩, by decide +kernel⟩
set_option maxHeartbeats 4000000 in
set_option maxRecDepth 100000 in
theorem c_Mo_best (l : Launch) (D : va_G) (cA : Nat → ClassId) (K : Nat → Nat) (mo ta aN aS aC aB aR aO aW aD a1 a2 a3 a4 aL aY aM bN bS bC bB bR bO aU : Nat) (rd mp gd : Bool) (zt ir : Int32) (np tot rt pl sg rn rs td ms ip it il : Nat) (L J : List Int32) (f4 : Nat → Int32) (X : List (Nat × Nat × Nat × Nat)) (h4c : cd_r 128 f4 (hm_c X)) : ck_I l y_Mo_best (Cond.code y_Mo_best b_Mo_best 3 (some .int) :: w_all) 1 D cA K [.ref mo] [(mo, .inr (8, [.int zt, .int (nI L.length), .ref ta, .int (nI np), .ref aN, .ref aS, .ref aC, .int (nI tot), .ref aB, .int (bz_c rd), .int (nI rt), .int (nI pl), .ref aR, .ref aO, .int (nI sg), .ref aW, .int (bz_c mp), .int (nI rn), .int (nI rs), .int (bz_c gd), .ref aD, .int (nI X.length), .ref a1, .ref a2, .ref a3, .ref a4, .int (nI td), .ref aL, .int (nI J.length), .ref aY, .int (nI ms), .ref aM, .int (nI ip), .int (nI it), .int ir, .int (nI il), .ref bN, .ref bS, .ref bC, .ref bB, .ref bR, .ref bO, .ref aU])), (a4, .inl (cA 0, 128, .inl f4))] (fun (r : Int32) (u : Unit) => ∃ n, r = nI n ∧ n = be_c (fun j => (hm_c X).getD j 0) X.length) (fun u => [(mo, .inr (8, [.int zt, .int (nI L.length), .ref ta, .int (nI np), .ref aN, .ref aS, .ref aC, .int (nI tot), .ref aB, .int (bz_c rd), .int (nI rt), .int (nI pl), .ref aR, .ref aO, .int (nI sg), .ref aW, .int (bz_c mp), .int (nI rn), .int (nI rs), .int (bz_c gd), .ref aD, .int (nI X.length), .ref a1, .ref a2, .ref a3, .ref a4, .int (nI td), .ref aL, .int (nI J.length), .ref aY, .int (nI ms), .ref aM, .int (nI ip), .int (nI it), .int ir, .int (nI il), .ref bN, .ref bS, .ref bC, .ref bB, .ref bR, .ref bO, .ref aU])), (a4, .inl (cA 0, 128, .inl f4))]) := by
  refine ck_mkI (by decide) (fun _ _ _ => rfl) (Nat.le_of_ble_eq_true rfl) ?_
  intro pG eG sG mG argsG belowG methG cG Q A H locs ls hx hb hml hown hts hK hE hA hP hD hS hl hret
  have hl : lv_has ls 3 [(0, .ref mo)] := hl
  have hl1 := cd_len h4c
  rw [hx_len4] at hl1
  refine lv_iconst (v := nI 0) hx hb d_Mo_best_0 (by decide) ?_
  refine lv_istore_n (lv' := [(1, .int (nI 0)), (0, .ref mo)]) hx hb d_Mo_best_1 rfl hl (by decide) rfl (fun ls hl => ?_)
  refine lv_iconst (v := nI 1) hx hb d_Mo_best_2 (by decide) ?_
  refine lv_istore_n (lv' := [(2, .int (nI 1)), (1, .int (nI 0)), (0, .ref mo)]) hx hb d_Mo_best_3 rfl hl (by decide) rfl (fun ls hl => ?_)
  have L4 : ∀ (nG : Nat) (n j : Nat) (H : Heap) (locs : List Loc) (ls : Array Slot), X.length - j = nG → (1 ≤ j) → (j ≤ X.length ∨ j = 1) → (n = be_c (fun j => (hm_c X).getD j 0) j) →  va_P D vwCl [(mo, .inr (8, [.int zt, .int (nI L.length), .ref ta, .int (nI np), .ref aN, .ref aS, .ref aC, .int (nI tot), .ref aB, .int (bz_c rd), .int (nI rt), .int (nI pl), .ref aR, .ref aO, .int (nI sg), .ref aW, .int (bz_c mp), .int (nI rn), .int (nI rs), .int (bz_c gd), .ref aD, .int (nI X.length), .ref a1, .ref a2, .ref a3, .ref a4, .int (nI td), .ref aL, .int (nI J.length), .ref aY, .int (nI ms), .ref aM, .int (nI ip), .int (nI it), .int ir, .int (nI il), .ref bN, .ref bS, .ref bC, .ref bB, .ref bR, .ref bO, .ref aU])), (a4, .inl (cA 0, 128, .inl f4))] H → va_D A [(mo, .inr (8, [.int zt, .int (nI L.length), .ref ta, .int (nI np), .ref aN, .ref aS, .ref aC, .int (nI tot), .ref aB, .int (bz_c rd), .int (nI rt), .int (nI pl), .ref aR, .ref aO, .int (nI sg), .ref aW, .int (bz_c mp), .int (nI rn), .int (nI rs), .int (bz_c gd), .ref aD, .int (nI X.length), .ref a1, .ref a2, .ref a3, .ref a4, .int (nI td), .ref aL, .int (nI J.length), .ref aY, .int (nI ms), .ref aM, .int (nI ip), .int (nI it), .int ir, .int (nI il), .ref bN, .ref bS, .ref bC, .ref bB, .ref bR, .ref bO, .ref aU])), (a4, .inl (cA 0, 128, .inl f4))] → va_S A sG.heap H locs → lv_has ls 3 [(0, .ref mo), (1, .int (nI n)), (2, .int (nI j))] → W pG l eG (rm_d 1) sG mG argsG belowG methG cG H locs 0 0 Q (F0 mG 4 ls []) := by
    intro nG
    induction nG using Nat.strongRecOn with
    | ind nG ih4 =>
      intro n j H locs ls hn4 hj1 hj hn hP hD hS hl
      have hbl := be_le (fun j => (hm_c X).getD j 0) j
      rw [← hn] at hbl
      refine lv_iload_n hx hb d_Mo_best_4 rfl (lv_at hl 2 rfl) ?_
      refine lv_aload_n hx hb d_Mo_best_5 rfl (lv_at hl 0 rfl) ?_
      refine va_get (C := RX8) (T := TX8) (N := 43) hx hb hts inX8 hown hK hP 0 rfl rfl 21 (by decide) (hts _ m_866) (fun _ h9 => h9) rfl d_Mo_best_6 ?_
      refine wn_icmp_ge (by omega) (by omega) (tgt := 39) hx hb d_Mo_best_9 (by decide) ?_ ?_
      · intro h9
        refine lv_iload_n hx hb d_Mo_best_39 rfl (lv_at hl 1 rfl) ?_
        exact hret (nI n) () _ _ _ 40 d_Mo_best_40 ⟨n, rfl, by rw [hn]; exact (be_end (by omega) hj1).symm⟩ hP hD hS
      · intro h9
        refine lv_aload_n hx hb d_Mo_best_12 rfl (lv_at hl 0 rfl) ?_
        refine va_get (C := RX8) (T := TX8) (N := 43) hx hb hts inX8 hown hK hP 0 rfl rfl 25 (by decide) (hts _ m_870) (fun _ h9 => h9) rfl d_Mo_best_13 ?_
        refine lv_iload_n hx hb d_Mo_best_16 rfl (lv_at hl 2 rfl) ?_
        refine wn_iald hx hb hK hP 1 0 rfl rfl (by omega) (by omega) d_Mo_best_17 ?_
        refine wn_eq (y := (hm_c X).getD j 0) (h4c.2.2 j (by rw [hx_len4]; omega)) ?_
        refine lv_aload_n hx hb d_Mo_best_18 rfl (lv_at hl 0 rfl) ?_
        refine va_get (C := RX8) (T := TX8) (N := 43) hx hb hts inX8 hown hK hP 0 rfl rfl 25 (by decide) (hts _ m_870) (fun _ h9 => h9) rfl d_Mo_best_19 ?_
        refine lv_iload_n hx hb d_Mo_best_22 rfl (lv_at hl 1 rfl) ?_
        refine wn_iald hx hb hK hP 1 0 rfl rfl (by omega) (by omega) d_Mo_best_23 ?_
        refine wn_eq (y := (hm_c X).getD n 0) (h4c.2.2 n (by rw [hx_len4]; omega)) ?_
        refine lv_icmp_ge (tgt := 31) hx hb d_Mo_best_24 (by decide) ?_ ?_
        · intro h24
          refine lv_iload_n hx hb d_Mo_best_31 rfl (lv_at hl 1 rfl) ?_
          refine lv_istore_n (lv' := [(1, .int (nI n)), (0, .ref mo), (2, .int (nI j))]) hx hb d_Mo_best_32 rfl hl (by decide) rfl (fun ls hl => ?_)
          refine lv_iinc (k := 2) (v := nI (j + 1)) (lv' := [(2, .int (nI (j + 1))), (1, .int (nI n)), (0, .ref mo)]) hx hb d_Mo_best_33 hl rfl (wi_inc1 _) (by decide) rfl (fun ls hl => ?_)
          refine lv_goto (tgt := 4) hx hb d_Mo_best_36 (by decide) ?_
          exact ih4 _ (by omega) n (j + 1) _ _ _ rfl (by first | assumption | omega) (by first | assumption | omega) (by first | exact (be_y (f := (fun j => (hm_c X).getD j 0)) (hn ▸ Int32.not_le.mp h24)).symm | exact (hn.trans (be_n (f := (fun j => (hm_c X).getD j 0)) (hn ▸ Int32.not_lt.mpr h24)).symm)) hP hD hS (lv_sub hl [2, 1, 0] rfl)
        · intro h24
          refine lv_iload_n hx hb d_Mo_best_27 rfl (lv_at hl 2 rfl) ?_
          refine lv_goto (tgt := 32) hx hb d_Mo_best_28 (by decide) ?_
          refine lv_istore_n (lv' := [(1, .int (nI j)), (0, .ref mo), (2, .int (nI j))]) hx hb d_Mo_best_32 rfl hl (by decide) rfl (fun ls hl => ?_)
          refine lv_iinc (k := 2) (v := nI (j + 1)) (lv' := [(2, .int (nI (j + 1))), (1, .int (nI j)), (0, .ref mo)]) hx hb d_Mo_best_33 hl rfl (wi_inc1 _) (by decide) rfl (fun ls hl => ?_)
          refine lv_goto (tgt := 4) hx hb d_Mo_best_36 (by decide) ?_
          exact ih4 _ (by omega) j (j + 1) _ _ _ rfl (by first | assumption | omega) (by first | assumption | omega) (by first | exact (be_y (f := (fun j => (hm_c X).getD j 0)) (hn ▸ Int32.not_le.mp h24)).symm | exact (hn.trans (be_n (f := (fun j => (hm_c X).getD j 0)) (hn ▸ Int32.not_lt.mpr h24)).symm)) hP hD hS (lv_sub hl [2, 1, 0] rfl)
  exact L4 _ 0 1 _ _ _ rfl (by first | assumption | omega) (by first | assumption | omega) be_1.symm hP hD hS (lv_sub hl [2, 1, 0] rfl)
theorem k_Mo_best : cf_V y_Mo_best b_Mo_best 3 (some .int) "ReadMapperModel" 0 := ⟨⟨m_1112, (wm_s (q := (y_Mo_best, 43)) (by decide +kernel)), m_9, m_1113⟩, by decide +kernel⟩
set_option maxHeartbeats 4000000 in
set_option maxRecDepth 100000 in
theorem c_Mo_quality (l : Launch) (D : va_G) (cA : Nat → ClassId) (K : Nat → Nat) (mo ta aN aS aC aB aR aO aW aD a1 a2 a3 a4 aL aY aM bN bS bC bB bR bO aU : Nat) (rd mp gd : Bool) (zt ir : Int32) (np tot rt pl sg rn rs td ms ip it il : Nat) (L J : List Int32) (f4 : Nat → Int32) (X : List (Nat × Nat × Nat × Nat)) (h4c : cd_r 128 f4 (hm_c X)) (hX0 : 0 < X.length) : ck_I l y_Mo_quality (Cond.code y_Mo_quality b_Mo_quality 3 (some .int) :: w_all) 2 D cA K [.ref mo] [(mo, .inr (8, [.int zt, .int (nI L.length), .ref ta, .int (nI np), .ref aN, .ref aS, .ref aC, .int (nI tot), .ref aB, .int (bz_c rd), .int (nI rt), .int (nI pl), .ref aR, .ref aO, .int (nI sg), .ref aW, .int (bz_c mp), .int (nI rn), .int (nI rs), .int (bz_c gd), .ref aD, .int (nI X.length), .ref a1, .ref a2, .ref a3, .ref a4, .int (nI td), .ref aL, .int (nI J.length), .ref aY, .int (nI ms), .ref aM, .int (nI ip), .int (nI it), .int ir, .int (nI il), .ref bN, .ref bS, .ref bC, .ref bB, .ref bR, .ref bO, .ref aU])), (a4, .inl (cA 0, 128, .inl f4))] (fun (r : Int32) (u : Unit) => ∃ n, r = nI n ∧ n < 100 ∧ nI n = qy_c (at_c (hm_c X) (nI (be_c (fun j => (hm_c X).getD j 0) X.length))) X) (fun u => [(mo, .inr (8, [.int zt, .int (nI L.length), .ref ta, .int (nI np), .ref aN, .ref aS, .ref aC, .int (nI tot), .ref aB, .int (bz_c rd), .int (nI rt), .int (nI pl), .ref aR, .ref aO, .int (nI sg), .ref aW, .int (bz_c mp), .int (nI rn), .int (nI rs), .int (bz_c gd), .ref aD, .int (nI X.length), .ref a1, .ref a2, .ref a3, .ref a4, .int (nI td), .ref aL, .int (nI J.length), .ref aY, .int (nI ms), .ref aM, .int (nI ip), .int (nI it), .int ir, .int (nI il), .ref bN, .ref bS, .ref bC, .ref bB, .ref bR, .ref bO, .ref aU])), (a4, .inl (cA 0, 128, .inl f4))]) := by
  refine ck_mkI (by decide) (fun _ _ _ => rfl) (Nat.le_of_ble_eq_true rfl) ?_
  intro pG eG sG mG argsG belowG methG cG Q A H locs ls hx hb hml hown hts hK hE hA hP hD hS hl hret
  have hl : lv_has ls 3 [(0, .ref mo)] := hl
  have hl1 := cd_len h4c
  rw [hx_len4] at hl1
  refine lv_aload_n hx hb d_Mo_quality_0 rfl (lv_at hl 0 rfl) ?_
  refine va_get (C := RX8) (T := TX8) (N := 43) hx hb hts inX8 hown hK hP 0 rfl rfl 25 (by decide) (hts _ m_870) (fun _ h9 => h9) rfl d_Mo_quality_1 ?_
  refine lv_aload_n hx hb d_Mo_quality_4 rfl (lv_at hl 0 rfl) ?_
  refine ck_cV (C := "ReadMapperModel") (ci := 8) (rest := [.ref a4]) (wr := []) (ws2 := fun u => [(mo, .inr (8, [.int zt, .int (nI L.length), .ref ta, .int (nI np), .ref aN, .ref aS, .ref aC, .int (nI tot), .ref aB, .int (bz_c rd), .int (nI rt), .int (nI pl), .ref aR, .ref aO, .int (nI sg), .ref aW, .int (bz_c mp), .int (nI rn), .int (nI rs), .int (bz_c gd), .ref aD, .int (nI X.length), .ref a1, .ref a2, .ref a3, .ref a4, .int (nI td), .ref aL, .int (nI J.length), .ref aY, .int (nI ms), .ref aM, .int (nI ip), .int (nI it), .int ir, .int (nI il), .ref bN, .ref bS, .ref bC, .ref bB, .ref bR, .ref bO, .ref aU])), (a4, .inl (cA 0, 128, .inl f4))]) (c_Mo_best l D cA K mo ta aN aS aC aB aR aO aW aD a1 a2 a3 a4 aL aY aM bN bS bC bB bR bO aU rd mp gd zt ir np tot rt pl sg rn rs td ms ip it il L J f4 X (by first | assumption | omega)) hx hb hml hown hts hK hE hA hP hD hS k_Mo_best m_1110 (by decide) 0 rfl rfl rfl hl.1 rfl (Nat.le_of_ble_eq_true rfl) d_Mo_quality_5  [0, 1] [] [0, 1] rfl rfl (by decide) (fun _ => rfl) (fun r5 u5 H locs hq5 hP hD hS => ?_)
  try dsimp only at hq5
  have hP : va_P D vwCl [(mo, .inr (8, [.int zt, .int (nI L.length), .ref ta, .int (nI np), .ref aN, .ref aS, .ref aC, .int (nI tot), .ref aB, .int (bz_c rd), .int (nI rt), .int (nI pl), .ref aR, .ref aO, .int (nI sg), .ref aW, .int (bz_c mp), .int (nI rn), .int (nI rs), .int (bz_c gd), .ref aD, .int (nI X.length), .ref a1, .ref a2, .ref a3, .ref a4, .int (nI td), .ref aL, .int (nI J.length), .ref aY, .int (nI ms), .ref aM, .int (nI ip), .int (nI it), .int ir, .int (nI il), .ref bN, .ref bS, .ref bC, .ref bB, .ref bR, .ref bO, .ref aU])), (a4, .inl (cA 0, 128, .inl f4))] H := hP
  have hD : va_D A [(mo, .inr (8, [.int zt, .int (nI L.length), .ref ta, .int (nI np), .ref aN, .ref aS, .ref aC, .int (nI tot), .ref aB, .int (bz_c rd), .int (nI rt), .int (nI pl), .ref aR, .ref aO, .int (nI sg), .ref aW, .int (bz_c mp), .int (nI rn), .int (nI rs), .int (bz_c gd), .ref aD, .int (nI X.length), .ref a1, .ref a2, .ref a3, .ref a4, .int (nI td), .ref aL, .int (nI J.length), .ref aY, .int (nI ms), .ref aM, .int (nI ip), .int (nI it), .int ir, .int (nI il), .ref bN, .ref bS, .ref bC, .ref bB, .ref bR, .ref bO, .ref aU])), (a4, .inl (cA 0, 128, .inl f4))] := hD
  obtain ⟨k5, rfl, hq5⟩ := hq5
  have hbl := be_le (fun j => (hm_c X).getD j 0) X.length
  rw [← hq5] at hbl
  have hat : at_c (hm_c X) (nI k5) = (hm_c X).getD k5 0 := at_n (by rw [hx_len4]; omega) (by rw [hx_len4]; omega)
  refine wn_iald hx hb hK hP 1 0 rfl rfl (by omega) (by omega) d_Mo_quality_8 ?_
  refine wn_eq (y := (hm_c X).getD k5 0) (h4c.2.2 k5 (by rw [hx_len4]; omega)) ?_
  refine lv_istore_n (lv' := [(1, .int ((hm_c X).getD k5 0)), (0, .ref mo)]) hx hb d_Mo_quality_9 rfl hl (by decide) rfl (fun ls hl => ?_)
  refine lv_aload_n hx hb d_Mo_quality_10 rfl (lv_at hl 1 rfl) ?_
  refine lv_iload_n hx hb d_Mo_quality_11 rfl (lv_at hl 0 rfl) ?_
  refine lv_iconst (v := 1) hx hb d_Mo_quality_12 (by decide) ?_
  refine lv_iadd hx hb d_Mo_quality_13 ?_
  refine ck_cV (C := "ReadMapperModel") (ci := 8) (rest := []) (wr := []) (ws2 := fun u => [(mo, .inr (8, [.int zt, .int (nI L.length), .ref ta, .int (nI np), .ref aN, .ref aS, .ref aC, .int (nI tot), .ref aB, .int (bz_c rd), .int (nI rt), .int (nI pl), .ref aR, .ref aO, .int (nI sg), .ref aW, .int (bz_c mp), .int (nI rn), .int (nI rs), .int (bz_c gd), .ref aD, .int (nI X.length), .ref a1, .ref a2, .ref a3, .ref a4, .int (nI td), .ref aL, .int (nI J.length), .ref aY, .int (nI ms), .ref aM, .int (nI ip), .int (nI it), .int ir, .int (nI il), .ref bN, .ref bS, .ref bC, .ref bB, .ref bR, .ref bO, .ref aU])), (a4, .inl (cA 0, 128, .inl f4))]) (c_Mo_withBad l D cA K mo ta aN aS aC aB aR aO aW aD a1 a2 a3 a4 aL aY aM bN bS bC bB bR bO aU rd mp gd zt ir np tot rt pl sg rn rs td ms ip it il L J f4 X (((hm_c X).getD k5 0) + 1) (by first | assumption | omega)) hx hb hml hown hts hK hE hA hP hD hS k_Mo_withBad m_1122 (by decide) 0 rfl rfl rfl hl.1 rfl (Nat.le_of_ble_eq_true rfl) d_Mo_quality_14  [0, 1] [] [0, 1] rfl rfl (by decide) (fun _ => rfl) (fun r14 u14 H locs hq14 hP hD hS => ?_)
  try dsimp only at hq14
  have hP : va_P D vwCl [(mo, .inr (8, [.int zt, .int (nI L.length), .ref ta, .int (nI np), .ref aN, .ref aS, .ref aC, .int (nI tot), .ref aB, .int (bz_c rd), .int (nI rt), .int (nI pl), .ref aR, .ref aO, .int (nI sg), .ref aW, .int (bz_c mp), .int (nI rn), .int (nI rs), .int (bz_c gd), .ref aD, .int (nI X.length), .ref a1, .ref a2, .ref a3, .ref a4, .int (nI td), .ref aL, .int (nI J.length), .ref aY, .int (nI ms), .ref aM, .int (nI ip), .int (nI it), .int ir, .int (nI il), .ref bN, .ref bS, .ref bC, .ref bB, .ref bR, .ref bO, .ref aU])), (a4, .inl (cA 0, 128, .inl f4))] H := hP
  have hD : va_D A [(mo, .inr (8, [.int zt, .int (nI L.length), .ref ta, .int (nI np), .ref aN, .ref aS, .ref aC, .int (nI tot), .ref aB, .int (bz_c rd), .int (nI rt), .int (nI pl), .ref aR, .ref aO, .int (nI sg), .ref aW, .int (bz_c mp), .int (nI rn), .int (nI rs), .int (bz_c gd), .ref aD, .int (nI X.length), .ref a1, .ref a2, .ref a3, .ref a4, .int (nI td), .ref aL, .int (nI J.length), .ref aY, .int (nI ms), .ref aM, .int (nI ip), .int (nI it), .int ir, .int (nI il), .ref bN, .ref bS, .ref bC, .ref bB, .ref bR, .ref bO, .ref aU])), (a4, .inl (cA 0, 128, .inl f4))] := hD
  obtain ⟨k14, rfl, hq14⟩ := hq14
  have hc1 := ct_le (fun j => (hm_c X).getD j 0) ((hm_c X).getD k5 0 + 1) X.length
  rw [← hq14] at hc1
  refine lv_istore_n (lv' := [(2, .int (nI k14)), (1, .int ((hm_c X).getD k5 0)), (0, .ref mo)]) hx hb d_Mo_quality_17 rfl hl (by decide) rfl (fun ls hl => ?_)
  refine lv_aload_n hx hb d_Mo_quality_18 rfl (lv_at hl 2 rfl) ?_
  refine lv_iload_n hx hb d_Mo_quality_19 rfl (lv_at hl 1 rfl) ?_
  refine ck_cV (C := "ReadMapperModel") (ci := 8) (rest := []) (wr := []) (ws2 := fun u => [(mo, .inr (8, [.int zt, .int (nI L.length), .ref ta, .int (nI np), .ref aN, .ref aS, .ref aC, .int (nI tot), .ref aB, .int (bz_c rd), .int (nI rt), .int (nI pl), .ref aR, .ref aO, .int (nI sg), .ref aW, .int (bz_c mp), .int (nI rn), .int (nI rs), .int (bz_c gd), .ref aD, .int (nI X.length), .ref a1, .ref a2, .ref a3, .ref a4, .int (nI td), .ref aL, .int (nI J.length), .ref aY, .int (nI ms), .ref aM, .int (nI ip), .int (nI it), .int ir, .int (nI il), .ref bN, .ref bS, .ref bC, .ref bB, .ref bR, .ref bO, .ref aU])), (a4, .inl (cA 0, 128, .inl f4))]) (c_Mo_withBad l D cA K mo ta aN aS aC aB aR aO aW aD a1 a2 a3 a4 aL aY aM bN bS bC bB bR bO aU rd mp gd zt ir np tot rt pl sg rn rs td ms ip it il L J f4 X ((hm_c X).getD k5 0) (by first | assumption | omega)) hx hb hml hown hts hK hE hA hP hD hS k_Mo_withBad m_1122 (by decide) 0 rfl rfl rfl hl.1 rfl (Nat.le_of_ble_eq_true rfl) d_Mo_quality_20  [0, 1] [] [0, 1] rfl rfl (by decide) (fun _ => rfl) (fun r20 u20 H locs hq20 hP hD hS => ?_)
  try dsimp only at hq20
  have hP : va_P D vwCl [(mo, .inr (8, [.int zt, .int (nI L.length), .ref ta, .int (nI np), .ref aN, .ref aS, .ref aC, .int (nI tot), .ref aB, .int (bz_c rd), .int (nI rt), .int (nI pl), .ref aR, .ref aO, .int (nI sg), .ref aW, .int (bz_c mp), .int (nI rn), .int (nI rs), .int (bz_c gd), .ref aD, .int (nI X.length), .ref a1, .ref a2, .ref a3, .ref a4, .int (nI td), .ref aL, .int (nI J.length), .ref aY, .int (nI ms), .ref aM, .int (nI ip), .int (nI it), .int ir, .int (nI il), .ref bN, .ref bS, .ref bC, .ref bB, .ref bR, .ref bO, .ref aU])), (a4, .inl (cA 0, 128, .inl f4))] H := hP
  have hD : va_D A [(mo, .inr (8, [.int zt, .int (nI L.length), .ref ta, .int (nI np), .ref aN, .ref aS, .ref aC, .int (nI tot), .ref aB, .int (bz_c rd), .int (nI rt), .int (nI pl), .ref aR, .ref aO, .int (nI sg), .ref aW, .int (bz_c mp), .int (nI rn), .int (nI rs), .int (bz_c gd), .ref aD, .int (nI X.length), .ref a1, .ref a2, .ref a3, .ref a4, .int (nI td), .ref aL, .int (nI J.length), .ref aY, .int (nI ms), .ref aM, .int (nI ip), .int (nI it), .int ir, .int (nI il), .ref bN, .ref bS, .ref bC, .ref bB, .ref bR, .ref bO, .ref aU])), (a4, .inl (cA 0, 128, .inl f4))] := hD
  obtain ⟨k20, rfl, hq20⟩ := hq20
  have hc2 := ct_le (fun j => (hm_c X).getD j 0) ((hm_c X).getD k5 0) X.length
  rw [← hq20] at hc2
  refine lv_iconst (v := nI 1) hx hb d_Mo_quality_23 (by decide) ?_
  refine wn_icmp_le (by omega) (by omega) (tgt := 31) hx hb d_Mo_quality_24 (by decide) ?_ ?_
  · intro h24
    refine lv_iload_n hx hb d_Mo_quality_31 rfl (lv_at hl 0 rfl) ?_
    refine wn_if_ne (by omega) (tgt := 40) hx hb d_Mo_quality_32 (by decide) ?_ ?_
    · intro h32
      refine lv_bipush (v := nI 23) hx hb d_Mo_quality_40 (by decide) ?_
      refine lv_iconst (v := nI 3) hx hb d_Mo_quality_42 (by decide) ?_
      refine lv_iload_n hx hb d_Mo_quality_43 rfl (lv_at hl 0 rfl) ?_
      refine wn_imul hx hb d_Mo_quality_44 ?_
      refine lv_isub hx hb d_Mo_quality_45 ?_
      refine lv_iconst (v := 2) hx hb d_Mo_quality_46 (by decide) ?_
      refine lv_icmp_ge (tgt := 54) hx hb d_Mo_quality_47 (by decide) ?_ ?_
      · intro h47
        refine lv_bipush (v := nI 23) hx hb d_Mo_quality_54 (by decide) ?_
        refine lv_iconst (v := nI 3) hx hb d_Mo_quality_56 (by decide) ?_
        refine lv_iload_n hx hb d_Mo_quality_57 rfl (lv_at hl 0 rfl) ?_
        refine wn_imul hx hb d_Mo_quality_58 ?_
        refine lv_isub hx hb d_Mo_quality_59 ?_
        exact hret ((nI 23) - (nI (3 * k14))) () _ _ _ 60 d_Mo_quality_60 (by rw [← hq5, hat]; unfold qy_c; rw [← hq20, ← hq14]; first | exact ⟨0, rfl, by omega, (if_pos (by omega)).symm⟩ | exact ⟨37, rfl, by omega, by rw [if_neg (by omega), if_pos (by omega)]; rfl⟩ | exact ⟨2, rfl, by omega, by rw [if_neg (by omega), if_neg (by omega)]; exact qq_2 (by omega) (Int32.not_le.mp h47)⟩ | exact (qq_3 (by omega) (Int32.not_lt.mpr h47)).elim (fun m hm => ⟨m, hm.1, by omega, by rw [if_neg (by omega), if_neg (by omega)]; exact hm.2.2⟩)) hP hD hS
      · intro h47
        refine lv_iconst (v := nI 2) hx hb d_Mo_quality_50 (by decide) ?_
        refine lv_goto (tgt := 60) hx hb d_Mo_quality_51 (by decide) ?_
        exact hret (nI 2) () _ _ _ 60 d_Mo_quality_60 (by rw [← hq5, hat]; unfold qy_c; rw [← hq20, ← hq14]; first | exact ⟨0, rfl, by omega, (if_pos (by omega)).symm⟩ | exact ⟨37, rfl, by omega, by rw [if_neg (by omega), if_pos (by omega)]; rfl⟩ | exact ⟨2, rfl, by omega, by rw [if_neg (by omega), if_neg (by omega)]; exact qq_2 (by omega) (Int32.not_le.mp h47)⟩ | exact (qq_3 (by omega) (Int32.not_lt.mpr h47)).elim (fun m hm => ⟨m, hm.1, by omega, by rw [if_neg (by omega), if_neg (by omega)]; exact hm.2.2⟩)) hP hD hS
    · intro h32
      refine lv_bipush (v := nI 37) hx hb d_Mo_quality_35 (by decide) ?_
      refine lv_goto (tgt := 60) hx hb d_Mo_quality_37 (by decide) ?_
      exact hret (nI 37) () _ _ _ 60 d_Mo_quality_60 (by rw [← hq5, hat]; unfold qy_c; rw [← hq20, ← hq14]; first | exact ⟨0, rfl, by omega, (if_pos (by omega)).symm⟩ | exact ⟨37, rfl, by omega, by rw [if_neg (by omega), if_pos (by omega)]; rfl⟩ | exact ⟨2, rfl, by omega, by rw [if_neg (by omega), if_neg (by omega)]; exact qq_2 (by omega) (Int32.not_le.mp h47)⟩ | exact (qq_3 (by omega) (Int32.not_lt.mpr h47)).elim (fun m hm => ⟨m, hm.1, by omega, by rw [if_neg (by omega), if_neg (by omega)]; exact hm.2.2⟩)) hP hD hS
  · intro h24
    refine lv_iconst (v := nI 0) hx hb d_Mo_quality_27 (by decide) ?_
    refine lv_goto (tgt := 60) hx hb d_Mo_quality_28 (by decide) ?_
    exact hret (nI 0) () _ _ _ 60 d_Mo_quality_60 (by rw [← hq5, hat]; unfold qy_c; rw [← hq20, ← hq14]; first | exact ⟨0, rfl, by omega, (if_pos (by omega)).symm⟩ | exact ⟨37, rfl, by omega, by rw [if_neg (by omega), if_pos (by omega)]; rfl⟩ | exact ⟨2, rfl, by omega, by rw [if_neg (by omega), if_neg (by omega)]; exact qq_2 (by omega) (Int32.not_le.mp h47)⟩ | exact (qq_3 (by omega) (Int32.not_lt.mpr h47)).elim (fun m hm => ⟨m, hm.1, by omega, by rw [if_neg (by omega), if_neg (by omega)]; exact hm.2.2⟩)) hP hD hS
theorem k_Mo_quality : cf_V y_Mo_quality b_Mo_quality 3 (some .int) "ReadMapperModel" 0 := ⟨⟨m_1120, (wm_s (q := (y_Mo_quality, 43)) (by decide +kernel)), m_9, m_1121⟩, by decide +kernel⟩
