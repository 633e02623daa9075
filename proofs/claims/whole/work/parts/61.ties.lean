/-! what ties the class and the reference: the row, the pieces, the hits, the bytes -/
theorem ar_so {rw sf tr : Nat → Int32} {pl : Nat} (hk : rw_k (ky_c rw) pl) (h : ar_p rw sf tr pl) : ∃ so : Nat → Nat, (∀ j, j < pl → sf j = nI (so j) ∧ so j < pl) ∧ iv_p rw pl so ∧ ∀ j, j < pl → tr j = bf_c rw so j := by
  obtain ⟨so, h1, h2⟩ := so_ex hk (fun j hj => (h j hj).1)
  refine ⟨so, h1, h2, fun j hj => ?_⟩
  obtain ⟨i, hi, e⟩ := ij_onto (rk_ij hk) j hj
  have a := (h i hi).2
  rw [e] at a
  unfold bf_c
  rw [a, ← e, h2 i hi]
theorem nI_inj {a b : Nat} (ha : a < 2 ^ 31) (hb : b < 2 ^ 31) (h : nI a = nI b) : a = b := by
  have := congrArg Int32.toInt h
  rw [nI_toInt ha, nI_toInt hb] at this
  omega
/-- the endings by their ranks: any such function is the same -/
theorem iv_of {G sf : Nat → Int32} {pl : Nat} {so : Nat → Nat} (hl : pl ≤ 65) (hk : rw_k (ky_c G) pl) (h : ∀ j, j < pl → sf (rk_a (ky_c G) pl j) = nI j) (hs : ∀ j, j < pl → sf j = nI (so j) ∧ so j < pl) : iv_p G pl so := fun j hj => by
  have hr := (rk_ij hk).1 j hj
  have a := hs _ hr
  exact nI_inj (by omega) (by omega) (a.1.symm.trans (h j hj))
theorem iv_ij {G : Nat → Int32} {pl : Nat} {so : Nat → Nat} (hk : rw_k (ky_c G) pl) (h : iv_p G pl so) : ij_n so pl := by
  refine ⟨fun i hi => iv_lt hk h hi, fun i j hi hj e => ?_⟩
  obtain ⟨a, ha, ea⟩ := ij_onto (rk_ij hk) i hi
  obtain ⟨b, hb, eb⟩ := ij_onto (rk_ij hk) j hj
  rw [← ea, ← eb, h a ha, h b hb] at e
  rw [← ea, ← eb, e]
/-- what is counted over the ranks is counted over the row -/
theorem fi_cn {G : Nat → Int32} {pl : Nat} {so : Nat → Nat} (hk : rw_k (ky_c G) pl) (h : iv_p G pl so) (B : List Int32) : cn_t (fun i => bw_p G pl B (so i)) pl = cn_t (fun p => bw_p G pl B p) pl := cn_perm (iv_ij hk h) (fun p => bw_p G pl B p)
/-! a piece is added -/
theorem pb_s5 {L : List Int32} {k : Nat} (h : pc_ok L k) : ∀ t, t < (pb_c L k).length → s5_p ((pb_c L k).getD t 0) := s5_all h.2
theorem vq_add {np k : Nat} {NM BS : Nat → List Int32} {L : List Int32} (h : vq_p np NM BS) (hk : pc_ok L k) (hd : ∀ j, j < np → ¬ NM j = sl_p L 0 k) (h5 : np < 5) (h60 : (pb_c L k).length ≤ 60 - tt_c (bl_c BS) np) : vq_p (np + 1) (va_up NM np (sl_p L 0 k)) (va_up BS np (pb_c L k)) := by
  have hl := pb_len hk
  obtain ⟨⟨k1, k2, k3, k4⟩, k5, _⟩ := id hk
  have e : tt_c (bl_c (va_up BS np (pb_c L k))) (np + 1) = tt_c (bl_c BS) np + (pb_c L k).length := by
    show tt_c (bl_c (va_up BS np (pb_c L k))) np + (va_up BS np (pb_c L k) np).length = _
    rw [tt_up (Nat.le_refl _), va_up_self]
  refine ⟨by omega, by have := h.2.1; omega, fun p hp => ?_, fun i j hi hj => ?_⟩
  · rcases Nat.lt_or_ge p np with z | z
    · rw [va_up_ne NM _ (by omega), va_up_ne BS _ (by omega)]; exact h.2.2.1 p z
    · have e : p = np := by omega
      subst e
      rw [va_up_self, va_up_self]
      refine ⟨⟨by rw [sl_len k3]; omega, by rw [sl_len k3]; omega, fun j hj => ?_⟩, by omega, pb_s5 hk⟩
      rw [sl_len k3] at hj
      rw [sl_get hj, Nat.zero_add]
      exact k4 j (Nat.zero_le _) (by omega)
  · rw [va_up_ne NM _ (show i ≠ np by omega)]
    rcases Nat.lt_or_ge j np with z | z
    · rw [va_up_ne NM _ (by omega)]; exact h.2.2.2 i j hi z
    · have e : j = np := by omega
      subst e
      rw [va_up_self]; exact hd i hi
theorem gq_add {np k : Nat} {BS : Nat → List Int32} {rw rw2 : Nat → Int32} {L : List Int32} (h : gr_p np BS rw) (ha : ad_p rw rw2 (pl_c np BS) (pb_c L k)) : gr_p (np + 1) (va_up BS np (pb_c L k)) rw2 := by
  have hb : ∀ p, p < np → va_up BS np (pb_c L k) p = BS p := fun p hp => va_up_ne BS _ (by omega)
  have h0 : ly_p np (bl_c (va_up BS np (pb_c L k))) (fun p t => (va_up BS np (pb_c L k) p).getD t 0) rw := fun p hp => by
    have a := h p hp
    rw [tt_up (by omega)]
    show (∀ t, t < (va_up BS np (pb_c L k) p).length → _ = (va_up BS np (pb_c L k) p).getD t 0) ∧ rw (tt_c (bl_c BS) p + p + (va_up BS np (pb_c L k) p).length) = _
    rw [hb p hp]
    exact a
  have e : tt_c (bl_c (va_up BS np (pb_c L k))) np + np = pl_c np BS := by unfold pl_c; rw [tt_up (Nat.le_refl _)]
  have eq : bl_c (va_up BS np (pb_c L k)) np = (pb_c L k).length := by show (va_up BS np (pb_c L k) np).length = _; rw [va_up_self]
  refine ly_add h0 ?_ ?_ ?_ ?_
  · rw [e]; exact ha.1
  · rw [e]; exact ha.2.1
  · rw [e, eq]
    intro t ht
    show _ = (va_up BS np (pb_c L k) np).getD t 0
    rw [va_up_self]
    exact ha.2.2.1 t ht
  · rw [e, eq]; exact ha.2.2.2
/-- where the class keeps the pieces -/
def sl_q (np : Nat) (BS : Nat → List Int32) (st ln : Nat → Int32) : Prop := ∀ j, j < np → st j = nI (tt_c (bl_c BS) j + j) ∧ ln j = nI (BS j).length
theorem sl_add {np : Nat} {BS : Nat → List Int32} {st ln : Nat → Int32} {X : List Int32} (h : sl_q np BS st ln) : sl_q (np + 1) (va_up BS np X) (upd st np (nI (pl_c np BS))) (upd ln np (nI X.length)) := fun j hj => by
  rw [tt_up (by omega)]
  rcases Nat.lt_or_ge j np with z | z
  · rw [pk_un (by omega), pk_un (by omega), va_up_ne BS _ (by omega)]; exact h j z
  · have e : j = np := by omega
    subst e
    rw [pk_us, pk_us, va_up_self]; exact ⟨rfl, rfl⟩
theorem pl_add {np : Nat} {BS : Nat → List Int32} {X : List Int32} : pl_c (np + 1) (va_up BS np X) = pl_c np BS + (X.length + 1) := by
  have e : tt_c (bl_c (va_up BS np X)) (np + 1) = tt_c (bl_c BS) np + X.length := by
    show tt_c (bl_c (va_up BS np X)) np + (va_up BS np X np).length = _
    rw [tt_up (Nat.le_refl _), va_up_self]
  unfold pl_c; rw [e]; omega
/-! hits -/
/-- what every hit keeps to -/
def hz_p (rw : Nat → Int32) (q : Nat → Nat) (F G : List Int32) (k n : Nat) (x : Nat × Nat × Nat × Nat) : Prop := x.1 < n ∧ (1 ≤ x.2.1 ∧ (x.2.1 - 1) + F.length ≤ q x.1) ∧ x.2.2.1 ≤ 1 ∧ x.2.2.2 ≤ k ∧ mm_c rw (tt_c q x.1 + x.1 + (x.2.1 - 1)) (if x.2.2.1 = 0 then F else G) (if x.2.2.1 = 0 then F else G).length ≤ k
theorem mem_gd {P : Nat × Nat × Nat × Nat → Prop} {X : List (Nat × Nat × Nat × Nat)} (h : ∀ x ∈ X, P x) {k : Nat} (hk : k < X.length) : P (X.getD k (0, 0, 0, 0)) := by
  have e : X.getD k (0, 0, 0, 0) = X[k] := by rw [List.getD_eq_getElem?_getD, List.getElem?_eq_getElem hk]; rfl
  rw [e]
  exact h _ (List.getElem_mem hk)
theorem ha_ok {rw : Nat → Int32} {q : Nat → Nat} {F G : List Int32} {k p o n N : Nat} (hp : p < N) (ho : o + F.length ≤ q p) (hn : n ≤ 2) : ∀ x ∈ ha_c rw (tt_c q p + p + o) F G k p o n, hz_p rw q F G k N x := by
  induction n with
  | zero => exact fun x hx => absurd hx List.not_mem_nil
  | succ n ih =>
    intro x hx
    have hx : x ∈ ha_c rw (tt_c q p + p + o) F G k p o n ++ (if mm_c rw (tt_c q p + p + o) (if n = 0 then F else G) (if n = 0 then F else G).length ≤ k then [(p, o + 1, n, mm_c rw (tt_c q p + p + o) (if n = 0 then F else G) (if n = 0 then F else G).length)] else []) := hx
    rcases List.mem_append.mp hx with z | z
    · exact ih (by omega) x z
    · by_cases hm : mm_c rw (tt_c q p + p + o) (if n = 0 then F else G) (if n = 0 then F else G).length ≤ k
      · rw [if_pos hm] at z
        rw [List.mem_singleton.mp z]
        exact ⟨hp, ⟨by show 1 ≤ o + 1; omega, ho⟩, by show n ≤ 1; omega, hm, hm⟩
      · rw [if_neg hm] at z
        exact absurd z List.not_mem_nil
theorem ho_ok {rw : Nat → Int32} {q : Nat → Nat} {F G : List Int32} {k p o N : Nat} (hp : p < N) (ho : o ≤ q p + 1 - F.length) : ∀ x ∈ ho_c rw (tt_c q p + p) F G k p o, hz_p rw q F G k N x := by
  induction o with
  | zero => exact fun x hx => absurd hx List.not_mem_nil
  | succ o ih =>
    intro x hx
    have hx : x ∈ ho_c rw (tt_c q p + p) F G k p o ++ ha_c rw (tt_c q p + p + o) F G k p o 2 := hx
    rcases List.mem_append.mp hx with z | z
    · exact ih (by omega) x z
    · exact ha_ok hp (by omega) (Nat.le_refl _) x z
theorem hn_ok {rw : Nat → Int32} {q : Nat → Nat} {F G : List Int32} {k n N : Nat} (hn : n ≤ N) : ∀ x ∈ hn_c rw q F G k n, hz_p rw q F G k N x := by
  induction n with
  | zero => exact fun x hx => absurd hx List.not_mem_nil
  | succ n ih =>
    intro x hx
    have hx : x ∈ hn_c rw q F G k n ++ ho_c rw (tt_c q n + n) F G k n (q n + 1 - F.length) := hx
    rcases List.mem_append.mp hx with z | z
    · exact ih (by omega) x z
    · exact ho_ok (by omega) (Nat.le_refl _) x z
/-! quality is a small number -/
theorem qy_n (x : Int32) {X : List (Nat × Nat × Nat × Nat)} (hX : X.length ≤ 1000) : ∃ n, n < 100 ∧ qy_c x X = nI n := by
  unfold qy_c
  split
  · exact ⟨0, by omega, rfl⟩
  · split
    · exact ⟨37, by omega, rfl⟩
    · have hc := ct_le (fun j => (hm_c X).getD j 0) (x + 1) X.length
      split
      · rename_i h
        obtain ⟨m, a, b, _⟩ := qq_3 (c := ct_c (fun j => (hm_c X).getD j 0) (x + 1) X.length) (by omega) (fun z => by
          have h1 := Int32.lt_iff_toInt_lt.mp h
          have h2 := Int32.lt_iff_toInt_lt.mp z
          omega)
        exact ⟨m, by omega, a⟩
      · exact ⟨2, by omega, rfl⟩
/-! bytes -/
def by_p (J : List Int32) : Prop := ∀ j, j < J.length → ∃ k, k < 256 ∧ J.getD j 0 = nI k
theorem by_m {J : List Int32} (h : ∀ x ∈ J, ∃ k, k < 256 ∧ x = nI k) : by_p J := fun j hj => by
  have e : J.getD j 0 = J[j] := by rw [List.getD_eq_getElem?_getD, List.getElem?_eq_getElem hj]; rfl
  rw [e]
  exact h _ (List.getElem_mem hj)
theorem by_i {J : List Int32} (h : by_p J) : ∀ x ∈ J, ∃ k, k < 256 ∧ x = nI k := fun x hx => by
  obtain ⟨j, hj, e⟩ := List.getElem_of_mem hx
  have a := h j hj
  rw [List.getD_eq_getElem?_getD, List.getElem?_eq_getElem hj] at a
  rw [← e]; exact a
theorem by_255 (x : Int32) : ∃ k, k < 256 ∧ x &&& 255 = nI k := by
  refine ⟨x.toBitVec.toNat % 256, Nat.mod_lt _ (by decide), ?_⟩
  apply Int32.toBitVec_inj.mp
  apply BitVec.eq_of_toNat_eq
  have e1 : (x &&& 255).toBitVec.toNat = x.toBitVec.toNat % 256 := by
    rw [Int32.toBitVec_and, BitVec.toNat_and]
    exact Nat.and_two_pow_sub_one_eq_mod _ 8
  rw [e1]
  show _ = (BitVec.ofNat 32 (x.toBitVec.toNat % 256)).toNat
  rw [BitVec.toNat_ofNat]
  exact (Nat.mod_eq_of_lt (Nat.lt_trans (Nat.mod_lt _ (by decide)) (by decide))).symm
theorem by_xor {a b : Nat} (ha : a < 256) (hb : b < 256) : ∃ k, k < 256 ∧ nI a ^^^ nI b = nI k := by
  refine ⟨a ^^^ b, Nat.xor_lt_two_pow (n := 8) ha hb, ?_⟩
  apply Int32.toBitVec_inj.mp
  apply BitVec.eq_of_toNat_eq
  rw [Int32.toBitVec_xor, BitVec.toNat_xor]
  show (BitVec.ofNat 32 a).toNat ^^^ (BitVec.ofNat 32 b).toNat = (BitVec.ofNat 32 (a ^^^ b)).toNat
  have := Nat.xor_lt_two_pow (n := 8) ha hb
  rw [BitVec.toNat_ofNat, BitVec.toNat_ofNat, BitVec.toNat_ofNat, Nat.mod_eq_of_lt (by omega), Nat.mod_eq_of_lt (by omega), Nat.mod_eq_of_lt (by omega)]
theorem by_st {J : List Int32} {i x : Int32} (h : by_p J) (hl : J.length ≤ 1000) (hi : ¬ i < 0 ∧ ¬ nI J.length ≤ i) : by_p (st_c J i (at_c J i ^^^ (x &&& 255))) := by
  obtain ⟨k, hk, e⟩ := hx_in hl hi.1 hi.2
  obtain ⟨a, ha, ea⟩ := h k hk
  obtain ⟨b, hb, eb⟩ := by_255 x
  have e1 : at_c J i = nI a := by rw [e, at_n hk hl, ea]
  rw [e1, eb]
  obtain ⟨c, hc, ec⟩ := by_xor ha hb
  rw [ec]
  unfold st_c
  rw [if_pos hi]
  refine by_m (fun y hy => ?_)
  rcases List.mem_or_eq_of_mem_set hy with z | z
  · exact by_i h y z
  · exact ⟨c, hc, z⟩
theorem by_dl {J : List Int32} (h : by_p J) : by_p J.dropLast := by_m (fun x hx => by_i h x ((List.dropLast_sublist J).subset hx))
theorem nm_by {x : Int32} (h : nm_c x) : ∃ k, k < 256 ∧ x = nI k := by
  have key : ∀ {a b : Int32} {m : Nat}, b.toInt = m → m < 256 → 0 ≤ a.toInt → ¬ x < a → x ≤ b → ∃ k, k < 256 ∧ x = nI k := fun hb hm ha h1 h2 => by
    obtain ⟨k, hk, e⟩ := nI_of2 hb (fun z => by
      have z1 := Int32.lt_iff_toInt_lt.mp z
      have z2 := mt Int32.lt_iff_toInt_lt.mpr h1
      have z3 : (0 : Int32).toInt = 0 := rfl
      omega) h2
    exact ⟨k, by omega, e⟩
  rcases h with ⟨a, b⟩ | ⟨a, b⟩ | ⟨a, b⟩ | a
  · exact key (m := 122) rfl (by omega) (by decide) a b
  · exact key (m := 90) rfl (by omega) (by decide) a b
  · exact key (m := 57) rfl (by omega) (by decide) a b
  · exact ⟨95, by omega, a⟩
theorem dp_by {NM BS : Nat → List Int32} {np n : Nat} (h : vq_p np NM BS) (hn : n ≤ np) : ∀ x ∈ dp_c NM (ln_c BS) n, ∃ k, k < 256 ∧ x = nI k := by
  induction n with
  | zero => exact fun x hx => absurd hx List.not_mem_nil
  | succ n ih =>
    intro x hx
    have hx : x ∈ dp_c NM (ln_c BS) n ++ ([nI (NM n).length] ++ NM n ++ [nI (BS n).length]) := hx
    obtain ⟨⟨v1, v2, v3⟩, v4, v5⟩ := h.2.2.1 n (by omega)
    have d : tt_c (bl_c BS) (n + 1) ≤ tt_c (bl_c BS) np := tt_mono _ hn
    have d2 : tt_c (bl_c BS) (n + 1) = tt_c (bl_c BS) n + (BS n).length := rfl
    have d3 := h.2.1
    rcases List.mem_append.mp hx with z | z
    · exact ih (by omega) x z
    · rcases List.mem_append.mp z with z | z
      · rcases List.mem_append.mp z with z | z
        · exact ⟨(NM n).length, by omega, List.mem_singleton.mp z⟩
        · obtain ⟨j, hj, e⟩ := List.getElem_of_mem z
          have a := v3 j hj
          rw [List.getD_eq_getElem?_getD, List.getElem?_eq_getElem hj] at a
          rw [← e]; exact nm_by a
      · exact ⟨(BS n).length, by omega, List.mem_singleton.mp z⟩
theorem tk_by {f : Nat → Int32} {n : Nat} (h : ∀ j, j < n → ∃ k, k < 256 ∧ f j = nI k) : ∀ x ∈ tk_c f n, ∃ k, k < 256 ∧ x = nI k := by
  induction n with
  | zero => exact fun x hx => absurd hx List.not_mem_nil
  | succ n ih =>
    intro x hx
    have hx : x ∈ tk_c f n ++ [f n] := hx
    rcases List.mem_append.mp hx with z | z
    · exact ih (fun j hj => h j (by omega)) x z
    · rw [List.mem_singleton.mp z]; exact h n (by omega)
theorem sm_by {so : Nat → Nat} {rt n : Nat} (h : ∀ j, j < n → so j < 256) : ∀ x ∈ sm_c so rt n, ∃ k, k < 256 ∧ x = nI k := by
  induction n with
  | zero => exact fun x hx => absurd hx List.not_mem_nil
  | succ n ih =>
    intro x hx
    have hx : x ∈ sm_c so rt n ++ (if so n % rt = 0 then [nI (so n)] else []) := hx
    rcases List.mem_append.mp hx with z | z
    · exact ih (fun j hj => h j (by omega)) x z
    · by_cases hm : so n % rt = 0
      · rw [if_pos hm] at z
        exact ⟨so n, h n (by omega), List.mem_singleton.mp z⟩
      · rw [if_neg hm] at z
        exact absurd z List.not_mem_nil
theorem ic_by {np rt pl : Nat} {NM BS : Nat → List Int32} {tr : Nat → Int32} {so : Nat → Nat} (hv : vq_p np NM BS) (hr : rt ≤ 8) (ht : ∀ j, j < pl → ∃ k, k < 256 ∧ tr j = nI k) (hs : ∀ j, j < pl → so j < 256) : by_p (ic_c np NM (ln_c BS) rt tr so pl) := by
  refine by_m (fun x hx => ?_)
  rw [ic_sp] at hx
  have hn := hv.1
  rcases List.mem_append.mp hx with z | z
  · rcases List.mem_append.mp z with z | z
    · rcases List.mem_append.mp z with z | z
      · rcases List.mem_cons.mp z with z | z
        · exact ⟨70, by omega, z⟩
        · rcases List.mem_cons.mp z with z | z
          · exact ⟨77, by omega, z⟩
          · exact ⟨1, by omega, List.mem_singleton.mp z⟩
      · exact ⟨np, by omega, List.mem_singleton.mp z⟩
    · exact dp_by hv (Nat.le_refl _) x z
  · rcases List.mem_append.mp z with z | z
    · exact ⟨rt, by omega, List.mem_singleton.mp z⟩
    · rcases List.mem_append.mp z with z | z
      · exact tk_by ht x z
      · rcases List.mem_append.mp z with z | z
        · exact sm_by hs x z
        · unfold s4_c at z
          rcases List.mem_cons.mp z with z | z
          · rw [z]; exact by_255 _
          · rcases List.mem_cons.mp z with z | z
            · rw [z]; exact by_255 _
            · rcases List.mem_cons.mp z with z | z
              · rw [z]; exact by_255 _
              · rw [List.mem_singleton.mp z]; exact by_255 _
theorem bf_by {np : Nat} {NM BS : Nat → List Int32} {G : Nat → Int32} {so : Nat → Nat} (hn : 1 ≤ np) (hv : vq_p np NM BS) (hG : gr_p np BS G) (hi : iv_p G (pl_c np BS) so) {j : Nat} (hj : j < pl_c np BS) : ∃ k, k < 256 ∧ bf_c G so j = nI k := by
  have hk := gr_k hn hv hG
  have hl := iv_lt hk.1 hi hj
  unfold bf_c
  split
  · exact ⟨0, by omega, rfl⟩
  · have a := hk.1.2.2 (so j - 1) (by omega)
    have b := hk.2 (so j - 1) (by omega)
    obtain ⟨k, h1, h2⟩ := nI_of2 (M := 6) (n := 6) rfl (fun z => by
      have z1 := Int32.lt_iff_toInt_lt.mp z
      have z3 : (0 : Int32).toInt = 0 := rfl
      have z4 : ky_c G (so j - 1) = (G (so j - 1)).toInt := rfl
      omega) b
    exact ⟨k, by omega, h2⟩
/-! the text's letters -/
def tx_p (L : List Int32) : Prop := ∀ x ∈ L, ch_p x
theorem tx_g {L : List Int32} (h : tx_p L) : ∀ j, j < L.length → ch_p (L.getD j 0) := fun j hj => by
  have e : L.getD j 0 = L[j] := by rw [List.getD_eq_getElem?_getD, List.getElem?_eq_getElem hj]; rfl
  rw [e]
  exact h _ (List.getElem_mem hj)
theorem tx_wb {w : Int64} {n : Nat} (hn : n ≤ 8) (h : ∀ i, i < 8 → wb_p w i) : tx_p (wb_c w n) := by
  induction n with
  | zero => exact fun x hx => absurd hx List.not_mem_nil
  | succ n ih =>
    intro x hx
    have hx : x ∈ wb_c w n ++ (if by_c w (8 * (7 - n)) = 0 then [] else [by_c w (8 * (7 - n))]) := hx
    rcases List.mem_append.mp hx with z | z
    · exact ih (by omega) x z
    · by_cases hm : by_c w (8 * (7 - n)) = 0
      · rw [if_pos hm] at z
        exact absurd z List.not_mem_nil
      · rw [if_neg hm] at z
        rw [List.mem_singleton.mp z]
        exact wb_ch (h n (by omega)) hm
theorem tx_a {L M : List Int32} (h1 : tx_p L) (h2 : tx_p M) : tx_p (L ++ M) := fun x hx => (List.mem_append.mp hx).elim (h1 x) (h2 x)
theorem tx_0 : tx_p [] := fun x hx => absurd hx List.not_mem_nil
theorem nm_ch {x : Int32} (h : nm_c x) : ch_p x := by
  obtain ⟨k, hk, e⟩ := nm_by h
  rw [e]; exact ch_nI (by omega)
