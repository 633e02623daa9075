/-! the reference: a piece is added; what is sought is found -/
def rq_p (np : Nat) (NM BS : Nat → List Int32) (nf sz bc bf : Nat → Int32) : Prop := nm_p np NM nf sz ∧ ∀ p, p < np → bc p = nI (BS p).length ∧ ∀ t, t < (BS p).length → bf (tt_c (bl_c BS) p + t) = (BS p).getD t 0
theorem mp_get {f : Int32 → Int32} {M : List Int32} {j : Nat} (h : j < M.length) : (M.map f).getD j 0 = f (M.getD j 0) := by
  rw [List.getD_eq_getElem?_getD, List.getElem?_map, List.getD_eq_getElem?_getD, List.getElem?_eq_getElem h]; rfl
theorem nl_le {L : List Int32} {k : Nat} (h : nl_p L k) : k ≤ L.length ∧ k ≤ 8 := by
  rcases h with h | ⟨rfl, _⟩
  · exact ⟨Nat.le_of_lt h.2.2.1, h.2.1⟩
  · exact ⟨Nat.zero_le _, Nat.zero_le _⟩
theorem nl_u2 {L : List Int32} {k i : Nat} (h1 : nl_y L k) (h2 : nl_y L i) : ¬ k < i := fun z => nm_58 (h1.2.2.2.1 ▸ h2.2.2.2.2 k z)
theorem nl_un {L : List Int32} {k i : Nat} (h : nl_p L k) (h2 : nl_y L i) : k = i := by
  rcases h with h | ⟨_, h⟩
  · have a := nl_u2 h h2
    have b := nl_u2 h2 h
    omega
  · exact absurd h2 (h i)
theorem pg_y {L : List Int32} {k : Nat} (h : nx_p L 58 0 k) (hp : pc_ok L k) : nl_y L k := by
  obtain ⟨⟨a1, a2, a3, a4⟩, b1, _⟩ := hp
  refine ⟨a1, by omega, by omega, ?_, fun j hj => a4 j (Nat.zero_le _) hj⟩
  rcases h with z | z
  · omega
  · exact z.2.2.1
theorem pg_f {L : List Int32} {k1 np : Nat} {NM : Nat → List Int32} (h1 : nl_p L k1) (h2 : nl_y L k1 → pc_ok L k1 → ∃ j, j < np ∧ NM j = sl_p L 0 k1) : ∀ k, nx_p L 58 0 k → ¬ pc_ok L k ∨ ∃ j, j < np ∧ NM j = sl_p L 0 k := by
  intro k hk
  by_cases z : pc_ok L k
  · have e := nl_un h1 (pg_y hk z)
    subst e
    exact Or.inr (h2 (pg_y hk z) z)
  · exact Or.inl z
theorem pc_len {L : List Int32} {k : Nat} (h : pc_ok L k) : k + 1 < L.length := h.2.1
theorem nb_un {L : List Int32} {b k i : Nat} (h : nb_p L b k) (h2 : nb_p L b i) : k = i := by
  obtain ⟨a1, a2, a3, a4⟩ := h
  obtain ⟨b1, b2, b3, b4⟩ := h2
  rcases Nat.lt_trichotomy k i with z | z | z
  · exact absurd (a4 (by omega)) (b3 k a1 z)
  · exact z
  · exact absurd (b4 (by omega)) (a3 i b1 z)
theorem nb_all {L : List Int32} {k e : Nat} (h : nb_p L (k + 1) e) (hp : pc_ok L k) : e = L.length :=
  nb_un h ⟨by have := hp.2.1; omega, Or.inl (Nat.le_refl _), fun j h1 h2 => hp.2.2.2.2 j h1 h2, fun z => absurd z (Nat.lt_irrefl _)⟩
theorem pg_t {L : List Int32} {k : Nat} (hl : L.length ≤ 72) (h : nl_p L k) (h0 : 0 < k) (h1 : k ≤ L.length) (h2 : k + 1 < L.length) (hb : nb_p L (k + 1) L.length) : nx_p L 58 0 k ∧ pc_ok L k := by
  rcases h with h | ⟨e, _⟩
  · obtain ⟨a, b, c, d, e⟩ := h
    exact ⟨Or.inr ⟨Nat.zero_le _, c, d, fun j _ hj e2 => nm_58 (e2 ▸ e j hj)⟩, ⟨a, by omega, by omega, fun j _ hj => e j hj⟩, h2, by omega, Nat.le_refl _, fun j hj1 hj2 => hb.2.2.1 j hj1 hj2⟩
  · omega
theorem pb_len {L : List Int32} {k : Nat} (h : pc_ok L k) : (pb_c L k).length = (L.length - k) - 1 := by
  unfold pb_c
  rw [bs_len (Nat.le_refl _)]; omega
theorem pb_get {L : List Int32} {k j : Nat} (h : j < (L.length - k) - 1) : (pb_c L k).getD j 0 = sy_c (L.getD (k + 1 + j) 0) := by
  have h2 : j < (sl_p L (k + 1) L.length).length := by rw [sl_len (Nat.le_refl _)]; omega
  have e : (pb_c L k).getD j 0 = sy_c ((sl_p L (k + 1) L.length).getD j 0) := by
    unfold pb_c
    exact mp_get h2
  rw [e, sl_get (by omega)]
theorem up_b {f g : Nat → Int32} {m n : Nat} {x : Int32} (h : n ≤ m) (hs : ∀ z, z < n → f z = g z) : ∀ z, z < n → upd f m x z = g z := fun z hz => by rw [pk_un (by omega)]; exact hs z hz
theorem up_c {f : Nat → Int32} {m n : Nat} {x : Int32} (h : ∀ z, z < n → ch_p (f z)) (hx : ch_p x) : ∀ z, z < n → ch_p (upd f m x z) := by
  intro z hz
  by_cases e : z = m
  · subst e; rw [pk_us]; exact hx
  · rw [pk_un e]; exact h z hz
theorem up_o {f : Nat → Int32} {g : Nat → Int32} {n i : Nat} (hs : ∀ j, j < i → f (n + j) = g j) : ∀ j, j < i + 1 → upd f (n + i) (g i) (n + j) = g j := by
  intro j hj
  rcases Nat.lt_or_ge j i with z | z
  · rw [pk_un (by omega)]; exact hs j z
  · have e : j = i := by omega
    subst e
    exact pk_us
theorem tt_up {BS : Nat → List Int32} {n p : Nat} {X : List Int32} (h : p ≤ n) : tt_c (bl_c (va_up BS n X)) p = tt_c (bl_c BS) p := by
  induction p with
  | zero => rfl
  | succ p ih =>
    show tt_c (bl_c (va_up BS n X)) p + (va_up BS n X p).length = tt_c (bl_c BS) p + (BS p).length
    rw [ih (by omega), va_up_ne BS X (by omega)]
theorem rq_add {np k tot : Nat} {NM BS : Nat → List Int32} {nf sz bc bf nf1 bf1 : Nat → Int32} {L : List Int32} (hq : rq_p np NM BS nf sz bc bf) (htot : tot = tt_c (bl_c BS) np) (hk : k ≤ 8) (hkl : k ≤ L.length) (hm : (pb_c L k).length = (L.length - k) - 1)
    (hn1 : ∀ z, z < 8 * np → nf1 z = nf z) (hn2 : ∀ j, j < k → nf1 (8 * np + j) = L.getD j 0) (hb1 : ∀ z, z < tot → bf1 z = bf z) (hb2 : ∀ j, j < (L.length - k) - 1 → bf1 (tot + j) = sy_c (L.getD (k + 1 + j) 0)) :
    rq_p (np + 1) (va_up NM np (sl_p L 0 k)) (va_up BS np (pb_c L k)) nf1 (upd sz np (nI k)) (upd bc np (nI ((L.length - k) - 1))) bf1 ∧ tot + ((L.length - k) - 1) = tt_c (bl_c (va_up BS np (pb_c L k))) (np + 1) := by
  refine ⟨⟨fun p hp => ?_, fun p hp => ?_⟩, ?_⟩
  · rcases Nat.lt_or_ge p np with z | z
    · rw [va_up_ne NM _ (by omega), pk_un (by omega)]
      obtain ⟨a, b, c⟩ := hq.1 p z
      exact ⟨a, b, fun j hj => by rw [hn1 _ (by omega)]; exact c j hj⟩
    · have e : p = np := by omega
      subst e
      rw [va_up_self, pk_us, sl_len hkl]
      exact ⟨by omega, rfl, fun j hj => by rw [hn2 j (by omega), sl_get (by omega), Nat.zero_add]⟩
  · rw [tt_up (by omega)]
    rcases Nat.lt_or_ge p np with z | z
    · rw [va_up_ne BS _ (by omega), pk_un (by omega)]
      obtain ⟨a, b⟩ := hq.2 p z
      have hm2 : tt_c (bl_c BS) p + (BS p).length ≤ tot := by rw [htot]; exact tt_mono (bl_c BS) (show p + 1 ≤ np by omega)
      exact ⟨a, fun t ht => by rw [hb1 _ (by omega)]; exact b t ht⟩
    · have e : p = np := by omega
      subst e
      rw [va_up_self, pk_us, hm]
      exact ⟨rfl, fun t ht => by rw [← htot, hb2 t ht, pb_get ht]⟩
  · show _ = tt_c (bl_c (va_up BS np (pb_c L k))) np + (va_up BS np (pb_c L k) np).length
    rw [tt_up (Nat.le_refl _), va_up_self, hm, htot]
theorem fb_len (L : List Int32) : (fb_c L).length = L.length := by
  unfold fb_c; rw [bs_len (Nat.le_refl _)]; omega
theorem fb_get {L : List Int32} {j : Nat} (h : j < L.length) : (fb_c L).getD j 0 = sy_c (L.getD j 0) := by
  have h2 : j < (sl_p L 0 L.length).length := by rw [sl_len (Nat.le_refl _)]; omega
  have e : (fb_c L).getD j 0 = sy_c ((sl_p L 0 L.length).getD j 0) := by
    unfold fb_c
    exact mp_get h2
  rw [e, sl_get (by omega), Nat.zero_add]
theorem sy_N (x : Int32) : sy_c x = 5 ↔ x = 78 := by
  constructor
  · intro h
    unfold sy_c at h
    split at h
    · exact absurd h (by decide)
    · split at h
      · exact absurd h (by decide)
      · split at h
        · exact absurd h (by decide)
        · split at h
          · rename_i e; exact e.symm
          · split at h
            · exact absurd h (by decide)
            · exact absurd h (by decide)
  · intro h; subst h; rfl
theorem fg_1 {L : List Int32} (h0 : 0 < L.length) (h : nb_p L 0 L.length) : true = true ↔ (0 < L.length ∧ nb_p L 0 L.length ∧ ∀ j, j < 0 → ¬ L.getD j 0 = 78) := ⟨fun _ => ⟨h0, h, fun j hj => absurd hj (Nat.not_lt_zero j)⟩, fun _ => rfl⟩
theorem fg_2 {P : Prop} (h : ¬ P) : false = true ↔ P := ⟨fun e => absurd e (by decide), fun e => absurd e h⟩
theorem fg_3 {L : List Int32} {k : Nat} {g : Bool} (hg : g = true ↔ (0 < L.length ∧ nb_p L 0 L.length ∧ ∀ j, j < k → ¬ L.getD j 0 = 78)) (h : bz_c g = 0) : false = true ↔ (0 < L.length ∧ nb_p L 0 L.length ∧ ∀ j, j < k + 1 → ¬ L.getD j 0 = 78) :=
  fg_2 (fun y => bz_n h (hg.mpr ⟨y.1, y.2.1, fun j hj => y.2.2 j (by omega)⟩))
theorem fg_4 {L : List Int32} {k : Nat} (h : L.getD k 0 = 78) : false = true ↔ (0 < L.length ∧ nb_p L 0 L.length ∧ ∀ j, j < k + 1 → ¬ L.getD j 0 = 78) := fg_2 (fun y => y.2.2 k (Nat.lt_succ_self k) h)
theorem fg_5 {L : List Int32} {k : Nat} {g : Bool} (hg : g = true ↔ (0 < L.length ∧ nb_p L 0 L.length ∧ ∀ j, j < k → ¬ L.getD j 0 = 78)) (h : ¬ bz_c g = 0) (h2 : ¬ L.getD k 0 = 78) : true = true ↔ (0 < L.length ∧ nb_p L 0 L.length ∧ ∀ j, j < k + 1 → ¬ L.getD j 0 = 78) :=
  ⟨fun _ => have y := hg.mp (bz_1 h); ⟨y.1, y.2.1, lt_s y.2.2 h2⟩, fun _ => rfl⟩
theorem fd_w {L : List Int32} {k : Nat} (hl : L.length ≤ 72) (hk : k = L.length) : fd_ok L ↔ (0 < L.length ∧ nb_p L 0 L.length ∧ ∀ j, j < k → ¬ L.getD j 0 = 78) := by
  subst hk
  constructor
  · intro h
    refine ⟨h.1.1, ⟨Nat.zero_le _, Or.inl (Nat.le_refl _), fun j h1 h2 => h.1.2.2.2 j h1 h2, fun z => absurd z (Nat.lt_irrefl _)⟩, fun j hj e => ?_⟩
    have := h.2 j (by rw [fb_len]; exact hj)
    rw [fb_get hj] at this
    exact this ((sy_N _).mpr e)
  · intro h
    refine ⟨⟨h.1, by omega, Nat.le_refl _, fun j h1 h2 => h.2.1.2.2.1 j h1 h2⟩, fun j hj e => ?_⟩
    rw [fb_len] at hj
    rw [fb_get hj] at e
    exact h.2.2 j hj ((sy_N _).mp e)
theorem fd_x {L : List Int32} {k : Nat} {g : Bool} (hl : L.length ≤ 72) (hk : k = L.length) (hg : g = true ↔ (0 < L.length ∧ nb_p L 0 L.length ∧ ∀ j, j < k → ¬ L.getD j 0 = 78)) (h : g = false) : ¬ fd_ok L := fun z => by
  have := hg.mpr ((fd_w hl hk).mp z)
  rw [h] at this
  exact absurd this (by decide)
theorem fd_z {L : List Int32} {k : Nat} {g : Bool} (hl : L.length ≤ 72) (hk : k = L.length) (hg : g = true ↔ (0 < L.length ∧ nb_p L 0 L.length ∧ ∀ j, j < k → ¬ L.getD j 0 = 78)) (h : g = true) : fd_ok L := (fd_w hl hk).mpr (hg.mp h)
theorem fi_e {P : Nat → Prop} {n : Nat} {R : Prop} (rd : Bool) (Wd : List Int32) (hs : ∀ j, j < n → ¬ P j) : ((Wd = [] ∨ rd = false) ∧ (-1 : Int32) = -1) ∨ (¬ Wd = [] ∧ rd = true ∧ (R ∨ ((-1 : Int32) = -1 ∧ ∀ j, j < n → ¬ P j))) := by
  by_cases h : Wd = []
  · exact Or.inl ⟨Or.inl h, rfl⟩
  · cases rd
    · exact Or.inl ⟨Or.inr rfl, rfl⟩
    · exact Or.inr ⟨h, rfl, Or.inr ⟨rfl, hs⟩⟩

theorem d_Mo_piece_0 : decode b_Mo_piece 0 = .ok (.aload_n 0, 1) := by decide +kernel
theorem d_Mo_piece_1 : decode b_Mo_piece 1 = .ok (.invokevirtual 100, 3) := by decide +kernel
theorem d_Mo_piece_4 : decode b_Mo_piece 4 = .ok (.istore_n 1, 1) := by decide +kernel
theorem d_Mo_piece_5 : decode b_Mo_piece 5 = .ok (.aload_n 0, 1) := by decide +kernel
theorem d_Mo_piece_6 : decode b_Mo_piece 6 = .ok (.getfield 86, 3) := by decide +kernel
theorem d_Mo_piece_9 : decode b_Mo_piece 9 = .ok (.iload_n 1, 1) := by decide +kernel
theorem d_Mo_piece_10 : decode b_Mo_piece 10 = .ok (.isub, 1) := by decide +kernel
theorem d_Mo_piece_11 : decode b_Mo_piece 11 = .ok (.iconst 1, 1) := by decide +kernel
theorem d_Mo_piece_12 : decode b_Mo_piece 12 = .ok (.isub, 1) := by decide +kernel
theorem d_Mo_piece_13 : decode b_Mo_piece 13 = .ok (.istore_n 2, 1) := by decide +kernel
theorem d_Mo_piece_14 : decode b_Mo_piece 14 = .ok (.iload_n 1, 1) := by decide +kernel
theorem d_Mo_piece_15 : decode b_Mo_piece 15 = .ok (.ifCond .le 33, 3) := by decide +kernel
theorem d_Mo_piece_18 : decode b_Mo_piece 18 = .ok (.iload_n 2, 1) := by decide +kernel
theorem d_Mo_piece_19 : decode b_Mo_piece 19 = .ok (.ifCond .le 29, 3) := by decide +kernel
theorem d_Mo_piece_22 : decode b_Mo_piece 22 = .ok (.aload_n 0, 1) := by decide +kernel
theorem d_Mo_piece_23 : decode b_Mo_piece 23 = .ok (.iload_n 1, 1) := by decide +kernel
theorem d_Mo_piece_24 : decode b_Mo_piece 24 = .ok (.iconst 1, 1) := by decide +kernel
theorem d_Mo_piece_25 : decode b_Mo_piece 25 = .ok (.iadd, 1) := by decide +kernel
theorem d_Mo_piece_26 : decode b_Mo_piece 26 = .ok (.invokevirtual 104, 3) := by decide +kernel
theorem d_Mo_piece_29 : decode b_Mo_piece 29 = .ok (.aload_n 0, 1) := by decide +kernel
theorem d_Mo_piece_30 : decode b_Mo_piece 30 = .ok (.getfield 86, 3) := by decide +kernel
theorem d_Mo_piece_33 : decode b_Mo_piece 33 = .ok (.if_icmp .ne 15, 3) := by decide +kernel
theorem d_Mo_piece_36 : decode b_Mo_piece 36 = .ok (.aload_n 0, 1) := by decide +kernel
theorem d_Mo_piece_37 : decode b_Mo_piece 37 = .ok (.iload_n 1, 1) := by decide +kernel
theorem d_Mo_piece_38 : decode b_Mo_piece 38 = .ok (.invokevirtual 108, 3) := by decide +kernel
theorem d_Mo_piece_41 : decode b_Mo_piece 41 = .ok (.ifCond .ne 7, 3) := by decide +kernel
theorem d_Mo_piece_44 : decode b_Mo_piece 44 = .ok (.iconst 1, 1) := by decide +kernel
theorem d_Mo_piece_45 : decode b_Mo_piece 45 = .ok (.goto 4, 3) := by decide +kernel
theorem d_Mo_piece_48 : decode b_Mo_piece 48 = .ok (.iconst 0, 1) := by decide +kernel
theorem d_Mo_piece_49 : decode b_Mo_piece 49 = .ok (.istore_n 3, 1) := by decide +kernel
theorem d_Mo_piece_50 : decode b_Mo_piece 50 = .ok (.aload_n 0, 1) := by decide +kernel
theorem d_Mo_piece_51 : decode b_Mo_piece 51 = .ok (.iload_n 3, 1) := by decide +kernel
theorem d_Mo_piece_52 : decode b_Mo_piece 52 = .ok (.ifCond .ne 7, 3) := by decide +kernel
theorem d_Mo_piece_55 : decode b_Mo_piece 55 = .ok (.iconst 1, 1) := by decide +kernel
theorem d_Mo_piece_56 : decode b_Mo_piece 56 = .ok (.goto 34, 3) := by decide +kernel
theorem d_Mo_piece_59 : decode b_Mo_piece 59 = .ok (.aload_n 0, 1) := by decide +kernel
theorem d_Mo_piece_60 : decode b_Mo_piece 60 = .ok (.getfield 112, 3) := by decide +kernel
theorem d_Mo_piece_63 : decode b_Mo_piece 63 = .ok (.ifCond .ne 22, 3) := by decide +kernel
theorem d_Mo_piece_66 : decode b_Mo_piece 66 = .ok (.aload_n 0, 1) := by decide +kernel
theorem d_Mo_piece_67 : decode b_Mo_piece 67 = .ok (.getfield 97, 3) := by decide +kernel
theorem d_Mo_piece_70 : decode b_Mo_piece 70 = .ok (.iconst 5, 1) := by decide +kernel
theorem d_Mo_piece_71 : decode b_Mo_piece 71 = .ok (.if_icmp .eq 14, 3) := by decide +kernel
theorem d_Mo_piece_74 : decode b_Mo_piece 74 = .ok (.aload_n 0, 1) := by decide +kernel
theorem d_Mo_piece_75 : decode b_Mo_piece 75 = .ok (.getfield 116, 3) := by decide +kernel
theorem d_Mo_piece_78 : decode b_Mo_piece 78 = .ok (.iload_n 2, 1) := by decide +kernel
theorem d_Mo_piece_79 : decode b_Mo_piece 79 = .ok (.iadd, 1) := by decide +kernel
theorem d_Mo_piece_80 : decode b_Mo_piece 80 = .ok (.bipush 60, 2) := by decide +kernel
theorem d_Mo_piece_82 : decode b_Mo_piece 82 = .ok (.if_icmp .le 7, 3) := by decide +kernel
theorem d_Mo_piece_85 : decode b_Mo_piece 85 = .ok (.iconst 2, 1) := by decide +kernel
theorem d_Mo_piece_86 : decode b_Mo_piece 86 = .ok (.goto 4, 3) := by decide +kernel
theorem d_Mo_piece_89 : decode b_Mo_piece 89 = .ok (.iconst 0, 1) := by decide +kernel
theorem d_Mo_piece_90 : decode b_Mo_piece 90 = .ok (.putfield 80, 3) := by decide +kernel
theorem d_Mo_piece_93 : decode b_Mo_piece 93 = .ok (.aload_n 0, 1) := by decide +kernel
theorem d_Mo_piece_94 : decode b_Mo_piece 94 = .ok (.getfield 80, 3) := by decide +kernel
theorem d_Mo_piece_97 : decode b_Mo_piece 97 = .ok (.ifCond .ne 121, 3) := by decide +kernel
theorem d_Mo_piece_100 : decode b_Mo_piece 100 = .ok (.iconst 0, 1) := by decide +kernel
theorem d_Mo_piece_101 : decode b_Mo_piece 101 = .ok (.istore 4, 2) := by decide +kernel
theorem d_Mo_piece_103 : decode b_Mo_piece 103 = .ok (.iload 4, 2) := by decide +kernel
theorem d_Mo_piece_105 : decode b_Mo_piece 105 = .ok (.iload_n 1, 1) := by decide +kernel
theorem d_Mo_piece_106 : decode b_Mo_piece 106 = .ok (.if_icmp .ge 31, 3) := by decide +kernel
theorem d_Mo_piece_109 : decode b_Mo_piece 109 = .ok (.aload_n 0, 1) := by decide +kernel
theorem d_Mo_piece_110 : decode b_Mo_piece 110 = .ok (.getfield 13, 3) := by decide +kernel
theorem d_Mo_piece_113 : decode b_Mo_piece 113 = .ok (.bipush 8, 2) := by decide +kernel
theorem d_Mo_piece_115 : decode b_Mo_piece 115 = .ok (.aload_n 0, 1) := by decide +kernel
theorem d_Mo_piece_116 : decode b_Mo_piece 116 = .ok (.getfield 97, 3) := by decide +kernel
theorem d_Mo_piece_119 : decode b_Mo_piece 119 = .ok (.imul, 1) := by decide +kernel
theorem d_Mo_piece_120 : decode b_Mo_piece 120 = .ok (.iload 4, 2) := by decide +kernel
theorem d_Mo_piece_122 : decode b_Mo_piece 122 = .ok (.iadd, 1) := by decide +kernel
theorem d_Mo_piece_123 : decode b_Mo_piece 123 = .ok (.aload_n 0, 1) := by decide +kernel
theorem d_Mo_piece_124 : decode b_Mo_piece 124 = .ok (.getfield 7, 3) := by decide +kernel
theorem d_Mo_piece_127 : decode b_Mo_piece 127 = .ok (.iload 4, 2) := by decide +kernel
theorem d_Mo_piece_129 : decode b_Mo_piece 129 = .ok (.caload, 1) := by decide +kernel
theorem d_Mo_piece_130 : decode b_Mo_piece 130 = .ok (.castore, 1) := by decide +kernel
theorem d_Mo_piece_131 : decode b_Mo_piece 131 = .ok (.iinc 4 1, 3) := by decide +kernel
theorem d_Mo_piece_134 : decode b_Mo_piece 134 = .ok (.goto (-31), 3) := by decide +kernel
theorem d_Mo_piece_137 : decode b_Mo_piece 137 = .ok (.iconst 0, 1) := by decide +kernel
theorem d_Mo_piece_138 : decode b_Mo_piece 138 = .ok (.istore 4, 2) := by decide +kernel
theorem d_Mo_piece_140 : decode b_Mo_piece 140 = .ok (.iload 4, 2) := by decide +kernel
theorem d_Mo_piece_142 : decode b_Mo_piece 142 = .ok (.iload_n 2, 1) := by decide +kernel
theorem d_Mo_piece_143 : decode b_Mo_piece 143 = .ok (.if_icmp .ge 35, 3) := by decide +kernel
theorem d_Mo_piece_146 : decode b_Mo_piece 146 = .ok (.aload_n 0, 1) := by decide +kernel
theorem d_Mo_piece_147 : decode b_Mo_piece 147 = .ok (.getfield 23, 3) := by decide +kernel
theorem d_Mo_piece_150 : decode b_Mo_piece 150 = .ok (.aload_n 0, 1) := by decide +kernel
theorem d_Mo_piece_151 : decode b_Mo_piece 151 = .ok (.getfield 116, 3) := by decide +kernel
theorem d_Mo_piece_154 : decode b_Mo_piece 154 = .ok (.iload 4, 2) := by decide +kernel
theorem d_Mo_piece_156 : decode b_Mo_piece 156 = .ok (.iadd, 1) := by decide +kernel
theorem d_Mo_piece_157 : decode b_Mo_piece 157 = .ok (.aload_n 0, 1) := by decide +kernel
theorem d_Mo_piece_158 : decode b_Mo_piece 158 = .ok (.getfield 7, 3) := by decide +kernel
theorem d_Mo_piece_161 : decode b_Mo_piece 161 = .ok (.iload_n 1, 1) := by decide +kernel
theorem d_Mo_piece_162 : decode b_Mo_piece 162 = .ok (.iconst 1, 1) := by decide +kernel
theorem d_Mo_piece_163 : decode b_Mo_piece 163 = .ok (.iadd, 1) := by decide +kernel
theorem d_Mo_piece_164 : decode b_Mo_piece 164 = .ok (.iload 4, 2) := by decide +kernel
theorem d_Mo_piece_166 : decode b_Mo_piece 166 = .ok (.iadd, 1) := by decide +kernel
theorem d_Mo_piece_167 : decode b_Mo_piece 167 = .ok (.caload, 1) := by decide +kernel
theorem d_Mo_piece_168 : decode b_Mo_piece 168 = .ok (.invokestatic 93, 3) := by decide +kernel
theorem d_Mo_piece_171 : decode b_Mo_piece 171 = .ok (.iastore, 1) := by decide +kernel
theorem d_Mo_piece_172 : decode b_Mo_piece 172 = .ok (.iinc 4 1, 3) := by decide +kernel
theorem d_Mo_piece_175 : decode b_Mo_piece 175 = .ok (.goto (-35), 3) := by decide +kernel
theorem d_Mo_piece_178 : decode b_Mo_piece 178 = .ok (.aload_n 0, 1) := by decide +kernel
theorem d_Mo_piece_179 : decode b_Mo_piece 179 = .ok (.getfield 16, 3) := by decide +kernel
theorem d_Mo_piece_182 : decode b_Mo_piece 182 = .ok (.aload_n 0, 1) := by decide +kernel
theorem d_Mo_piece_183 : decode b_Mo_piece 183 = .ok (.getfield 97, 3) := by decide +kernel
theorem d_Mo_piece_186 : decode b_Mo_piece 186 = .ok (.iload_n 1, 1) := by decide +kernel
theorem d_Mo_piece_187 : decode b_Mo_piece 187 = .ok (.iastore, 1) := by decide +kernel
theorem d_Mo_piece_188 : decode b_Mo_piece 188 = .ok (.aload_n 0, 1) := by decide +kernel
theorem d_Mo_piece_189 : decode b_Mo_piece 189 = .ok (.getfield 20, 3) := by decide +kernel
theorem d_Mo_piece_192 : decode b_Mo_piece 192 = .ok (.aload_n 0, 1) := by decide +kernel
theorem d_Mo_piece_193 : decode b_Mo_piece 193 = .ok (.getfield 97, 3) := by decide +kernel
theorem d_Mo_piece_196 : decode b_Mo_piece 196 = .ok (.iload_n 2, 1) := by decide +kernel
theorem d_Mo_piece_197 : decode b_Mo_piece 197 = .ok (.iastore, 1) := by decide +kernel
theorem d_Mo_piece_198 : decode b_Mo_piece 198 = .ok (.aload_n 0, 1) := by decide +kernel
theorem d_Mo_piece_199 : decode b_Mo_piece 199 = .ok (.aload_n 0, 1) := by decide +kernel
theorem d_Mo_piece_200 : decode b_Mo_piece 200 = .ok (.getfield 116, 3) := by decide +kernel
theorem d_Mo_piece_203 : decode b_Mo_piece 203 = .ok (.iload_n 2, 1) := by decide +kernel
theorem d_Mo_piece_204 : decode b_Mo_piece 204 = .ok (.iadd, 1) := by decide +kernel
theorem d_Mo_piece_205 : decode b_Mo_piece 205 = .ok (.putfield 116, 3) := by decide +kernel
theorem d_Mo_piece_208 : decode b_Mo_piece 208 = .ok (.aload_n 0, 1) := by decide +kernel
theorem d_Mo_piece_209 : decode b_Mo_piece 209 = .ok (.dup, 1) := by decide +kernel
theorem d_Mo_piece_210 : decode b_Mo_piece 210 = .ok (.getfield 97, 3) := by decide +kernel
theorem d_Mo_piece_213 : decode b_Mo_piece 213 = .ok (.iconst 1, 1) := by decide +kernel
theorem d_Mo_piece_214 : decode b_Mo_piece 214 = .ok (.iadd, 1) := by decide +kernel
theorem d_Mo_piece_215 : decode b_Mo_piece 215 = .ok (.putfield 97, 3) := by decide +kernel
theorem d_Mo_piece_218 : decode b_Mo_piece 218 = .ok (.aload_n 0, 1) := by decide +kernel
theorem d_Mo_piece_219 : decode b_Mo_piece 219 = .ok (.iconst 0, 1) := by decide +kernel
theorem d_Mo_piece_220 : decode b_Mo_piece 220 = .ok (.putfield 86, 3) := by decide +kernel
theorem d_Mo_piece_223 : decode b_Mo_piece 223 = .ok (.aload_n 0, 1) := by decide +kernel
theorem d_Mo_piece_224 : decode b_Mo_piece 224 = .ok (.getfield 80, 3) := by decide +kernel
theorem d_Mo_piece_227 : decode b_Mo_piece 227 = .ok (.ifCond .ne 12, 3) := by decide +kernel
theorem d_Mo_piece_230 : decode b_Mo_piece 230 = .ok (.aload_n 0, 1) := by decide +kernel
theorem d_Mo_piece_231 : decode b_Mo_piece 231 = .ok (.getfield 97, 3) := by decide +kernel
theorem d_Mo_piece_234 : decode b_Mo_piece 234 = .ok (.iconst 1, 1) := by decide +kernel
theorem d_Mo_piece_235 : decode b_Mo_piece 235 = .ok (.isub, 1) := by decide +kernel
theorem d_Mo_piece_236 : decode b_Mo_piece 236 = .ok (.goto 4, 3) := by decide +kernel
theorem d_Mo_piece_239 : decode b_Mo_piece 239 = .ok (.iconst 0, 1) := by decide +kernel
theorem d_Mo_piece_240 : decode b_Mo_piece 240 = .ok (.ireturn, 1) := by decide +kernel
theorem d_Mo_beginsWith_0 : decode b_Mo_beginsWith 0 = .ok (.iload_n 1, 1) := by decide +kernel
theorem d_Mo_beginsWith_1 : decode b_Mo_beginsWith 1 = .ok (.aload_n 0, 1) := by decide +kernel
theorem d_Mo_beginsWith_2 : decode b_Mo_beginsWith 2 = .ok (.getfield 119, 3) := by decide +kernel
theorem d_Mo_beginsWith_5 : decode b_Mo_beginsWith 5 = .ok (.iadd, 1) := by decide +kernel
theorem d_Mo_beginsWith_6 : decode b_Mo_beginsWith 6 = .ok (.aload_n 0, 1) := by decide +kernel
theorem d_Mo_beginsWith_7 : decode b_Mo_beginsWith 7 = .ok (.getfield 128, 3) := by decide +kernel
theorem d_Mo_beginsWith_10 : decode b_Mo_beginsWith 10 = .ok (.if_icmp .gt 7, 3) := by decide +kernel
theorem d_Mo_beginsWith_13 : decode b_Mo_beginsWith 13 = .ok (.iconst 1, 1) := by decide +kernel
theorem d_Mo_beginsWith_14 : decode b_Mo_beginsWith 14 = .ok (.goto 4, 3) := by decide +kernel
theorem d_Mo_beginsWith_17 : decode b_Mo_beginsWith 17 = .ok (.iconst 0, 1) := by decide +kernel
theorem d_Mo_beginsWith_18 : decode b_Mo_beginsWith 18 = .ok (.istore_n 2, 1) := by decide +kernel
theorem d_Mo_beginsWith_19 : decode b_Mo_beginsWith 19 = .ok (.iconst 0, 1) := by decide +kernel
theorem d_Mo_beginsWith_20 : decode b_Mo_beginsWith 20 = .ok (.istore_n 3, 1) := by decide +kernel
theorem d_Mo_beginsWith_21 : decode b_Mo_beginsWith 21 = .ok (.iload_n 3, 1) := by decide +kernel
theorem d_Mo_beginsWith_22 : decode b_Mo_beginsWith 22 = .ok (.aload_n 0, 1) := by decide +kernel
theorem d_Mo_beginsWith_23 : decode b_Mo_beginsWith 23 = .ok (.getfield 119, 3) := by decide +kernel
theorem d_Mo_beginsWith_26 : decode b_Mo_beginsWith 26 = .ok (.if_icmp .ge 36, 3) := by decide +kernel
theorem d_Mo_beginsWith_29 : decode b_Mo_beginsWith 29 = .ok (.iload_n 2, 1) := by decide +kernel
theorem d_Mo_beginsWith_30 : decode b_Mo_beginsWith 30 = .ok (.ifCond .eq 32, 3) := by decide +kernel
theorem d_Mo_beginsWith_33 : decode b_Mo_beginsWith 33 = .ok (.aload_n 0, 1) := by decide +kernel
theorem d_Mo_beginsWith_34 : decode b_Mo_beginsWith 34 = .ok (.getfield 26, 3) := by decide +kernel
theorem d_Mo_beginsWith_37 : decode b_Mo_beginsWith 37 = .ok (.iload_n 1, 1) := by decide +kernel
theorem d_Mo_beginsWith_38 : decode b_Mo_beginsWith 38 = .ok (.iload_n 3, 1) := by decide +kernel
theorem d_Mo_beginsWith_39 : decode b_Mo_beginsWith 39 = .ok (.iadd, 1) := by decide +kernel
theorem d_Mo_beginsWith_40 : decode b_Mo_beginsWith 40 = .ok (.iaload, 1) := by decide +kernel
theorem d_Mo_beginsWith_41 : decode b_Mo_beginsWith 41 = .ok (.aload_n 0, 1) := by decide +kernel
theorem d_Mo_beginsWith_42 : decode b_Mo_beginsWith 42 = .ok (.getfield 32, 3) := by decide +kernel
theorem d_Mo_beginsWith_45 : decode b_Mo_beginsWith 45 = .ok (.iload_n 3, 1) := by decide +kernel
theorem d_Mo_beginsWith_46 : decode b_Mo_beginsWith 46 = .ok (.iaload, 1) := by decide +kernel
theorem d_Mo_beginsWith_47 : decode b_Mo_beginsWith 47 = .ok (.if_icmp .ne 7, 3) := by decide +kernel
theorem d_Mo_beginsWith_50 : decode b_Mo_beginsWith 50 = .ok (.iconst 1, 1) := by decide +kernel
theorem d_Mo_beginsWith_51 : decode b_Mo_beginsWith 51 = .ok (.goto 4, 3) := by decide +kernel
theorem d_Mo_beginsWith_54 : decode b_Mo_beginsWith 54 = .ok (.iconst 0, 1) := by decide +kernel
theorem d_Mo_beginsWith_55 : decode b_Mo_beginsWith 55 = .ok (.istore_n 2, 1) := by decide +kernel
theorem d_Mo_beginsWith_56 : decode b_Mo_beginsWith 56 = .ok (.iinc 3 1, 3) := by decide +kernel
theorem d_Mo_beginsWith_59 : decode b_Mo_beginsWith 59 = .ok (.goto (-38), 3) := by decide +kernel
theorem d_Mo_beginsWith_62 : decode b_Mo_beginsWith 62 = .ok (.iload_n 2, 1) := by decide +kernel
theorem d_Mo_beginsWith_63 : decode b_Mo_beginsWith 63 = .ok (.ireturn, 1) := by decide +kernel
theorem d_Mo_find_0 : decode b_Mo_find 0 = .ok (.aload_n 0, 1) := by decide +kernel
theorem d_Mo_find_1 : decode b_Mo_find 1 = .ok (.getfield 86, 3) := by decide +kernel
theorem d_Mo_find_4 : decode b_Mo_find 4 = .ok (.ifCond .le 19, 3) := by decide +kernel
theorem d_Mo_find_7 : decode b_Mo_find 7 = .ok (.aload_n 0, 1) := by decide +kernel
theorem d_Mo_find_8 : decode b_Mo_find 8 = .ok (.iconst 0, 1) := by decide +kernel
theorem d_Mo_find_9 : decode b_Mo_find 9 = .ok (.invokevirtual 104, 3) := by decide +kernel
theorem d_Mo_find_12 : decode b_Mo_find 12 = .ok (.aload_n 0, 1) := by decide +kernel
theorem d_Mo_find_13 : decode b_Mo_find 13 = .ok (.getfield 86, 3) := by decide +kernel
theorem d_Mo_find_16 : decode b_Mo_find 16 = .ok (.if_icmp .ne 7, 3) := by decide +kernel
theorem d_Mo_find_19 : decode b_Mo_find 19 = .ok (.iconst 1, 1) := by decide +kernel
theorem d_Mo_find_20 : decode b_Mo_find 20 = .ok (.goto 4, 3) := by decide +kernel
theorem d_Mo_find_23 : decode b_Mo_find 23 = .ok (.iconst 0, 1) := by decide +kernel
theorem d_Mo_find_24 : decode b_Mo_find 24 = .ok (.istore_n 1, 1) := by decide +kernel
theorem d_Mo_find_25 : decode b_Mo_find 25 = .ok (.iconst 0, 1) := by decide +kernel
theorem d_Mo_find_26 : decode b_Mo_find 26 = .ok (.istore_n 2, 1) := by decide +kernel
theorem d_Mo_find_27 : decode b_Mo_find 27 = .ok (.iload_n 2, 1) := by decide +kernel
theorem d_Mo_find_28 : decode b_Mo_find 28 = .ok (.aload_n 0, 1) := by decide +kernel
theorem d_Mo_find_29 : decode b_Mo_find 29 = .ok (.getfield 86, 3) := by decide +kernel
theorem d_Mo_find_32 : decode b_Mo_find 32 = .ok (.if_icmp .ge 30, 3) := by decide +kernel
theorem d_Mo_find_35 : decode b_Mo_find 35 = .ok (.iload_n 1, 1) := by decide +kernel
theorem d_Mo_find_36 : decode b_Mo_find 36 = .ok (.ifCond .eq 18, 3) := by decide +kernel
theorem d_Mo_find_39 : decode b_Mo_find 39 = .ok (.aload_n 0, 1) := by decide +kernel
theorem d_Mo_find_40 : decode b_Mo_find 40 = .ok (.getfield 7, 3) := by decide +kernel
theorem d_Mo_find_43 : decode b_Mo_find 43 = .ok (.iload_n 2, 1) := by decide +kernel
theorem d_Mo_find_44 : decode b_Mo_find 44 = .ok (.caload, 1) := by decide +kernel
theorem d_Mo_find_45 : decode b_Mo_find 45 = .ok (.bipush 78, 2) := by decide +kernel
theorem d_Mo_find_47 : decode b_Mo_find 47 = .ok (.if_icmp .eq 7, 3) := by decide +kernel
theorem d_Mo_find_50 : decode b_Mo_find 50 = .ok (.iconst 1, 1) := by decide +kernel
theorem d_Mo_find_51 : decode b_Mo_find 51 = .ok (.goto 4, 3) := by decide +kernel
theorem d_Mo_find_54 : decode b_Mo_find 54 = .ok (.iconst 0, 1) := by decide +kernel
theorem d_Mo_find_55 : decode b_Mo_find 55 = .ok (.istore_n 1, 1) := by decide +kernel
theorem d_Mo_find_56 : decode b_Mo_find 56 = .ok (.iinc 2 1, 3) := by decide +kernel
theorem d_Mo_find_59 : decode b_Mo_find 59 = .ok (.goto (-32), 3) := by decide +kernel
theorem d_Mo_find_62 : decode b_Mo_find 62 = .ok (.aload_n 0, 1) := by decide +kernel
theorem d_Mo_find_63 : decode b_Mo_find 63 = .ok (.iload_n 1, 1) := by decide +kernel
theorem d_Mo_find_64 : decode b_Mo_find 64 = .ok (.ifCond .ne 7, 3) := by decide +kernel
theorem d_Mo_find_67 : decode b_Mo_find 67 = .ok (.iconst 1, 1) := by decide +kernel
theorem d_Mo_find_68 : decode b_Mo_find 68 = .ok (.goto 15, 3) := by decide +kernel
theorem d_Mo_find_71 : decode b_Mo_find 71 = .ok (.aload_n 0, 1) := by decide +kernel
theorem d_Mo_find_72 : decode b_Mo_find 72 = .ok (.getfield 112, 3) := by decide +kernel
theorem d_Mo_find_75 : decode b_Mo_find 75 = .ok (.ifCond .ne 7, 3) := by decide +kernel
theorem d_Mo_find_78 : decode b_Mo_find 78 = .ok (.iconst 2, 1) := by decide +kernel
theorem d_Mo_find_79 : decode b_Mo_find 79 = .ok (.goto 4, 3) := by decide +kernel
theorem d_Mo_find_82 : decode b_Mo_find 82 = .ok (.iconst 0, 1) := by decide +kernel
theorem d_Mo_find_83 : decode b_Mo_find 83 = .ok (.putfield 80, 3) := by decide +kernel
theorem d_Mo_find_86 : decode b_Mo_find 86 = .ok (.iconst 0, 1) := by decide +kernel
theorem d_Mo_find_87 : decode b_Mo_find 87 = .ok (.istore_n 2, 1) := by decide +kernel
theorem d_Mo_find_88 : decode b_Mo_find 88 = .ok (.aload_n 0, 1) := by decide +kernel
theorem d_Mo_find_89 : decode b_Mo_find 89 = .ok (.getfield 80, 3) := by decide +kernel
theorem d_Mo_find_92 : decode b_Mo_find 92 = .ok (.ifCond .ne 74, 3) := by decide +kernel
theorem d_Mo_find_95 : decode b_Mo_find 95 = .ok (.aload_n 0, 1) := by decide +kernel
theorem d_Mo_find_96 : decode b_Mo_find 96 = .ok (.aload_n 0, 1) := by decide +kernel
theorem d_Mo_find_97 : decode b_Mo_find 97 = .ok (.getfield 86, 3) := by decide +kernel
theorem d_Mo_find_100 : decode b_Mo_find 100 = .ok (.putfield 119, 3) := by decide +kernel
theorem d_Mo_find_103 : decode b_Mo_find 103 = .ok (.iconst 0, 1) := by decide +kernel
theorem d_Mo_find_104 : decode b_Mo_find 104 = .ok (.istore_n 3, 1) := by decide +kernel
theorem d_Mo_find_105 : decode b_Mo_find 105 = .ok (.iload_n 3, 1) := by decide +kernel
theorem d_Mo_find_106 : decode b_Mo_find 106 = .ok (.aload_n 0, 1) := by decide +kernel
theorem d_Mo_find_107 : decode b_Mo_find 107 = .ok (.getfield 86, 3) := by decide +kernel
theorem d_Mo_find_110 : decode b_Mo_find 110 = .ok (.if_icmp .ge 24, 3) := by decide +kernel
theorem d_Mo_find_113 : decode b_Mo_find 113 = .ok (.aload_n 0, 1) := by decide +kernel
theorem d_Mo_find_114 : decode b_Mo_find 114 = .ok (.getfield 32, 3) := by decide +kernel
theorem d_Mo_find_117 : decode b_Mo_find 117 = .ok (.iload_n 3, 1) := by decide +kernel
theorem d_Mo_find_118 : decode b_Mo_find 118 = .ok (.aload_n 0, 1) := by decide +kernel
theorem d_Mo_find_119 : decode b_Mo_find 119 = .ok (.getfield 7, 3) := by decide +kernel
theorem d_Mo_find_122 : decode b_Mo_find 122 = .ok (.iload_n 3, 1) := by decide +kernel
theorem d_Mo_find_123 : decode b_Mo_find 123 = .ok (.caload, 1) := by decide +kernel
theorem d_Mo_find_124 : decode b_Mo_find 124 = .ok (.invokestatic 93, 3) := by decide +kernel
theorem d_Mo_find_127 : decode b_Mo_find 127 = .ok (.iastore, 1) := by decide +kernel
theorem d_Mo_find_128 : decode b_Mo_find 128 = .ok (.iinc 3 1, 3) := by decide +kernel
theorem d_Mo_find_131 : decode b_Mo_find 131 = .ok (.goto (-26), 3) := by decide +kernel
theorem d_Mo_find_134 : decode b_Mo_find 134 = .ok (.iconst 0, 1) := by decide +kernel
theorem d_Mo_find_135 : decode b_Mo_find 135 = .ok (.istore_n 3, 1) := by decide +kernel
theorem d_Mo_find_136 : decode b_Mo_find 136 = .ok (.iload_n 3, 1) := by decide +kernel
theorem d_Mo_find_137 : decode b_Mo_find 137 = .ok (.aload_n 0, 1) := by decide +kernel
theorem d_Mo_find_138 : decode b_Mo_find 138 = .ok (.getfield 128, 3) := by decide +kernel
theorem d_Mo_find_141 : decode b_Mo_find 141 = .ok (.if_icmp .ge 25, 3) := by decide +kernel
theorem d_Mo_find_144 : decode b_Mo_find 144 = .ok (.aload_n 0, 1) := by decide +kernel
theorem d_Mo_find_145 : decode b_Mo_find 145 = .ok (.iload_n 3, 1) := by decide +kernel
theorem d_Mo_find_146 : decode b_Mo_find 146 = .ok (.invokevirtual 150, 3) := by decide +kernel
theorem d_Mo_find_149 : decode b_Mo_find 149 = .ok (.ifCond .eq 9, 3) := by decide +kernel
theorem d_Mo_find_152 : decode b_Mo_find 152 = .ok (.iload_n 2, 1) := by decide +kernel
theorem d_Mo_find_153 : decode b_Mo_find 153 = .ok (.iconst 1, 1) := by decide +kernel
theorem d_Mo_find_154 : decode b_Mo_find 154 = .ok (.iadd, 1) := by decide +kernel
theorem d_Mo_find_155 : decode b_Mo_find 155 = .ok (.goto 4, 3) := by decide +kernel
theorem d_Mo_find_158 : decode b_Mo_find 158 = .ok (.iload_n 2, 1) := by decide +kernel
theorem d_Mo_find_159 : decode b_Mo_find 159 = .ok (.istore_n 2, 1) := by decide +kernel
theorem d_Mo_find_160 : decode b_Mo_find 160 = .ok (.iinc 3 1, 3) := by decide +kernel
theorem d_Mo_find_163 : decode b_Mo_find 163 = .ok (.goto (-27), 3) := by decide +kernel
theorem d_Mo_find_166 : decode b_Mo_find 166 = .ok (.aload_n 0, 1) := by decide +kernel
theorem d_Mo_find_167 : decode b_Mo_find 167 = .ok (.iconst 0, 1) := by decide +kernel
theorem d_Mo_find_168 : decode b_Mo_find 168 = .ok (.putfield 86, 3) := by decide +kernel
theorem d_Mo_find_171 : decode b_Mo_find 171 = .ok (.iload_n 2, 1) := by decide +kernel
theorem d_Mo_find_172 : decode b_Mo_find 172 = .ok (.ireturn, 1) := by decide +kernel
theorem d_Mo_first_0 : decode b_Mo_first 0 = .ok (.aload_n 0, 1) := by decide +kernel
theorem d_Mo_first_1 : decode b_Mo_first 1 = .ok (.iconst 0, 1) := by decide +kernel
theorem d_Mo_first_2 : decode b_Mo_first 2 = .ok (.putfield 80, 3) := by decide +kernel
theorem d_Mo_first_5 : decode b_Mo_first 5 = .ok (.iconst 0, 1) := by decide +kernel
theorem d_Mo_first_6 : decode b_Mo_first 6 = .ok (.istore_n 1, 1) := by decide +kernel
theorem d_Mo_first_7 : decode b_Mo_first 7 = .ok (.iload_n 1, 1) := by decide +kernel
theorem d_Mo_first_8 : decode b_Mo_first 8 = .ok (.aload_n 0, 1) := by decide +kernel
theorem d_Mo_first_9 : decode b_Mo_first 9 = .ok (.getfield 128, 3) := by decide +kernel
theorem d_Mo_first_12 : decode b_Mo_first 12 = .ok (.if_icmp .ge 38, 3) := by decide +kernel
theorem d_Mo_first_15 : decode b_Mo_first 15 = .ok (.aload_n 0, 1) := by decide +kernel
theorem d_Mo_first_16 : decode b_Mo_first 16 = .ok (.getfield 112, 3) := by decide +kernel
theorem d_Mo_first_19 : decode b_Mo_first 19 = .ok (.ifCond .eq 31, 3) := by decide +kernel
theorem d_Mo_first_22 : decode b_Mo_first 22 = .ok (.aload_n 0, 1) := by decide +kernel
theorem d_Mo_first_23 : decode b_Mo_first 23 = .ok (.getfield 119, 3) := by decide +kernel
theorem d_Mo_first_26 : decode b_Mo_first 26 = .ok (.ifCond .le 24, 3) := by decide +kernel
theorem d_Mo_first_29 : decode b_Mo_first 29 = .ok (.aload_n 0, 1) := by decide +kernel
theorem d_Mo_first_30 : decode b_Mo_first 30 = .ok (.aload_n 0, 1) := by decide +kernel
theorem d_Mo_first_31 : decode b_Mo_first 31 = .ok (.getfield 29, 3) := by decide +kernel
theorem d_Mo_first_34 : decode b_Mo_first 34 = .ok (.iload_n 1, 1) := by decide +kernel
theorem d_Mo_first_35 : decode b_Mo_first 35 = .ok (.iaload, 1) := by decide +kernel
theorem d_Mo_first_36 : decode b_Mo_first 36 = .ok (.invokevirtual 150, 3) := by decide +kernel
theorem d_Mo_first_39 : decode b_Mo_first 39 = .ok (.ifCond .eq 5, 3) := by decide +kernel
theorem d_Mo_first_42 : decode b_Mo_first 42 = .ok (.iload_n 1, 1) := by decide +kernel
theorem d_Mo_first_43 : decode b_Mo_first 43 = .ok (.ireturn, 1) := by decide +kernel
theorem d_Mo_first_44 : decode b_Mo_first 44 = .ok (.iinc 1 1, 3) := by decide +kernel
theorem d_Mo_first_47 : decode b_Mo_first 47 = .ok (.goto (-40), 3) := by decide +kernel
theorem d_Mo_first_50 : decode b_Mo_first 50 = .ok (.iconst (-1), 1) := by decide +kernel
theorem d_Mo_first_51 : decode b_Mo_first 51 = .ok (.ireturn, 1) := by decide +kernel
set_option maxHeartbeats 4000000 in
set_option maxRecDepth 100000 in
theorem c_Mo_piece (l : Launch) (D : va_G) (cA : Nat → ClassId) (K : Nat → Nat) (mo ta aN aS aC aB aR aO aW aD a1 a2 a3 a4 aL aY aM bN bS bC bB bR bO aU : Nat) (rd mp gd : Bool) (zt ir : Int32) (np tot rt pl sg rn rs nh td ms ip it il : Nat) (L J : List Int32) (tf : Nat → Int32) (nf : Nat → Int32) (sz : Nat → Int32) (bc : Nat → Int32) (bf : Nat → Int32) (NM BS : Nat → List Int32) (hc : cd_r 72 tf L) (htx : ∀ j, j < L.length → ch_p (L.getD j 0)) (hnc : ∀ z, z < 40 → ch_p (nf z)) (hnp : np ≤ 5) (htot : tot = tt_c (bl_c BS) np) (ht60 : tot ≤ 60) (hq9 : rq_p np NM BS nf sz bc bf) : ck_I l y_Mo_piece (Cond.code y_Mo_piece b_Mo_piece 5 (some .int) :: w_all) 3 D cA K [.ref mo] [(mo, .inr (8, [.int zt, .int (nI L.length), .ref ta, .int (nI np), .ref aN, .ref aS, .ref aC, .int (nI tot), .ref aB, .int (bz_c rd), .int (nI rt), .int (nI pl), .ref aR, .ref aO, .int (nI sg), .ref aW, .int (bz_c mp), .int (nI rn), .int (nI rs), .int (bz_c gd), .ref aD, .int (nI nh), .ref a1, .ref a2, .ref a3, .ref a4, .int (nI td), .ref aL, .int (nI J.length), .ref aY, .int (nI ms), .ref aM, .int (nI ip), .int (nI it), .int ir, .int (nI il), .ref bN, .ref bS, .ref bC, .ref bB, .ref bR, .ref bO, .ref aU])), (ta, .inl (cA 1, 72, .inl tf)), (aN, .inl (cA 1, 40, .inl nf)), (aS, .inl (cA 0, 5, .inl sz)), (aC, .inl (cA 0, 5, .inl bc)), (aB, .inl (cA 0, 64, .inl bf))] (fun (r : Int32) (u : (Int32) × (Nat) × (Nat) × (Nat → Int32) × (Nat → Int32) × (Nat → Int32) × (Nat → Int32) × (Nat → List Int32) × (Nat → List Int32)) => cd_r 72 tf [] ∧ (∀ z, z < 40 → ch_p (u.2.2.2.1 z)) ∧ rq_p u.2.1 u.2.2.2.2.2.2.2.1 u.2.2.2.2.2.2.2.2 u.2.2.2.1 u.2.2.2.2.1 u.2.2.2.2.2.1 u.2.2.2.2.2.2.1 ∧ u.2.2.1 = tt_c (bl_c u.2.2.2.2.2.2.2.2) u.2.1 ∧ u.2.2.1 ≤ 60 ∧ ((u.1 = 1 ∧ (∀ k, nx_p L 58 0 k → ¬ pc_ok L k ∨ ∃ j, j < np ∧ NM j = sl_p L 0 k) ∧ u.2.1 = np ∧ u.2.2.2.2.2.2.2.1 = NM ∧ u.2.2.2.2.2.2.2.2 = BS) ∨ (∃ k, nx_p L 58 0 k ∧ pc_ok L k ∧ (∀ j, j < np → ¬ NM j = sl_p L 0 k) ∧ ((u.1 = 2 ∧ (rd = true ∨ ¬ (np < 5 ∧ (pb_c L k).length ≤ 60 - tot)) ∧ u.2.1 = np ∧ u.2.2.2.2.2.2.2.1 = NM ∧ u.2.2.2.2.2.2.2.2 = BS) ∨ (u.1 = 0 ∧ rd = false ∧ (np < 5 ∧ (pb_c L k).length ≤ 60 - tot) ∧ r = nI np ∧ u.2.1 = np + 1 ∧ u.2.2.2.2.2.2.2.1 = va_up NM np (sl_p L 0 k) ∧ u.2.2.2.2.2.2.2.2 = va_up BS np (pb_c L k)))))) (fun u => [(mo, .inr (8, [.int u.1, .int (nI (([] : List Int32).length)), .ref ta, .int (nI u.2.1), .ref aN, .ref aS, .ref aC, .int (nI u.2.2.1), .ref aB, .int (bz_c rd), .int (nI rt), .int (nI pl), .ref aR, .ref aO, .int (nI sg), .ref aW, .int (bz_c mp), .int (nI rn), .int (nI rs), .int (bz_c gd), .ref aD, .int (nI nh), .ref a1, .ref a2, .ref a3, .ref a4, .int (nI td), .ref aL, .int (nI J.length), .ref aY, .int (nI ms), .ref aM, .int (nI ip), .int (nI it), .int ir, .int (nI il), .ref bN, .ref bS, .ref bC, .ref bB, .ref bR, .ref bO, .ref aU])), (ta, .inl (cA 1, 72, .inl tf)), (aN, .inl (cA 1, 40, .inl u.2.2.2.1)), (aS, .inl (cA 0, 5, .inl u.2.2.2.2.1)), (aC, .inl (cA 0, 5, .inl u.2.2.2.2.2.1)), (aB, .inl (cA 0, 64, .inl u.2.2.2.2.2.2.1))]) := by
  refine ck_mkI (by decide) (fun _ _ _ => rfl) (Nat.le_of_ble_eq_true rfl) ?_
  intro pG eG sG mG argsG belowG methG cG Q A H locs ls hx hb hml hown hts hK hE hA hP hD hS hl hret
  have hl : lv_has ls 5 [(0, .ref mo)] := hl
  have hl1 := cd_len hc
  have hl0 := hc.1
  refine lv_aload_n hx hb d_Mo_piece_0 rfl (lv_at hl 0 rfl) ?_
  refine ck_cV (C := "ReadMapperModel") (ci := 8) (rest := []) (wr := [(aN, .inl (cA 1, 40, .inl nf)), (aS, .inl (cA 0, 5, .inl sz)), (aC, .inl (cA 0, 5, .inl bc)), (aB, .inl (cA 0, 64, .inl bf))]) (ws2 := fun u => [(mo, .inr (8, [.int zt, .int (nI L.length), .ref ta, .int (nI np), .ref aN, .ref aS, .ref aC, .int (nI tot), .ref aB, .int (bz_c rd), .int (nI rt), .int (nI pl), .ref aR, .ref aO, .int (nI sg), .ref aW, .int (bz_c mp), .int (nI rn), .int (nI rs), .int (bz_c gd), .ref aD, .int (nI nh), .ref a1, .ref a2, .ref a3, .ref a4, .int (nI td), .ref aL, .int (nI J.length), .ref aY, .int (nI ms), .ref aM, .int (nI ip), .int (nI it), .int ir, .int (nI il), .ref bN, .ref bS, .ref bC, .ref bB, .ref bR, .ref bO, .ref aU])), (ta, .inl (cA 1, 72, .inl tf)), (aN, .inl (cA 1, 40, .inl nf)), (aS, .inl (cA 0, 5, .inl sz)), (aC, .inl (cA 0, 5, .inl bc)), (aB, .inl (cA 0, 64, .inl bf))]) (c_Mo_nameLength l D cA K mo ta aN aS aC aB aR aO aW aD a1 a2 a3 a4 aL aY aM bN bS bC bB bR bO aU rd mp gd zt ir np tot rt pl sg rn rs nh td ms ip it il L J tf (by first | assumption | omega)) hx hb hml hown hts hK hE hA hP hD hS k_Mo_nameLength m_989 (by decide) 0 rfl rfl rfl hl.1 rfl (Nat.le_of_ble_eq_true rfl) d_Mo_piece_1  [0, 1] [2, 3, 4, 5] [4, 5, 0, 1, 2, 3] rfl rfl (by decide) (fun _ => rfl) (fun r1 u1 H locs hq1 hP hD hS => ?_)
  try dsimp only at hq1
  have hP : va_P D vwCl [(mo, .inr (8, [.int zt, .int (nI L.length), .ref ta, .int (nI np), .ref aN, .ref aS, .ref aC, .int (nI tot), .ref aB, .int (bz_c rd), .int (nI rt), .int (nI pl), .ref aR, .ref aO, .int (nI sg), .ref aW, .int (bz_c mp), .int (nI rn), .int (nI rs), .int (bz_c gd), .ref aD, .int (nI nh), .ref a1, .ref a2, .ref a3, .ref a4, .int (nI td), .ref aL, .int (nI J.length), .ref aY, .int (nI ms), .ref aM, .int (nI ip), .int (nI it), .int ir, .int (nI il), .ref bN, .ref bS, .ref bC, .ref bB, .ref bR, .ref bO, .ref aU])), (ta, .inl (cA 1, 72, .inl tf)), (aN, .inl (cA 1, 40, .inl nf)), (aS, .inl (cA 0, 5, .inl sz)), (aC, .inl (cA 0, 5, .inl bc)), (aB, .inl (cA 0, 64, .inl bf))] H := hP
  have hD : va_D A [(mo, .inr (8, [.int zt, .int (nI L.length), .ref ta, .int (nI np), .ref aN, .ref aS, .ref aC, .int (nI tot), .ref aB, .int (bz_c rd), .int (nI rt), .int (nI pl), .ref aR, .ref aO, .int (nI sg), .ref aW, .int (bz_c mp), .int (nI rn), .int (nI rs), .int (bz_c gd), .ref aD, .int (nI nh), .ref a1, .ref a2, .ref a3, .ref a4, .int (nI td), .ref aL, .int (nI J.length), .ref aY, .int (nI ms), .ref aM, .int (nI ip), .int (nI it), .int ir, .int (nI il), .ref bN, .ref bS, .ref bC, .ref bB, .ref bR, .ref bO, .ref aU])), (ta, .inl (cA 1, 72, .inl tf)), (aN, .inl (cA 1, 40, .inl nf)), (aS, .inl (cA 0, 5, .inl sz)), (aC, .inl (cA 0, 5, .inl bc)), (aB, .inl (cA 0, 64, .inl bf))] := hD
  obtain ⟨k1, rfl, hq1⟩ := hq1
  have hk1 := nl_le hq1
  refine lv_istore_n (lv' := [(1, .int (nI k1)), (0, .ref mo)]) hx hb d_Mo_piece_4 rfl hl (by decide) rfl (fun ls hl => ?_)
  refine lv_aload_n hx hb d_Mo_piece_5 rfl (lv_at hl 1 rfl) ?_
  refine va_get (C := RX8) (T := TX8) (N := 43) hx hb hts inX8 hown hK hP 0 rfl rfl 1 (by decide) (hts _ m_846) (fun _ h9 => h9) rfl d_Mo_piece_6 ?_
  refine lv_iload_n hx hb d_Mo_piece_9 rfl (lv_at hl 0 rfl) ?_
  refine wn_isub (by omega) hx hb d_Mo_piece_10 ?_
  refine lv_iconst (v := nI 1) hx hb d_Mo_piece_11 (by decide) ?_
  rcases Nat.eq_zero_or_pos (L.length - k1) with hz0 | hz0
  ·
    refine lv_isub hx hb d_Mo_piece_12 ?_
    refine wn_eq (y := -1) (by rw [hz0]; decide) ?_
    refine lv_istore_n (lv' := [(2, .int (-1)), (1, .int (nI k1)), (0, .ref mo)]) hx hb d_Mo_piece_13 rfl hl (by decide) rfl (fun ls hl => ?_)
    refine lv_iload_n hx hb d_Mo_piece_14 rfl (lv_at hl 1 rfl) ?_
    refine wn_if_le (by omega) (tgt := 48) hx hb d_Mo_piece_15 (by decide) ?_ ?_
    · intro h15
      refine lv_iconst (v := nI 0) hx hb d_Mo_piece_48 (by decide) ?_
      refine lv_istore_n (lv' := [(3, .int (nI 0)), (2, .int (-1)), (1, .int (nI k1)), (0, .ref mo)]) hx hb d_Mo_piece_49 rfl hl (by decide) rfl (fun ls hl => ?_)
      refine lv_aload_n hx hb d_Mo_piece_50 rfl (lv_at hl 3 rfl) ?_
      refine lv_iload_n hx hb d_Mo_piece_51 rfl (lv_at hl 0 rfl) ?_
      refine lv_if_ne (tgt := 59) hx hb d_Mo_piece_52 (by decide) (fun h9 => absurd h9 (by decide)) (fun _ => ?_)
      refine lv_iconst (v := nI 1) hx hb d_Mo_piece_55 (by decide) ?_
      refine lv_goto (tgt := 90) hx hb d_Mo_piece_56 (by decide) ?_
      refine va_put (D := D) (ci := 8) (v := .int (nI 1)) (ty := .int) (C := RX8) (T := TX8) (N := 43) hx hb hts inX8 tyX8 tyX8_ok nmX8 hown hK hP hD hS 0 rfl rfl 0 (by decide) (hts _ m_845) (fun _ h9 => h9) rfl (by decide +kernel) rfl rfl (Nat.le_of_ble_eq_true rfl) d_Mo_piece_90 (fun H locs hP hD hS => ?_)
      have hP : va_P D vwCl [(mo, .inr (8, [.int (nI 1), .int (nI L.length), .ref ta, .int (nI np), .ref aN, .ref aS, .ref aC, .int (nI tot), .ref aB, .int (bz_c rd), .int (nI rt), .int (nI pl), .ref aR, .ref aO, .int (nI sg), .ref aW, .int (bz_c mp), .int (nI rn), .int (nI rs), .int (bz_c gd), .ref aD, .int (nI nh), .ref a1, .ref a2, .ref a3, .ref a4, .int (nI td), .ref aL, .int (nI J.length), .ref aY, .int (nI ms), .ref aM, .int (nI ip), .int (nI it), .int ir, .int (nI il), .ref bN, .ref bS, .ref bC, .ref bB, .ref bR, .ref bO, .ref aU])), (ta, .inl (cA 1, 72, .inl tf)), (aN, .inl (cA 1, 40, .inl nf)), (aS, .inl (cA 0, 5, .inl sz)), (aC, .inl (cA 0, 5, .inl bc)), (aB, .inl (cA 0, 64, .inl bf))] H := hP
      have hD : va_D A [(mo, .inr (8, [.int (nI 1), .int (nI L.length), .ref ta, .int (nI np), .ref aN, .ref aS, .ref aC, .int (nI tot), .ref aB, .int (bz_c rd), .int (nI rt), .int (nI pl), .ref aR, .ref aO, .int (nI sg), .ref aW, .int (bz_c mp), .int (nI rn), .int (nI rs), .int (bz_c gd), .ref aD, .int (nI nh), .ref a1, .ref a2, .ref a3, .ref a4, .int (nI td), .ref aL, .int (nI J.length), .ref aY, .int (nI ms), .ref aM, .int (nI ip), .int (nI it), .int ir, .int (nI il), .ref bN, .ref bS, .ref bC, .ref bB, .ref bR, .ref bO, .ref aU])), (ta, .inl (cA 1, 72, .inl tf)), (aN, .inl (cA 1, 40, .inl nf)), (aS, .inl (cA 0, 5, .inl sz)), (aC, .inl (cA 0, 5, .inl bc)), (aB, .inl (cA 0, 64, .inl bf))] := hD
      refine lv_aload_n hx hb d_Mo_piece_93 rfl (lv_at hl 3 rfl) ?_
      refine va_get (C := RX8) (T := TX8) (N := 43) hx hb hts inX8 hown hK hP 0 rfl rfl 0 (by decide) (hts _ m_845) (fun _ h9 => h9) rfl d_Mo_piece_94 ?_
      refine lv_if_ne (tgt := 218) hx hb d_Mo_piece_97 (by decide) (fun _ => ?_) (fun h9 => absurd h9 (by decide))
      refine lv_aload_n hx hb d_Mo_piece_218 rfl (lv_at hl 3 rfl) ?_
      refine lv_iconst (v := nI (([] : List Int32).length)) hx hb d_Mo_piece_219 rfl ?_
      refine va_put (D := D) (ci := 8) (v := .int (nI (([] : List Int32).length))) (ty := .int) (C := RX8) (T := TX8) (N := 43) hx hb hts inX8 tyX8 tyX8_ok nmX8 hown hK hP hD hS 0 rfl rfl 1 (by decide) (hts _ m_846) (fun _ h9 => h9) rfl (by decide +kernel) rfl rfl (Nat.le_of_ble_eq_true rfl) d_Mo_piece_220 (fun H locs hP hD hS => ?_)
      have hP : va_P D vwCl [(mo, .inr (8, [.int (nI 1), .int (nI (([] : List Int32).length)), .ref ta, .int (nI np), .ref aN, .ref aS, .ref aC, .int (nI tot), .ref aB, .int (bz_c rd), .int (nI rt), .int (nI pl), .ref aR, .ref aO, .int (nI sg), .ref aW, .int (bz_c mp), .int (nI rn), .int (nI rs), .int (bz_c gd), .ref aD, .int (nI nh), .ref a1, .ref a2, .ref a3, .ref a4, .int (nI td), .ref aL, .int (nI J.length), .ref aY, .int (nI ms), .ref aM, .int (nI ip), .int (nI it), .int ir, .int (nI il), .ref bN, .ref bS, .ref bC, .ref bB, .ref bR, .ref bO, .ref aU])), (ta, .inl (cA 1, 72, .inl tf)), (aN, .inl (cA 1, 40, .inl nf)), (aS, .inl (cA 0, 5, .inl sz)), (aC, .inl (cA 0, 5, .inl bc)), (aB, .inl (cA 0, 64, .inl bf))] H := hP
      have hD : va_D A [(mo, .inr (8, [.int (nI 1), .int (nI (([] : List Int32).length)), .ref ta, .int (nI np), .ref aN, .ref aS, .ref aC, .int (nI tot), .ref aB, .int (bz_c rd), .int (nI rt), .int (nI pl), .ref aR, .ref aO, .int (nI sg), .ref aW, .int (bz_c mp), .int (nI rn), .int (nI rs), .int (bz_c gd), .ref aD, .int (nI nh), .ref a1, .ref a2, .ref a3, .ref a4, .int (nI td), .ref aL, .int (nI J.length), .ref aY, .int (nI ms), .ref aM, .int (nI ip), .int (nI it), .int ir, .int (nI il), .ref bN, .ref bS, .ref bC, .ref bB, .ref bR, .ref bO, .ref aU])), (ta, .inl (cA 1, 72, .inl tf)), (aN, .inl (cA 1, 40, .inl nf)), (aS, .inl (cA 0, 5, .inl sz)), (aC, .inl (cA 0, 5, .inl bc)), (aB, .inl (cA 0, 64, .inl bf))] := hD
      refine lv_aload_n hx hb d_Mo_piece_223 rfl (lv_at hl 3 rfl) ?_
      refine va_get (C := RX8) (T := TX8) (N := 43) hx hb hts inX8 hown hK hP 0 rfl rfl 0 (by decide) (hts _ m_845) (fun _ h9 => h9) rfl d_Mo_piece_224 ?_
      refine lv_if_ne (tgt := 239) hx hb d_Mo_piece_227 (by decide) (fun _ => ?_) (fun h9 => absurd h9 (by decide))
      refine lv_iconst (v := nI 0) hx hb d_Mo_piece_239 (by decide) ?_
      exact hret (nI 0) (nI 1, np, tot, nf, sz, bc, bf, NM, BS) _ _ _ 240 d_Mo_piece_240 (by first | exact ⟨cd_clear hc, hnc, hq9, htot, ht60, Or.inl ⟨rfl, pg_f hq1 (fun y z => hq38), rfl, rfl, rfl⟩⟩ | exact ⟨cd_clear hc, hnc, hq9, htot, ht60, Or.inl ⟨rfl, pg_f hq1 (fun y z => absurd y.1 (by omega)), rfl, rfl, rfl⟩⟩ | exact ⟨cd_clear hc, hnc, hq9, htot, ht60, Or.inl ⟨rfl, pg_f hq1 (fun y z => absurd (pc_len z) (by omega)), rfl, rfl, rfl⟩⟩ | exact ⟨cd_clear hc, hnc, hq9, htot, ht60, Or.inl ⟨rfl, pg_f hq1 (fun y z => absurd (nb_all hq26 z) (by omega)), rfl, rfl, rfl⟩⟩ | exact ⟨cd_clear hc, hnc, hq9, htot, ht60, Or.inr ⟨k1, hgo.1, hgo.2, hq38, Or.inl ⟨rfl, Or.inl (bz_1 h63), rfl, rfl, rfl⟩⟩⟩ | exact ⟨cd_clear hc, hnc, hq9, htot, ht60, Or.inr ⟨k1, hgo.1, hgo.2, hq38, Or.inl ⟨rfl, Or.inr (fun y => by omega), rfl, rfl, rfl⟩⟩⟩ | exact ⟨cd_clear hc, hnc, hq9, htot, ht60, Or.inr ⟨k1, hgo.1, hgo.2, hq38, Or.inl ⟨rfl, Or.inr (fun y => by have y2 := y.2; omega), rfl, rfl, rfl⟩⟩⟩) hP hD hS
    · intro h15
      refine lv_iload_n hx hb d_Mo_piece_18 rfl (lv_at hl 0 rfl) ?_
      refine lv_if_le (tgt := 48) hx hb d_Mo_piece_19 (by decide) (fun _ => ?_) (fun h9 => absurd h9 (by decide))
      refine lv_iconst (v := nI 0) hx hb d_Mo_piece_48 (by decide) ?_
      refine lv_istore_n (lv' := [(3, .int (nI 0)), (2, .int (-1)), (1, .int (nI k1)), (0, .ref mo)]) hx hb d_Mo_piece_49 rfl hl (by decide) rfl (fun ls hl => ?_)
      refine lv_aload_n hx hb d_Mo_piece_50 rfl (lv_at hl 3 rfl) ?_
      refine lv_iload_n hx hb d_Mo_piece_51 rfl (lv_at hl 0 rfl) ?_
      refine lv_if_ne (tgt := 59) hx hb d_Mo_piece_52 (by decide) (fun h9 => absurd h9 (by decide)) (fun _ => ?_)
      refine lv_iconst (v := nI 1) hx hb d_Mo_piece_55 (by decide) ?_
      refine lv_goto (tgt := 90) hx hb d_Mo_piece_56 (by decide) ?_
      refine va_put (D := D) (ci := 8) (v := .int (nI 1)) (ty := .int) (C := RX8) (T := TX8) (N := 43) hx hb hts inX8 tyX8 tyX8_ok nmX8 hown hK hP hD hS 0 rfl rfl 0 (by decide) (hts _ m_845) (fun _ h9 => h9) rfl (by decide +kernel) rfl rfl (Nat.le_of_ble_eq_true rfl) d_Mo_piece_90 (fun H locs hP hD hS => ?_)
      have hP : va_P D vwCl [(mo, .inr (8, [.int (nI 1), .int (nI L.length), .ref ta, .int (nI np), .ref aN, .ref aS, .ref aC, .int (nI tot), .ref aB, .int (bz_c rd), .int (nI rt), .int (nI pl), .ref aR, .ref aO, .int (nI sg), .ref aW, .int (bz_c mp), .int (nI rn), .int (nI rs), .int (bz_c gd), .ref aD, .int (nI nh), .ref a1, .ref a2, .ref a3, .ref a4, .int (nI td), .ref aL, .int (nI J.length), .ref aY, .int (nI ms), .ref aM, .int (nI ip), .int (nI it), .int ir, .int (nI il), .ref bN, .ref bS, .ref bC, .ref bB, .ref bR, .ref bO, .ref aU])), (ta, .inl (cA 1, 72, .inl tf)), (aN, .inl (cA 1, 40, .inl nf)), (aS, .inl (cA 0, 5, .inl sz)), (aC, .inl (cA 0, 5, .inl bc)), (aB, .inl (cA 0, 64, .inl bf))] H := hP
      have hD : va_D A [(mo, .inr (8, [.int (nI 1), .int (nI L.length), .ref ta, .int (nI np), .ref aN, .ref aS, .ref aC, .int (nI tot), .ref aB, .int (bz_c rd), .int (nI rt), .int (nI pl), .ref aR, .ref aO, .int (nI sg), .ref aW, .int (bz_c mp), .int (nI rn), .int (nI rs), .int (bz_c gd), .ref aD, .int (nI nh), .ref a1, .ref a2, .ref a3, .ref a4, .int (nI td), .ref aL, .int (nI J.length), .ref aY, .int (nI ms), .ref aM, .int (nI ip), .int (nI it), .int ir, .int (nI il), .ref bN, .ref bS, .ref bC, .ref bB, .ref bR, .ref bO, .ref aU])), (ta, .inl (cA 1, 72, .inl tf)), (aN, .inl (cA 1, 40, .inl nf)), (aS, .inl (cA 0, 5, .inl sz)), (aC, .inl (cA 0, 5, .inl bc)), (aB, .inl (cA 0, 64, .inl bf))] := hD
      refine lv_aload_n hx hb d_Mo_piece_93 rfl (lv_at hl 3 rfl) ?_
      refine va_get (C := RX8) (T := TX8) (N := 43) hx hb hts inX8 hown hK hP 0 rfl rfl 0 (by decide) (hts _ m_845) (fun _ h9 => h9) rfl d_Mo_piece_94 ?_
      refine lv_if_ne (tgt := 218) hx hb d_Mo_piece_97 (by decide) (fun _ => ?_) (fun h9 => absurd h9 (by decide))
      refine lv_aload_n hx hb d_Mo_piece_218 rfl (lv_at hl 3 rfl) ?_
      refine lv_iconst (v := nI (([] : List Int32).length)) hx hb d_Mo_piece_219 rfl ?_
      refine va_put (D := D) (ci := 8) (v := .int (nI (([] : List Int32).length))) (ty := .int) (C := RX8) (T := TX8) (N := 43) hx hb hts inX8 tyX8 tyX8_ok nmX8 hown hK hP hD hS 0 rfl rfl 1 (by decide) (hts _ m_846) (fun _ h9 => h9) rfl (by decide +kernel) rfl rfl (Nat.le_of_ble_eq_true rfl) d_Mo_piece_220 (fun H locs hP hD hS => ?_)
      have hP : va_P D vwCl [(mo, .inr (8, [.int (nI 1), .int (nI (([] : List Int32).length)), .ref ta, .int (nI np), .ref aN, .ref aS, .ref aC, .int (nI tot), .ref aB, .int (bz_c rd), .int (nI rt), .int (nI pl), .ref aR, .ref aO, .int (nI sg), .ref aW, .int (bz_c mp), .int (nI rn), .int (nI rs), .int (bz_c gd), .ref aD, .int (nI nh), .ref a1, .ref a2, .ref a3, .ref a4, .int (nI td), .ref aL, .int (nI J.length), .ref aY, .int (nI ms), .ref aM, .int (nI ip), .int (nI it), .int ir, .int (nI il), .ref bN, .ref bS, .ref bC, .ref bB, .ref bR, .ref bO, .ref aU])), (ta, .inl (cA 1, 72, .inl tf)), (aN, .inl (cA 1, 40, .inl nf)), (aS, .inl (cA 0, 5, .inl sz)), (aC, .inl (cA 0, 5, .inl bc)), (aB, .inl (cA 0, 64, .inl bf))] H := hP
      have hD : va_D A [(mo, .inr (8, [.int (nI 1), .int (nI (([] : List Int32).length)), .ref ta, .int (nI np), .ref aN, .ref aS, .ref aC, .int (nI tot), .ref aB, .int (bz_c rd), .int (nI rt), .int (nI pl), .ref aR, .ref aO, .int (nI sg), .ref aW, .int (bz_c mp), .int (nI rn), .int (nI rs), .int (bz_c gd), .ref aD, .int (nI nh), .ref a1, .ref a2, .ref a3, .ref a4, .int (nI td), .ref aL, .int (nI J.length), .ref aY, .int (nI ms), .ref aM, .int (nI ip), .int (nI it), .int ir, .int (nI il), .ref bN, .ref bS, .ref bC, .ref bB, .ref bR, .ref bO, .ref aU])), (ta, .inl (cA 1, 72, .inl tf)), (aN, .inl (cA 1, 40, .inl nf)), (aS, .inl (cA 0, 5, .inl sz)), (aC, .inl (cA 0, 5, .inl bc)), (aB, .inl (cA 0, 64, .inl bf))] := hD
      refine lv_aload_n hx hb d_Mo_piece_223 rfl (lv_at hl 3 rfl) ?_
      refine va_get (C := RX8) (T := TX8) (N := 43) hx hb hts inX8 hown hK hP 0 rfl rfl 0 (by decide) (hts _ m_845) (fun _ h9 => h9) rfl d_Mo_piece_224 ?_
      refine lv_if_ne (tgt := 239) hx hb d_Mo_piece_227 (by decide) (fun _ => ?_) (fun h9 => absurd h9 (by decide))
      refine lv_iconst (v := nI 0) hx hb d_Mo_piece_239 (by decide) ?_
      exact hret (nI 0) (nI 1, np, tot, nf, sz, bc, bf, NM, BS) _ _ _ 240 d_Mo_piece_240 (by first | exact ⟨cd_clear hc, hnc, hq9, htot, ht60, Or.inl ⟨rfl, pg_f hq1 (fun y z => hq38), rfl, rfl, rfl⟩⟩ | exact ⟨cd_clear hc, hnc, hq9, htot, ht60, Or.inl ⟨rfl, pg_f hq1 (fun y z => absurd y.1 (by omega)), rfl, rfl, rfl⟩⟩ | exact ⟨cd_clear hc, hnc, hq9, htot, ht60, Or.inl ⟨rfl, pg_f hq1 (fun y z => absurd (pc_len z) (by omega)), rfl, rfl, rfl⟩⟩ | exact ⟨cd_clear hc, hnc, hq9, htot, ht60, Or.inl ⟨rfl, pg_f hq1 (fun y z => absurd (nb_all hq26 z) (by omega)), rfl, rfl, rfl⟩⟩ | exact ⟨cd_clear hc, hnc, hq9, htot, ht60, Or.inr ⟨k1, hgo.1, hgo.2, hq38, Or.inl ⟨rfl, Or.inl (bz_1 h63), rfl, rfl, rfl⟩⟩⟩ | exact ⟨cd_clear hc, hnc, hq9, htot, ht60, Or.inr ⟨k1, hgo.1, hgo.2, hq38, Or.inl ⟨rfl, Or.inr (fun y => by omega), rfl, rfl, rfl⟩⟩⟩ | exact ⟨cd_clear hc, hnc, hq9, htot, ht60, Or.inr ⟨k1, hgo.1, hgo.2, hq38, Or.inl ⟨rfl, Or.inr (fun y => by have y2 := y.2; omega), rfl, rfl, rfl⟩⟩⟩) hP hD hS
  ·
    refine wn_isub (by omega) hx hb d_Mo_piece_12 ?_
    refine lv_istore_n (lv' := [(2, .int (nI ((L.length - k1) - 1))), (1, .int (nI k1)), (0, .ref mo)]) hx hb d_Mo_piece_13 rfl hl (by decide) rfl (fun ls hl => ?_)
    refine lv_iload_n hx hb d_Mo_piece_14 rfl (lv_at hl 1 rfl) ?_
    refine wn_if_le (by omega) (tgt := 48) hx hb d_Mo_piece_15 (by decide) ?_ ?_
    · intro h15
      refine lv_iconst (v := nI 0) hx hb d_Mo_piece_48 (by decide) ?_
      refine lv_istore_n (lv' := [(3, .int (nI 0)), (2, .int (nI ((L.length - k1) - 1))), (1, .int (nI k1)), (0, .ref mo)]) hx hb d_Mo_piece_49 rfl hl (by decide) rfl (fun ls hl => ?_)
      refine lv_aload_n hx hb d_Mo_piece_50 rfl (lv_at hl 3 rfl) ?_
      refine lv_iload_n hx hb d_Mo_piece_51 rfl (lv_at hl 0 rfl) ?_
      refine lv_if_ne (tgt := 59) hx hb d_Mo_piece_52 (by decide) (fun h9 => absurd h9 (by decide)) (fun _ => ?_)
      refine lv_iconst (v := nI 1) hx hb d_Mo_piece_55 (by decide) ?_
      refine lv_goto (tgt := 90) hx hb d_Mo_piece_56 (by decide) ?_
      refine va_put (D := D) (ci := 8) (v := .int (nI 1)) (ty := .int) (C := RX8) (T := TX8) (N := 43) hx hb hts inX8 tyX8 tyX8_ok nmX8 hown hK hP hD hS 0 rfl rfl 0 (by decide) (hts _ m_845) (fun _ h9 => h9) rfl (by decide +kernel) rfl rfl (Nat.le_of_ble_eq_true rfl) d_Mo_piece_90 (fun H locs hP hD hS => ?_)
      have hP : va_P D vwCl [(mo, .inr (8, [.int (nI 1), .int (nI L.length), .ref ta, .int (nI np), .ref aN, .ref aS, .ref aC, .int (nI tot), .ref aB, .int (bz_c rd), .int (nI rt), .int (nI pl), .ref aR, .ref aO, .int (nI sg), .ref aW, .int (bz_c mp), .int (nI rn), .int (nI rs), .int (bz_c gd), .ref aD, .int (nI nh), .ref a1, .ref a2, .ref a3, .ref a4, .int (nI td), .ref aL, .int (nI J.length), .ref aY, .int (nI ms), .ref aM, .int (nI ip), .int (nI it), .int ir, .int (nI il), .ref bN, .ref bS, .ref bC, .ref bB, .ref bR, .ref bO, .ref aU])), (ta, .inl (cA 1, 72, .inl tf)), (aN, .inl (cA 1, 40, .inl nf)), (aS, .inl (cA 0, 5, .inl sz)), (aC, .inl (cA 0, 5, .inl bc)), (aB, .inl (cA 0, 64, .inl bf))] H := hP
      have hD : va_D A [(mo, .inr (8, [.int (nI 1), .int (nI L.length), .ref ta, .int (nI np), .ref aN, .ref aS, .ref aC, .int (nI tot), .ref aB, .int (bz_c rd), .int (nI rt), .int (nI pl), .ref aR, .ref aO, .int (nI sg), .ref aW, .int (bz_c mp), .int (nI rn), .int (nI rs), .int (bz_c gd), .ref aD, .int (nI nh), .ref a1, .ref a2, .ref a3, .ref a4, .int (nI td), .ref aL, .int (nI J.length), .ref aY, .int (nI ms), .ref aM, .int (nI ip), .int (nI it), .int ir, .int (nI il), .ref bN, .ref bS, .ref bC, .ref bB, .ref bR, .ref bO, .ref aU])), (ta, .inl (cA 1, 72, .inl tf)), (aN, .inl (cA 1, 40, .inl nf)), (aS, .inl (cA 0, 5, .inl sz)), (aC, .inl (cA 0, 5, .inl bc)), (aB, .inl (cA 0, 64, .inl bf))] := hD
      refine lv_aload_n hx hb d_Mo_piece_93 rfl (lv_at hl 3 rfl) ?_
      refine va_get (C := RX8) (T := TX8) (N := 43) hx hb hts inX8 hown hK hP 0 rfl rfl 0 (by decide) (hts _ m_845) (fun _ h9 => h9) rfl d_Mo_piece_94 ?_
      refine lv_if_ne (tgt := 218) hx hb d_Mo_piece_97 (by decide) (fun _ => ?_) (fun h9 => absurd h9 (by decide))
      refine lv_aload_n hx hb d_Mo_piece_218 rfl (lv_at hl 3 rfl) ?_
      refine lv_iconst (v := nI (([] : List Int32).length)) hx hb d_Mo_piece_219 rfl ?_
      refine va_put (D := D) (ci := 8) (v := .int (nI (([] : List Int32).length))) (ty := .int) (C := RX8) (T := TX8) (N := 43) hx hb hts inX8 tyX8 tyX8_ok nmX8 hown hK hP hD hS 0 rfl rfl 1 (by decide) (hts _ m_846) (fun _ h9 => h9) rfl (by decide +kernel) rfl rfl (Nat.le_of_ble_eq_true rfl) d_Mo_piece_220 (fun H locs hP hD hS => ?_)
      have hP : va_P D vwCl [(mo, .inr (8, [.int (nI 1), .int (nI (([] : List Int32).length)), .ref ta, .int (nI np), .ref aN, .ref aS, .ref aC, .int (nI tot), .ref aB, .int (bz_c rd), .int (nI rt), .int (nI pl), .ref aR, .ref aO, .int (nI sg), .ref aW, .int (bz_c mp), .int (nI rn), .int (nI rs), .int (bz_c gd), .ref aD, .int (nI nh), .ref a1, .ref a2, .ref a3, .ref a4, .int (nI td), .ref aL, .int (nI J.length), .ref aY, .int (nI ms), .ref aM, .int (nI ip), .int (nI it), .int ir, .int (nI il), .ref bN, .ref bS, .ref bC, .ref bB, .ref bR, .ref bO, .ref aU])), (ta, .inl (cA 1, 72, .inl tf)), (aN, .inl (cA 1, 40, .inl nf)), (aS, .inl (cA 0, 5, .inl sz)), (aC, .inl (cA 0, 5, .inl bc)), (aB, .inl (cA 0, 64, .inl bf))] H := hP
      have hD : va_D A [(mo, .inr (8, [.int (nI 1), .int (nI (([] : List Int32).length)), .ref ta, .int (nI np), .ref aN, .ref aS, .ref aC, .int (nI tot), .ref aB, .int (bz_c rd), .int (nI rt), .int (nI pl), .ref aR, .ref aO, .int (nI sg), .ref aW, .int (bz_c mp), .int (nI rn), .int (nI rs), .int (bz_c gd), .ref aD, .int (nI nh), .ref a1, .ref a2, .ref a3, .ref a4, .int (nI td), .ref aL, .int (nI J.length), .ref aY, .int (nI ms), .ref aM, .int (nI ip), .int (nI it), .int ir, .int (nI il), .ref bN, .ref bS, .ref bC, .ref bB, .ref bR, .ref bO, .ref aU])), (ta, .inl (cA 1, 72, .inl tf)), (aN, .inl (cA 1, 40, .inl nf)), (aS, .inl (cA 0, 5, .inl sz)), (aC, .inl (cA 0, 5, .inl bc)), (aB, .inl (cA 0, 64, .inl bf))] := hD
      refine lv_aload_n hx hb d_Mo_piece_223 rfl (lv_at hl 3 rfl) ?_
      refine va_get (C := RX8) (T := TX8) (N := 43) hx hb hts inX8 hown hK hP 0 rfl rfl 0 (by decide) (hts _ m_845) (fun _ h9 => h9) rfl d_Mo_piece_224 ?_
      refine lv_if_ne (tgt := 239) hx hb d_Mo_piece_227 (by decide) (fun _ => ?_) (fun h9 => absurd h9 (by decide))
      refine lv_iconst (v := nI 0) hx hb d_Mo_piece_239 (by decide) ?_
      exact hret (nI 0) (nI 1, np, tot, nf, sz, bc, bf, NM, BS) _ _ _ 240 d_Mo_piece_240 (by first | exact ⟨cd_clear hc, hnc, hq9, htot, ht60, Or.inl ⟨rfl, pg_f hq1 (fun y z => hq38), rfl, rfl, rfl⟩⟩ | exact ⟨cd_clear hc, hnc, hq9, htot, ht60, Or.inl ⟨rfl, pg_f hq1 (fun y z => absurd y.1 (by omega)), rfl, rfl, rfl⟩⟩ | exact ⟨cd_clear hc, hnc, hq9, htot, ht60, Or.inl ⟨rfl, pg_f hq1 (fun y z => absurd (pc_len z) (by omega)), rfl, rfl, rfl⟩⟩ | exact ⟨cd_clear hc, hnc, hq9, htot, ht60, Or.inl ⟨rfl, pg_f hq1 (fun y z => absurd (nb_all hq26 z) (by omega)), rfl, rfl, rfl⟩⟩ | exact ⟨cd_clear hc, hnc, hq9, htot, ht60, Or.inr ⟨k1, hgo.1, hgo.2, hq38, Or.inl ⟨rfl, Or.inl (bz_1 h63), rfl, rfl, rfl⟩⟩⟩ | exact ⟨cd_clear hc, hnc, hq9, htot, ht60, Or.inr ⟨k1, hgo.1, hgo.2, hq38, Or.inl ⟨rfl, Or.inr (fun y => by omega), rfl, rfl, rfl⟩⟩⟩ | exact ⟨cd_clear hc, hnc, hq9, htot, ht60, Or.inr ⟨k1, hgo.1, hgo.2, hq38, Or.inl ⟨rfl, Or.inr (fun y => by have y2 := y.2; omega), rfl, rfl, rfl⟩⟩⟩) hP hD hS
    · intro h15
      refine lv_iload_n hx hb d_Mo_piece_18 rfl (lv_at hl 0 rfl) ?_
      refine wn_if_le (by omega) (tgt := 48) hx hb d_Mo_piece_19 (by decide) ?_ ?_
      · intro h19
        refine lv_iconst (v := nI 0) hx hb d_Mo_piece_48 (by decide) ?_
        refine lv_istore_n (lv' := [(3, .int (nI 0)), (2, .int (nI ((L.length - k1) - 1))), (1, .int (nI k1)), (0, .ref mo)]) hx hb d_Mo_piece_49 rfl hl (by decide) rfl (fun ls hl => ?_)
        refine lv_aload_n hx hb d_Mo_piece_50 rfl (lv_at hl 3 rfl) ?_
        refine lv_iload_n hx hb d_Mo_piece_51 rfl (lv_at hl 0 rfl) ?_
        refine lv_if_ne (tgt := 59) hx hb d_Mo_piece_52 (by decide) (fun h9 => absurd h9 (by decide)) (fun _ => ?_)
        refine lv_iconst (v := nI 1) hx hb d_Mo_piece_55 (by decide) ?_
        refine lv_goto (tgt := 90) hx hb d_Mo_piece_56 (by decide) ?_
        refine va_put (D := D) (ci := 8) (v := .int (nI 1)) (ty := .int) (C := RX8) (T := TX8) (N := 43) hx hb hts inX8 tyX8 tyX8_ok nmX8 hown hK hP hD hS 0 rfl rfl 0 (by decide) (hts _ m_845) (fun _ h9 => h9) rfl (by decide +kernel) rfl rfl (Nat.le_of_ble_eq_true rfl) d_Mo_piece_90 (fun H locs hP hD hS => ?_)
        have hP : va_P D vwCl [(mo, .inr (8, [.int (nI 1), .int (nI L.length), .ref ta, .int (nI np), .ref aN, .ref aS, .ref aC, .int (nI tot), .ref aB, .int (bz_c rd), .int (nI rt), .int (nI pl), .ref aR, .ref aO, .int (nI sg), .ref aW, .int (bz_c mp), .int (nI rn), .int (nI rs), .int (bz_c gd), .ref aD, .int (nI nh), .ref a1, .ref a2, .ref a3, .ref a4, .int (nI td), .ref aL, .int (nI J.length), .ref aY, .int (nI ms), .ref aM, .int (nI ip), .int (nI it), .int ir, .int (nI il), .ref bN, .ref bS, .ref bC, .ref bB, .ref bR, .ref bO, .ref aU])), (ta, .inl (cA 1, 72, .inl tf)), (aN, .inl (cA 1, 40, .inl nf)), (aS, .inl (cA 0, 5, .inl sz)), (aC, .inl (cA 0, 5, .inl bc)), (aB, .inl (cA 0, 64, .inl bf))] H := hP
        have hD : va_D A [(mo, .inr (8, [.int (nI 1), .int (nI L.length), .ref ta, .int (nI np), .ref aN, .ref aS, .ref aC, .int (nI tot), .ref aB, .int (bz_c rd), .int (nI rt), .int (nI pl), .ref aR, .ref aO, .int (nI sg), .ref aW, .int (bz_c mp), .int (nI rn), .int (nI rs), .int (bz_c gd), .ref aD, .int (nI nh), .ref a1, .ref a2, .ref a3, .ref a4, .int (nI td), .ref aL, .int (nI J.length), .ref aY, .int (nI ms), .ref aM, .int (nI ip), .int (nI it), .int ir, .int (nI il), .ref bN, .ref bS, .ref bC, .ref bB, .ref bR, .ref bO, .ref aU])), (ta, .inl (cA 1, 72, .inl tf)), (aN, .inl (cA 1, 40, .inl nf)), (aS, .inl (cA 0, 5, .inl sz)), (aC, .inl (cA 0, 5, .inl bc)), (aB, .inl (cA 0, 64, .inl bf))] := hD
        refine lv_aload_n hx hb d_Mo_piece_93 rfl (lv_at hl 3 rfl) ?_
        refine va_get (C := RX8) (T := TX8) (N := 43) hx hb hts inX8 hown hK hP 0 rfl rfl 0 (by decide) (hts _ m_845) (fun _ h9 => h9) rfl d_Mo_piece_94 ?_
        refine lv_if_ne (tgt := 218) hx hb d_Mo_piece_97 (by decide) (fun _ => ?_) (fun h9 => absurd h9 (by decide))
        refine lv_aload_n hx hb d_Mo_piece_218 rfl (lv_at hl 3 rfl) ?_
        refine lv_iconst (v := nI (([] : List Int32).length)) hx hb d_Mo_piece_219 rfl ?_
        refine va_put (D := D) (ci := 8) (v := .int (nI (([] : List Int32).length))) (ty := .int) (C := RX8) (T := TX8) (N := 43) hx hb hts inX8 tyX8 tyX8_ok nmX8 hown hK hP hD hS 0 rfl rfl 1 (by decide) (hts _ m_846) (fun _ h9 => h9) rfl (by decide +kernel) rfl rfl (Nat.le_of_ble_eq_true rfl) d_Mo_piece_220 (fun H locs hP hD hS => ?_)
        have hP : va_P D vwCl [(mo, .inr (8, [.int (nI 1), .int (nI (([] : List Int32).length)), .ref ta, .int (nI np), .ref aN, .ref aS, .ref aC, .int (nI tot), .ref aB, .int (bz_c rd), .int (nI rt), .int (nI pl), .ref aR, .ref aO, .int (nI sg), .ref aW, .int (bz_c mp), .int (nI rn), .int (nI rs), .int (bz_c gd), .ref aD, .int (nI nh), .ref a1, .ref a2, .ref a3, .ref a4, .int (nI td), .ref aL, .int (nI J.length), .ref aY, .int (nI ms), .ref aM, .int (nI ip), .int (nI it), .int ir, .int (nI il), .ref bN, .ref bS, .ref bC, .ref bB, .ref bR, .ref bO, .ref aU])), (ta, .inl (cA 1, 72, .inl tf)), (aN, .inl (cA 1, 40, .inl nf)), (aS, .inl (cA 0, 5, .inl sz)), (aC, .inl (cA 0, 5, .inl bc)), (aB, .inl (cA 0, 64, .inl bf))] H := hP
        have hD : va_D A [(mo, .inr (8, [.int (nI 1), .int (nI (([] : List Int32).length)), .ref ta, .int (nI np), .ref aN, .ref aS, .ref aC, .int (nI tot), .ref aB, .int (bz_c rd), .int (nI rt), .int (nI pl), .ref aR, .ref aO, .int (nI sg), .ref aW, .int (bz_c mp), .int (nI rn), .int (nI rs), .int (bz_c gd), .ref aD, .int (nI nh), .ref a1, .ref a2, .ref a3, .ref a4, .int (nI td), .ref aL, .int (nI J.length), .ref aY, .int (nI ms), .ref aM, .int (nI ip), .int (nI it), .int ir, .int (nI il), .ref bN, .ref bS, .ref bC, .ref bB, .ref bR, .ref bO, .ref aU])), (ta, .inl (cA 1, 72, .inl tf)), (aN, .inl (cA 1, 40, .inl nf)), (aS, .inl (cA 0, 5, .inl sz)), (aC, .inl (cA 0, 5, .inl bc)), (aB, .inl (cA 0, 64, .inl bf))] := hD
        refine lv_aload_n hx hb d_Mo_piece_223 rfl (lv_at hl 3 rfl) ?_
        refine va_get (C := RX8) (T := TX8) (N := 43) hx hb hts inX8 hown hK hP 0 rfl rfl 0 (by decide) (hts _ m_845) (fun _ h9 => h9) rfl d_Mo_piece_224 ?_
        refine lv_if_ne (tgt := 239) hx hb d_Mo_piece_227 (by decide) (fun _ => ?_) (fun h9 => absurd h9 (by decide))
        refine lv_iconst (v := nI 0) hx hb d_Mo_piece_239 (by decide) ?_
        exact hret (nI 0) (nI 1, np, tot, nf, sz, bc, bf, NM, BS) _ _ _ 240 d_Mo_piece_240 (by first | exact ⟨cd_clear hc, hnc, hq9, htot, ht60, Or.inl ⟨rfl, pg_f hq1 (fun y z => hq38), rfl, rfl, rfl⟩⟩ | exact ⟨cd_clear hc, hnc, hq9, htot, ht60, Or.inl ⟨rfl, pg_f hq1 (fun y z => absurd y.1 (by omega)), rfl, rfl, rfl⟩⟩ | exact ⟨cd_clear hc, hnc, hq9, htot, ht60, Or.inl ⟨rfl, pg_f hq1 (fun y z => absurd (pc_len z) (by omega)), rfl, rfl, rfl⟩⟩ | exact ⟨cd_clear hc, hnc, hq9, htot, ht60, Or.inl ⟨rfl, pg_f hq1 (fun y z => absurd (nb_all hq26 z) (by omega)), rfl, rfl, rfl⟩⟩ | exact ⟨cd_clear hc, hnc, hq9, htot, ht60, Or.inr ⟨k1, hgo.1, hgo.2, hq38, Or.inl ⟨rfl, Or.inl (bz_1 h63), rfl, rfl, rfl⟩⟩⟩ | exact ⟨cd_clear hc, hnc, hq9, htot, ht60, Or.inr ⟨k1, hgo.1, hgo.2, hq38, Or.inl ⟨rfl, Or.inr (fun y => by omega), rfl, rfl, rfl⟩⟩⟩ | exact ⟨cd_clear hc, hnc, hq9, htot, ht60, Or.inr ⟨k1, hgo.1, hgo.2, hq38, Or.inl ⟨rfl, Or.inr (fun y => by have y2 := y.2; omega), rfl, rfl, rfl⟩⟩⟩) hP hD hS
      · intro h19
        refine lv_aload_n hx hb d_Mo_piece_22 rfl (lv_at hl 2 rfl) ?_
        refine lv_iload_n hx hb d_Mo_piece_23 rfl (lv_at hl 1 rfl) ?_
        refine lv_iconst (v := nI 1) hx hb d_Mo_piece_24 (by decide) ?_
        refine wn_iadd hx hb d_Mo_piece_25 ?_
        refine ck_cV (C := "ReadMapperModel") (ci := 8) (rest := []) (wr := [(aN, .inl (cA 1, 40, .inl nf)), (aS, .inl (cA 0, 5, .inl sz)), (aC, .inl (cA 0, 5, .inl bc)), (aB, .inl (cA 0, 64, .inl bf))]) (ws2 := fun u => [(mo, .inr (8, [.int zt, .int (nI L.length), .ref ta, .int (nI np), .ref aN, .ref aS, .ref aC, .int (nI tot), .ref aB, .int (bz_c rd), .int (nI rt), .int (nI pl), .ref aR, .ref aO, .int (nI sg), .ref aW, .int (bz_c mp), .int (nI rn), .int (nI rs), .int (bz_c gd), .ref aD, .int (nI nh), .ref a1, .ref a2, .ref a3, .ref a4, .int (nI td), .ref aL, .int (nI J.length), .ref aY, .int (nI ms), .ref aM, .int (nI ip), .int (nI it), .int ir, .int (nI il), .ref bN, .ref bS, .ref bC, .ref bB, .ref bR, .ref bO, .ref aU])), (ta, .inl (cA 1, 72, .inl tf)), (aN, .inl (cA 1, 40, .inl nf)), (aS, .inl (cA 0, 5, .inl sz)), (aC, .inl (cA 0, 5, .inl bc)), (aB, .inl (cA 0, 64, .inl bf))]) (c_Mo_basesEnd l D cA K mo ta aN aS aC aB aR aO aW aD a1 a2 a3 a4 aL aY aM bN bS bC bB bR bO aU rd mp gd zt ir np tot rt pl sg rn rs nh td ms ip it il L J tf (k1 + 1) (by first | assumption | omega) (by first | assumption | omega)) hx hb hml hown hts hK hE hA hP hD hS k_Mo_basesEnd m_996 (by decide) 0 rfl rfl rfl hl.1 rfl (Nat.le_of_ble_eq_true rfl) d_Mo_piece_26  [0, 1] [2, 3, 4, 5] [4, 5, 0, 1, 2, 3] rfl rfl (by decide) (fun _ => rfl) (fun r26 u26 H locs hq26 hP hD hS => ?_)
        try dsimp only at hq26
        have hP : va_P D vwCl [(mo, .inr (8, [.int zt, .int (nI L.length), .ref ta, .int (nI np), .ref aN, .ref aS, .ref aC, .int (nI tot), .ref aB, .int (bz_c rd), .int (nI rt), .int (nI pl), .ref aR, .ref aO, .int (nI sg), .ref aW, .int (bz_c mp), .int (nI rn), .int (nI rs), .int (bz_c gd), .ref aD, .int (nI nh), .ref a1, .ref a2, .ref a3, .ref a4, .int (nI td), .ref aL, .int (nI J.length), .ref aY, .int (nI ms), .ref aM, .int (nI ip), .int (nI it), .int ir, .int (nI il), .ref bN, .ref bS, .ref bC, .ref bB, .ref bR, .ref bO, .ref aU])), (ta, .inl (cA 1, 72, .inl tf)), (aN, .inl (cA 1, 40, .inl nf)), (aS, .inl (cA 0, 5, .inl sz)), (aC, .inl (cA 0, 5, .inl bc)), (aB, .inl (cA 0, 64, .inl bf))] H := hP
        have hD : va_D A [(mo, .inr (8, [.int zt, .int (nI L.length), .ref ta, .int (nI np), .ref aN, .ref aS, .ref aC, .int (nI tot), .ref aB, .int (bz_c rd), .int (nI rt), .int (nI pl), .ref aR, .ref aO, .int (nI sg), .ref aW, .int (bz_c mp), .int (nI rn), .int (nI rs), .int (bz_c gd), .ref aD, .int (nI nh), .ref a1, .ref a2, .ref a3, .ref a4, .int (nI td), .ref aL, .int (nI J.length), .ref aY, .int (nI ms), .ref aM, .int (nI ip), .int (nI it), .int ir, .int (nI il), .ref bN, .ref bS, .ref bC, .ref bB, .ref bR, .ref bO, .ref aU])), (ta, .inl (cA 1, 72, .inl tf)), (aN, .inl (cA 1, 40, .inl nf)), (aS, .inl (cA 0, 5, .inl sz)), (aC, .inl (cA 0, 5, .inl bc)), (aB, .inl (cA 0, 64, .inl bf))] := hD
        obtain ⟨k26, rfl, hq26⟩ := hq26
        have hk26 := hq26.2.1
        refine lv_aload_n hx hb d_Mo_piece_29 rfl (lv_at hl 2 rfl) ?_
        refine va_get (C := RX8) (T := TX8) (N := 43) hx hb hts inX8 hown hK hP 0 rfl rfl 1 (by decide) (hts _ m_846) (fun _ h9 => h9) rfl d_Mo_piece_30 ?_
        refine wn_icmp_ne (by omega) (by omega) (tgt := 48) hx hb d_Mo_piece_33 (by decide) ?_ ?_
        · intro h33
          refine lv_iconst (v := nI 0) hx hb d_Mo_piece_48 (by decide) ?_
          refine lv_istore_n (lv' := [(3, .int (nI 0)), (2, .int (nI ((L.length - k1) - 1))), (1, .int (nI k1)), (0, .ref mo)]) hx hb d_Mo_piece_49 rfl hl (by decide) rfl (fun ls hl => ?_)
          refine lv_aload_n hx hb d_Mo_piece_50 rfl (lv_at hl 3 rfl) ?_
          refine lv_iload_n hx hb d_Mo_piece_51 rfl (lv_at hl 0 rfl) ?_
          refine lv_if_ne (tgt := 59) hx hb d_Mo_piece_52 (by decide) (fun h9 => absurd h9 (by decide)) (fun _ => ?_)
          refine lv_iconst (v := nI 1) hx hb d_Mo_piece_55 (by decide) ?_
          refine lv_goto (tgt := 90) hx hb d_Mo_piece_56 (by decide) ?_
          refine va_put (D := D) (ci := 8) (v := .int (nI 1)) (ty := .int) (C := RX8) (T := TX8) (N := 43) hx hb hts inX8 tyX8 tyX8_ok nmX8 hown hK hP hD hS 0 rfl rfl 0 (by decide) (hts _ m_845) (fun _ h9 => h9) rfl (by decide +kernel) rfl rfl (Nat.le_of_ble_eq_true rfl) d_Mo_piece_90 (fun H locs hP hD hS => ?_)
          have hP : va_P D vwCl [(mo, .inr (8, [.int (nI 1), .int (nI L.length), .ref ta, .int (nI np), .ref aN, .ref aS, .ref aC, .int (nI tot), .ref aB, .int (bz_c rd), .int (nI rt), .int (nI pl), .ref aR, .ref aO, .int (nI sg), .ref aW, .int (bz_c mp), .int (nI rn), .int (nI rs), .int (bz_c gd), .ref aD, .int (nI nh), .ref a1, .ref a2, .ref a3, .ref a4, .int (nI td), .ref aL, .int (nI J.length), .ref aY, .int (nI ms), .ref aM, .int (nI ip), .int (nI it), .int ir, .int (nI il), .ref bN, .ref bS, .ref bC, .ref bB, .ref bR, .ref bO, .ref aU])), (ta, .inl (cA 1, 72, .inl tf)), (aN, .inl (cA 1, 40, .inl nf)), (aS, .inl (cA 0, 5, .inl sz)), (aC, .inl (cA 0, 5, .inl bc)), (aB, .inl (cA 0, 64, .inl bf))] H := hP
          have hD : va_D A [(mo, .inr (8, [.int (nI 1), .int (nI L.length), .ref ta, .int (nI np), .ref aN, .ref aS, .ref aC, .int (nI tot), .ref aB, .int (bz_c rd), .int (nI rt), .int (nI pl), .ref aR, .ref aO, .int (nI sg), .ref aW, .int (bz_c mp), .int (nI rn), .int (nI rs), .int (bz_c gd), .ref aD, .int (nI nh), .ref a1, .ref a2, .ref a3, .ref a4, .int (nI td), .ref aL, .int (nI J.length), .ref aY, .int (nI ms), .ref aM, .int (nI ip), .int (nI it), .int ir, .int (nI il), .ref bN, .ref bS, .ref bC, .ref bB, .ref bR, .ref bO, .ref aU])), (ta, .inl (cA 1, 72, .inl tf)), (aN, .inl (cA 1, 40, .inl nf)), (aS, .inl (cA 0, 5, .inl sz)), (aC, .inl (cA 0, 5, .inl bc)), (aB, .inl (cA 0, 64, .inl bf))] := hD
          refine lv_aload_n hx hb d_Mo_piece_93 rfl (lv_at hl 3 rfl) ?_
          refine va_get (C := RX8) (T := TX8) (N := 43) hx hb hts inX8 hown hK hP 0 rfl rfl 0 (by decide) (hts _ m_845) (fun _ h9 => h9) rfl d_Mo_piece_94 ?_
          refine lv_if_ne (tgt := 218) hx hb d_Mo_piece_97 (by decide) (fun _ => ?_) (fun h9 => absurd h9 (by decide))
          refine lv_aload_n hx hb d_Mo_piece_218 rfl (lv_at hl 3 rfl) ?_
          refine lv_iconst (v := nI (([] : List Int32).length)) hx hb d_Mo_piece_219 rfl ?_
          refine va_put (D := D) (ci := 8) (v := .int (nI (([] : List Int32).length))) (ty := .int) (C := RX8) (T := TX8) (N := 43) hx hb hts inX8 tyX8 tyX8_ok nmX8 hown hK hP hD hS 0 rfl rfl 1 (by decide) (hts _ m_846) (fun _ h9 => h9) rfl (by decide +kernel) rfl rfl (Nat.le_of_ble_eq_true rfl) d_Mo_piece_220 (fun H locs hP hD hS => ?_)
          have hP : va_P D vwCl [(mo, .inr (8, [.int (nI 1), .int (nI (([] : List Int32).length)), .ref ta, .int (nI np), .ref aN, .ref aS, .ref aC, .int (nI tot), .ref aB, .int (bz_c rd), .int (nI rt), .int (nI pl), .ref aR, .ref aO, .int (nI sg), .ref aW, .int (bz_c mp), .int (nI rn), .int (nI rs), .int (bz_c gd), .ref aD, .int (nI nh), .ref a1, .ref a2, .ref a3, .ref a4, .int (nI td), .ref aL, .int (nI J.length), .ref aY, .int (nI ms), .ref aM, .int (nI ip), .int (nI it), .int ir, .int (nI il), .ref bN, .ref bS, .ref bC, .ref bB, .ref bR, .ref bO, .ref aU])), (ta, .inl (cA 1, 72, .inl tf)), (aN, .inl (cA 1, 40, .inl nf)), (aS, .inl (cA 0, 5, .inl sz)), (aC, .inl (cA 0, 5, .inl bc)), (aB, .inl (cA 0, 64, .inl bf))] H := hP
          have hD : va_D A [(mo, .inr (8, [.int (nI 1), .int (nI (([] : List Int32).length)), .ref ta, .int (nI np), .ref aN, .ref aS, .ref aC, .int (nI tot), .ref aB, .int (bz_c rd), .int (nI rt), .int (nI pl), .ref aR, .ref aO, .int (nI sg), .ref aW, .int (bz_c mp), .int (nI rn), .int (nI rs), .int (bz_c gd), .ref aD, .int (nI nh), .ref a1, .ref a2, .ref a3, .ref a4, .int (nI td), .ref aL, .int (nI J.length), .ref aY, .int (nI ms), .ref aM, .int (nI ip), .int (nI it), .int ir, .int (nI il), .ref bN, .ref bS, .ref bC, .ref bB, .ref bR, .ref bO, .ref aU])), (ta, .inl (cA 1, 72, .inl tf)), (aN, .inl (cA 1, 40, .inl nf)), (aS, .inl (cA 0, 5, .inl sz)), (aC, .inl (cA 0, 5, .inl bc)), (aB, .inl (cA 0, 64, .inl bf))] := hD
          refine lv_aload_n hx hb d_Mo_piece_223 rfl (lv_at hl 3 rfl) ?_
          refine va_get (C := RX8) (T := TX8) (N := 43) hx hb hts inX8 hown hK hP 0 rfl rfl 0 (by decide) (hts _ m_845) (fun _ h9 => h9) rfl d_Mo_piece_224 ?_
          refine lv_if_ne (tgt := 239) hx hb d_Mo_piece_227 (by decide) (fun _ => ?_) (fun h9 => absurd h9 (by decide))
          refine lv_iconst (v := nI 0) hx hb d_Mo_piece_239 (by decide) ?_
          exact hret (nI 0) (nI 1, np, tot, nf, sz, bc, bf, NM, BS) _ _ _ 240 d_Mo_piece_240 (by first | exact ⟨cd_clear hc, hnc, hq9, htot, ht60, Or.inl ⟨rfl, pg_f hq1 (fun y z => hq38), rfl, rfl, rfl⟩⟩ | exact ⟨cd_clear hc, hnc, hq9, htot, ht60, Or.inl ⟨rfl, pg_f hq1 (fun y z => absurd y.1 (by omega)), rfl, rfl, rfl⟩⟩ | exact ⟨cd_clear hc, hnc, hq9, htot, ht60, Or.inl ⟨rfl, pg_f hq1 (fun y z => absurd (pc_len z) (by omega)), rfl, rfl, rfl⟩⟩ | exact ⟨cd_clear hc, hnc, hq9, htot, ht60, Or.inl ⟨rfl, pg_f hq1 (fun y z => absurd (nb_all hq26 z) (by omega)), rfl, rfl, rfl⟩⟩ | exact ⟨cd_clear hc, hnc, hq9, htot, ht60, Or.inr ⟨k1, hgo.1, hgo.2, hq38, Or.inl ⟨rfl, Or.inl (bz_1 h63), rfl, rfl, rfl⟩⟩⟩ | exact ⟨cd_clear hc, hnc, hq9, htot, ht60, Or.inr ⟨k1, hgo.1, hgo.2, hq38, Or.inl ⟨rfl, Or.inr (fun y => by omega), rfl, rfl, rfl⟩⟩⟩ | exact ⟨cd_clear hc, hnc, hq9, htot, ht60, Or.inr ⟨k1, hgo.1, hgo.2, hq38, Or.inl ⟨rfl, Or.inr (fun y => by have y2 := y.2; omega), rfl, rfl, rfl⟩⟩⟩) hP hD hS
        · intro h33
          refine lv_aload_n hx hb d_Mo_piece_36 rfl (lv_at hl 2 rfl) ?_
          refine lv_iload_n hx hb d_Mo_piece_37 rfl (lv_at hl 1 rfl) ?_
          refine ck_cV (C := "ReadMapperModel") (ci := 8) (rest := []) (wr := [(aC, .inl (cA 0, 5, .inl bc)), (aB, .inl (cA 0, 64, .inl bf))]) (ws2 := fun u => [(mo, .inr (8, [.int zt, .int (nI L.length), .ref ta, .int (nI np), .ref aN, .ref aS, .ref aC, .int (nI tot), .ref aB, .int (bz_c rd), .int (nI rt), .int (nI pl), .ref aR, .ref aO, .int (nI sg), .ref aW, .int (bz_c mp), .int (nI rn), .int (nI rs), .int (bz_c gd), .ref aD, .int (nI nh), .ref a1, .ref a2, .ref a3, .ref a4, .int (nI td), .ref aL, .int (nI J.length), .ref aY, .int (nI ms), .ref aM, .int (nI ip), .int (nI it), .int ir, .int (nI il), .ref bN, .ref bS, .ref bC, .ref bB, .ref bR, .ref bO, .ref aU])), (ta, .inl (cA 1, 72, .inl tf)), (aN, .inl (cA 1, 40, .inl nf)), (aS, .inl (cA 0, 5, .inl sz)), (aC, .inl (cA 0, 5, .inl bc)), (aB, .inl (cA 0, 64, .inl bf))]) (c_Mo_isThere l D cA K mo ta aN aS aC aB aR aO aW aD a1 a2 a3 a4 aL aY aM bN bS bC bB bR bO aU rd mp gd zt ir np tot rt pl sg rn rs nh td ms ip it il L J tf nf sz NM k1 (by first | assumption | omega) (by first | assumption | omega) (by first | assumption | omega) (by first | assumption | omega) hq9.1) hx hb hml hown hts hK hE hA hP hD hS k_Mo_isThere m_1003 (by decide) 0 rfl rfl rfl hl.1 rfl (Nat.le_of_ble_eq_true rfl) d_Mo_piece_38  [0, 1, 2, 3] [4, 5] [2, 3, 4, 5, 0, 1] rfl rfl (by decide) (fun _ => rfl) (fun r38 u38 H locs hq38 hP hD hS => ?_)
          try dsimp only at hq38
          have hP : va_P D vwCl [(mo, .inr (8, [.int zt, .int (nI L.length), .ref ta, .int (nI np), .ref aN, .ref aS, .ref aC, .int (nI tot), .ref aB, .int (bz_c rd), .int (nI rt), .int (nI pl), .ref aR, .ref aO, .int (nI sg), .ref aW, .int (bz_c mp), .int (nI rn), .int (nI rs), .int (bz_c gd), .ref aD, .int (nI nh), .ref a1, .ref a2, .ref a3, .ref a4, .int (nI td), .ref aL, .int (nI J.length), .ref aY, .int (nI ms), .ref aM, .int (nI ip), .int (nI it), .int ir, .int (nI il), .ref bN, .ref bS, .ref bC, .ref bB, .ref bR, .ref bO, .ref aU])), (ta, .inl (cA 1, 72, .inl tf)), (aN, .inl (cA 1, 40, .inl nf)), (aS, .inl (cA 0, 5, .inl sz)), (aC, .inl (cA 0, 5, .inl bc)), (aB, .inl (cA 0, 64, .inl bf))] H := hP
          have hD : va_D A [(mo, .inr (8, [.int zt, .int (nI L.length), .ref ta, .int (nI np), .ref aN, .ref aS, .ref aC, .int (nI tot), .ref aB, .int (bz_c rd), .int (nI rt), .int (nI pl), .ref aR, .ref aO, .int (nI sg), .ref aW, .int (bz_c mp), .int (nI rn), .int (nI rs), .int (bz_c gd), .ref aD, .int (nI nh), .ref a1, .ref a2, .ref a3, .ref a4, .int (nI td), .ref aL, .int (nI J.length), .ref aY, .int (nI ms), .ref aM, .int (nI ip), .int (nI it), .int ir, .int (nI il), .ref bN, .ref bS, .ref bC, .ref bB, .ref bR, .ref bO, .ref aU])), (ta, .inl (cA 1, 72, .inl tf)), (aN, .inl (cA 1, 40, .inl nf)), (aS, .inl (cA 0, 5, .inl sz)), (aC, .inl (cA 0, 5, .inl bc)), (aB, .inl (cA 0, 64, .inl bf))] := hD
          rcases hq38 with ⟨rfl, hq38⟩ | ⟨rfl, hq38⟩
          ·
            refine lv_if_ne (tgt := 48) hx hb d_Mo_piece_41 (by decide) (fun _ => ?_) (fun h9 => absurd h9 (by decide))
            refine lv_iconst (v := nI 0) hx hb d_Mo_piece_48 (by decide) ?_
            refine lv_istore_n (lv' := [(3, .int (nI 0)), (2, .int (nI ((L.length - k1) - 1))), (1, .int (nI k1)), (0, .ref mo)]) hx hb d_Mo_piece_49 rfl hl (by decide) rfl (fun ls hl => ?_)
            refine lv_aload_n hx hb d_Mo_piece_50 rfl (lv_at hl 3 rfl) ?_
            refine lv_iload_n hx hb d_Mo_piece_51 rfl (lv_at hl 0 rfl) ?_
            refine lv_if_ne (tgt := 59) hx hb d_Mo_piece_52 (by decide) (fun h9 => absurd h9 (by decide)) (fun _ => ?_)
            refine lv_iconst (v := nI 1) hx hb d_Mo_piece_55 (by decide) ?_
            refine lv_goto (tgt := 90) hx hb d_Mo_piece_56 (by decide) ?_
            refine va_put (D := D) (ci := 8) (v := .int (nI 1)) (ty := .int) (C := RX8) (T := TX8) (N := 43) hx hb hts inX8 tyX8 tyX8_ok nmX8 hown hK hP hD hS 0 rfl rfl 0 (by decide) (hts _ m_845) (fun _ h9 => h9) rfl (by decide +kernel) rfl rfl (Nat.le_of_ble_eq_true rfl) d_Mo_piece_90 (fun H locs hP hD hS => ?_)
            have hP : va_P D vwCl [(mo, .inr (8, [.int (nI 1), .int (nI L.length), .ref ta, .int (nI np), .ref aN, .ref aS, .ref aC, .int (nI tot), .ref aB, .int (bz_c rd), .int (nI rt), .int (nI pl), .ref aR, .ref aO, .int (nI sg), .ref aW, .int (bz_c mp), .int (nI rn), .int (nI rs), .int (bz_c gd), .ref aD, .int (nI nh), .ref a1, .ref a2, .ref a3, .ref a4, .int (nI td), .ref aL, .int (nI J.length), .ref aY, .int (nI ms), .ref aM, .int (nI ip), .int (nI it), .int ir, .int (nI il), .ref bN, .ref bS, .ref bC, .ref bB, .ref bR, .ref bO, .ref aU])), (ta, .inl (cA 1, 72, .inl tf)), (aN, .inl (cA 1, 40, .inl nf)), (aS, .inl (cA 0, 5, .inl sz)), (aC, .inl (cA 0, 5, .inl bc)), (aB, .inl (cA 0, 64, .inl bf))] H := hP
            have hD : va_D A [(mo, .inr (8, [.int (nI 1), .int (nI L.length), .ref ta, .int (nI np), .ref aN, .ref aS, .ref aC, .int (nI tot), .ref aB, .int (bz_c rd), .int (nI rt), .int (nI pl), .ref aR, .ref aO, .int (nI sg), .ref aW, .int (bz_c mp), .int (nI rn), .int (nI rs), .int (bz_c gd), .ref aD, .int (nI nh), .ref a1, .ref a2, .ref a3, .ref a4, .int (nI td), .ref aL, .int (nI J.length), .ref aY, .int (nI ms), .ref aM, .int (nI ip), .int (nI it), .int ir, .int (nI il), .ref bN, .ref bS, .ref bC, .ref bB, .ref bR, .ref bO, .ref aU])), (ta, .inl (cA 1, 72, .inl tf)), (aN, .inl (cA 1, 40, .inl nf)), (aS, .inl (cA 0, 5, .inl sz)), (aC, .inl (cA 0, 5, .inl bc)), (aB, .inl (cA 0, 64, .inl bf))] := hD
            refine lv_aload_n hx hb d_Mo_piece_93 rfl (lv_at hl 3 rfl) ?_
            refine va_get (C := RX8) (T := TX8) (N := 43) hx hb hts inX8 hown hK hP 0 rfl rfl 0 (by decide) (hts _ m_845) (fun _ h9 => h9) rfl d_Mo_piece_94 ?_
            refine lv_if_ne (tgt := 218) hx hb d_Mo_piece_97 (by decide) (fun _ => ?_) (fun h9 => absurd h9 (by decide))
            refine lv_aload_n hx hb d_Mo_piece_218 rfl (lv_at hl 3 rfl) ?_
            refine lv_iconst (v := nI (([] : List Int32).length)) hx hb d_Mo_piece_219 rfl ?_
            refine va_put (D := D) (ci := 8) (v := .int (nI (([] : List Int32).length))) (ty := .int) (C := RX8) (T := TX8) (N := 43) hx hb hts inX8 tyX8 tyX8_ok nmX8 hown hK hP hD hS 0 rfl rfl 1 (by decide) (hts _ m_846) (fun _ h9 => h9) rfl (by decide +kernel) rfl rfl (Nat.le_of_ble_eq_true rfl) d_Mo_piece_220 (fun H locs hP hD hS => ?_)
            have hP : va_P D vwCl [(mo, .inr (8, [.int (nI 1), .int (nI (([] : List Int32).length)), .ref ta, .int (nI np), .ref aN, .ref aS, .ref aC, .int (nI tot), .ref aB, .int (bz_c rd), .int (nI rt), .int (nI pl), .ref aR, .ref aO, .int (nI sg), .ref aW, .int (bz_c mp), .int (nI rn), .int (nI rs), .int (bz_c gd), .ref aD, .int (nI nh), .ref a1, .ref a2, .ref a3, .ref a4, .int (nI td), .ref aL, .int (nI J.length), .ref aY, .int (nI ms), .ref aM, .int (nI ip), .int (nI it), .int ir, .int (nI il), .ref bN, .ref bS, .ref bC, .ref bB, .ref bR, .ref bO, .ref aU])), (ta, .inl (cA 1, 72, .inl tf)), (aN, .inl (cA 1, 40, .inl nf)), (aS, .inl (cA 0, 5, .inl sz)), (aC, .inl (cA 0, 5, .inl bc)), (aB, .inl (cA 0, 64, .inl bf))] H := hP
            have hD : va_D A [(mo, .inr (8, [.int (nI 1), .int (nI (([] : List Int32).length)), .ref ta, .int (nI np), .ref aN, .ref aS, .ref aC, .int (nI tot), .ref aB, .int (bz_c rd), .int (nI rt), .int (nI pl), .ref aR, .ref aO, .int (nI sg), .ref aW, .int (bz_c mp), .int (nI rn), .int (nI rs), .int (bz_c gd), .ref aD, .int (nI nh), .ref a1, .ref a2, .ref a3, .ref a4, .int (nI td), .ref aL, .int (nI J.length), .ref aY, .int (nI ms), .ref aM, .int (nI ip), .int (nI it), .int ir, .int (nI il), .ref bN, .ref bS, .ref bC, .ref bB, .ref bR, .ref bO, .ref aU])), (ta, .inl (cA 1, 72, .inl tf)), (aN, .inl (cA 1, 40, .inl nf)), (aS, .inl (cA 0, 5, .inl sz)), (aC, .inl (cA 0, 5, .inl bc)), (aB, .inl (cA 0, 64, .inl bf))] := hD
            refine lv_aload_n hx hb d_Mo_piece_223 rfl (lv_at hl 3 rfl) ?_
            refine va_get (C := RX8) (T := TX8) (N := 43) hx hb hts inX8 hown hK hP 0 rfl rfl 0 (by decide) (hts _ m_845) (fun _ h9 => h9) rfl d_Mo_piece_224 ?_
            refine lv_if_ne (tgt := 239) hx hb d_Mo_piece_227 (by decide) (fun _ => ?_) (fun h9 => absurd h9 (by decide))
            refine lv_iconst (v := nI 0) hx hb d_Mo_piece_239 (by decide) ?_
            exact hret (nI 0) (nI 1, np, tot, nf, sz, bc, bf, NM, BS) _ _ _ 240 d_Mo_piece_240 (by first | exact ⟨cd_clear hc, hnc, hq9, htot, ht60, Or.inl ⟨rfl, pg_f hq1 (fun y z => hq38), rfl, rfl, rfl⟩⟩ | exact ⟨cd_clear hc, hnc, hq9, htot, ht60, Or.inl ⟨rfl, pg_f hq1 (fun y z => absurd y.1 (by omega)), rfl, rfl, rfl⟩⟩ | exact ⟨cd_clear hc, hnc, hq9, htot, ht60, Or.inl ⟨rfl, pg_f hq1 (fun y z => absurd (pc_len z) (by omega)), rfl, rfl, rfl⟩⟩ | exact ⟨cd_clear hc, hnc, hq9, htot, ht60, Or.inl ⟨rfl, pg_f hq1 (fun y z => absurd (nb_all hq26 z) (by omega)), rfl, rfl, rfl⟩⟩ | exact ⟨cd_clear hc, hnc, hq9, htot, ht60, Or.inr ⟨k1, hgo.1, hgo.2, hq38, Or.inl ⟨rfl, Or.inl (bz_1 h63), rfl, rfl, rfl⟩⟩⟩ | exact ⟨cd_clear hc, hnc, hq9, htot, ht60, Or.inr ⟨k1, hgo.1, hgo.2, hq38, Or.inl ⟨rfl, Or.inr (fun y => by omega), rfl, rfl, rfl⟩⟩⟩ | exact ⟨cd_clear hc, hnc, hq9, htot, ht60, Or.inr ⟨k1, hgo.1, hgo.2, hq38, Or.inl ⟨rfl, Or.inr (fun y => by have y2 := y.2; omega), rfl, rfl, rfl⟩⟩⟩) hP hD hS
          ·
            refine lv_if_ne (tgt := 48) hx hb d_Mo_piece_41 (by decide) (fun h9 => absurd h9 (by decide)) (fun _ => ?_)
            have hgo := pg_t hl0 hq1 (by omega) (by omega) (by omega) (h33 ▸ hq26)
            have hpl9 := pb_len hgo.2
            refine lv_iconst (v := nI 1) hx hb d_Mo_piece_44 (by decide) ?_
            refine lv_goto (tgt := 49) hx hb d_Mo_piece_45 (by decide) ?_
            refine lv_istore_n (lv' := [(3, .int (nI 1)), (2, .int (nI ((L.length - k1) - 1))), (1, .int (nI k1)), (0, .ref mo)]) hx hb d_Mo_piece_49 rfl hl (by decide) rfl (fun ls hl => ?_)
            refine lv_aload_n hx hb d_Mo_piece_50 rfl (lv_at hl 3 rfl) ?_
            refine lv_iload_n hx hb d_Mo_piece_51 rfl (lv_at hl 0 rfl) ?_
            refine lv_if_ne (tgt := 59) hx hb d_Mo_piece_52 (by decide) (fun _ => ?_) (fun h9 => absurd h9 (by decide))
            refine lv_aload_n hx hb d_Mo_piece_59 rfl (lv_at hl 3 rfl) ?_
            refine va_get (C := RX8) (T := TX8) (N := 43) hx hb hts inX8 hown hK hP 0 rfl rfl 9 (by decide) (hts _ m_854) (fun _ h9 => h9) rfl d_Mo_piece_60 ?_
            refine lv_if_ne (tgt := 85) hx hb d_Mo_piece_63 (by decide) ?_ ?_
            · intro h63
              refine lv_iconst (v := nI 2) hx hb d_Mo_piece_85 (by decide) ?_
              refine lv_goto (tgt := 90) hx hb d_Mo_piece_86 (by decide) ?_
              refine va_put (D := D) (ci := 8) (v := .int (nI 2)) (ty := .int) (C := RX8) (T := TX8) (N := 43) hx hb hts inX8 tyX8 tyX8_ok nmX8 hown hK hP hD hS 0 rfl rfl 0 (by decide) (hts _ m_845) (fun _ h9 => h9) rfl (by decide +kernel) rfl rfl (Nat.le_of_ble_eq_true rfl) d_Mo_piece_90 (fun H locs hP hD hS => ?_)
              have hP : va_P D vwCl [(mo, .inr (8, [.int (nI 2), .int (nI L.length), .ref ta, .int (nI np), .ref aN, .ref aS, .ref aC, .int (nI tot), .ref aB, .int (bz_c rd), .int (nI rt), .int (nI pl), .ref aR, .ref aO, .int (nI sg), .ref aW, .int (bz_c mp), .int (nI rn), .int (nI rs), .int (bz_c gd), .ref aD, .int (nI nh), .ref a1, .ref a2, .ref a3, .ref a4, .int (nI td), .ref aL, .int (nI J.length), .ref aY, .int (nI ms), .ref aM, .int (nI ip), .int (nI it), .int ir, .int (nI il), .ref bN, .ref bS, .ref bC, .ref bB, .ref bR, .ref bO, .ref aU])), (ta, .inl (cA 1, 72, .inl tf)), (aN, .inl (cA 1, 40, .inl nf)), (aS, .inl (cA 0, 5, .inl sz)), (aC, .inl (cA 0, 5, .inl bc)), (aB, .inl (cA 0, 64, .inl bf))] H := hP
              have hD : va_D A [(mo, .inr (8, [.int (nI 2), .int (nI L.length), .ref ta, .int (nI np), .ref aN, .ref aS, .ref aC, .int (nI tot), .ref aB, .int (bz_c rd), .int (nI rt), .int (nI pl), .ref aR, .ref aO, .int (nI sg), .ref aW, .int (bz_c mp), .int (nI rn), .int (nI rs), .int (bz_c gd), .ref aD, .int (nI nh), .ref a1, .ref a2, .ref a3, .ref a4, .int (nI td), .ref aL, .int (nI J.length), .ref aY, .int (nI ms), .ref aM, .int (nI ip), .int (nI it), .int ir, .int (nI il), .ref bN, .ref bS, .ref bC, .ref bB, .ref bR, .ref bO, .ref aU])), (ta, .inl (cA 1, 72, .inl tf)), (aN, .inl (cA 1, 40, .inl nf)), (aS, .inl (cA 0, 5, .inl sz)), (aC, .inl (cA 0, 5, .inl bc)), (aB, .inl (cA 0, 64, .inl bf))] := hD
              refine lv_aload_n hx hb d_Mo_piece_93 rfl (lv_at hl 3 rfl) ?_
              refine va_get (C := RX8) (T := TX8) (N := 43) hx hb hts inX8 hown hK hP 0 rfl rfl 0 (by decide) (hts _ m_845) (fun _ h9 => h9) rfl d_Mo_piece_94 ?_
              refine lv_if_ne (tgt := 218) hx hb d_Mo_piece_97 (by decide) (fun _ => ?_) (fun h9 => absurd h9 (by decide))
              refine lv_aload_n hx hb d_Mo_piece_218 rfl (lv_at hl 3 rfl) ?_
              refine lv_iconst (v := nI (([] : List Int32).length)) hx hb d_Mo_piece_219 rfl ?_
              refine va_put (D := D) (ci := 8) (v := .int (nI (([] : List Int32).length))) (ty := .int) (C := RX8) (T := TX8) (N := 43) hx hb hts inX8 tyX8 tyX8_ok nmX8 hown hK hP hD hS 0 rfl rfl 1 (by decide) (hts _ m_846) (fun _ h9 => h9) rfl (by decide +kernel) rfl rfl (Nat.le_of_ble_eq_true rfl) d_Mo_piece_220 (fun H locs hP hD hS => ?_)
              have hP : va_P D vwCl [(mo, .inr (8, [.int (nI 2), .int (nI (([] : List Int32).length)), .ref ta, .int (nI np), .ref aN, .ref aS, .ref aC, .int (nI tot), .ref aB, .int (bz_c rd), .int (nI rt), .int (nI pl), .ref aR, .ref aO, .int (nI sg), .ref aW, .int (bz_c mp), .int (nI rn), .int (nI rs), .int (bz_c gd), .ref aD, .int (nI nh), .ref a1, .ref a2, .ref a3, .ref a4, .int (nI td), .ref aL, .int (nI J.length), .ref aY, .int (nI ms), .ref aM, .int (nI ip), .int (nI it), .int ir, .int (nI il), .ref bN, .ref bS, .ref bC, .ref bB, .ref bR, .ref bO, .ref aU])), (ta, .inl (cA 1, 72, .inl tf)), (aN, .inl (cA 1, 40, .inl nf)), (aS, .inl (cA 0, 5, .inl sz)), (aC, .inl (cA 0, 5, .inl bc)), (aB, .inl (cA 0, 64, .inl bf))] H := hP
              have hD : va_D A [(mo, .inr (8, [.int (nI 2), .int (nI (([] : List Int32).length)), .ref ta, .int (nI np), .ref aN, .ref aS, .ref aC, .int (nI tot), .ref aB, .int (bz_c rd), .int (nI rt), .int (nI pl), .ref aR, .ref aO, .int (nI sg), .ref aW, .int (bz_c mp), .int (nI rn), .int (nI rs), .int (bz_c gd), .ref aD, .int (nI nh), .ref a1, .ref a2, .ref a3, .ref a4, .int (nI td), .ref aL, .int (nI J.length), .ref aY, .int (nI ms), .ref aM, .int (nI ip), .int (nI it), .int ir, .int (nI il), .ref bN, .ref bS, .ref bC, .ref bB, .ref bR, .ref bO, .ref aU])), (ta, .inl (cA 1, 72, .inl tf)), (aN, .inl (cA 1, 40, .inl nf)), (aS, .inl (cA 0, 5, .inl sz)), (aC, .inl (cA 0, 5, .inl bc)), (aB, .inl (cA 0, 64, .inl bf))] := hD
              refine lv_aload_n hx hb d_Mo_piece_223 rfl (lv_at hl 3 rfl) ?_
              refine va_get (C := RX8) (T := TX8) (N := 43) hx hb hts inX8 hown hK hP 0 rfl rfl 0 (by decide) (hts _ m_845) (fun _ h9 => h9) rfl d_Mo_piece_224 ?_
              refine lv_if_ne (tgt := 239) hx hb d_Mo_piece_227 (by decide) (fun _ => ?_) (fun h9 => absurd h9 (by decide))
              refine lv_iconst (v := nI 0) hx hb d_Mo_piece_239 (by decide) ?_
              exact hret (nI 0) (nI 2, np, tot, nf, sz, bc, bf, NM, BS) _ _ _ 240 d_Mo_piece_240 (by first | exact ⟨cd_clear hc, hnc, hq9, htot, ht60, Or.inl ⟨rfl, pg_f hq1 (fun y z => hq38), rfl, rfl, rfl⟩⟩ | exact ⟨cd_clear hc, hnc, hq9, htot, ht60, Or.inl ⟨rfl, pg_f hq1 (fun y z => absurd y.1 (by omega)), rfl, rfl, rfl⟩⟩ | exact ⟨cd_clear hc, hnc, hq9, htot, ht60, Or.inl ⟨rfl, pg_f hq1 (fun y z => absurd (pc_len z) (by omega)), rfl, rfl, rfl⟩⟩ | exact ⟨cd_clear hc, hnc, hq9, htot, ht60, Or.inl ⟨rfl, pg_f hq1 (fun y z => absurd (nb_all hq26 z) (by omega)), rfl, rfl, rfl⟩⟩ | exact ⟨cd_clear hc, hnc, hq9, htot, ht60, Or.inr ⟨k1, hgo.1, hgo.2, hq38, Or.inl ⟨rfl, Or.inl (bz_1 h63), rfl, rfl, rfl⟩⟩⟩ | exact ⟨cd_clear hc, hnc, hq9, htot, ht60, Or.inr ⟨k1, hgo.1, hgo.2, hq38, Or.inl ⟨rfl, Or.inr (fun y => by omega), rfl, rfl, rfl⟩⟩⟩ | exact ⟨cd_clear hc, hnc, hq9, htot, ht60, Or.inr ⟨k1, hgo.1, hgo.2, hq38, Or.inl ⟨rfl, Or.inr (fun y => by have y2 := y.2; omega), rfl, rfl, rfl⟩⟩⟩) hP hD hS
            · intro h63
              refine lv_aload_n hx hb d_Mo_piece_66 rfl (lv_at hl 3 rfl) ?_
              refine va_get (C := RX8) (T := TX8) (N := 43) hx hb hts inX8 hown hK hP 0 rfl rfl 3 (by decide) (hts _ m_848) (fun _ h9 => h9) rfl d_Mo_piece_67 ?_
              refine lv_iconst (v := nI 5) hx hb d_Mo_piece_70 (by decide) ?_
              refine wn_icmp_eq (by omega) (by omega) (tgt := 85) hx hb d_Mo_piece_71 (by decide) ?_ ?_
              · intro h71
                refine lv_iconst (v := nI 2) hx hb d_Mo_piece_85 (by decide) ?_
                refine lv_goto (tgt := 90) hx hb d_Mo_piece_86 (by decide) ?_
                refine va_put (D := D) (ci := 8) (v := .int (nI 2)) (ty := .int) (C := RX8) (T := TX8) (N := 43) hx hb hts inX8 tyX8 tyX8_ok nmX8 hown hK hP hD hS 0 rfl rfl 0 (by decide) (hts _ m_845) (fun _ h9 => h9) rfl (by decide +kernel) rfl rfl (Nat.le_of_ble_eq_true rfl) d_Mo_piece_90 (fun H locs hP hD hS => ?_)
                have hP : va_P D vwCl [(mo, .inr (8, [.int (nI 2), .int (nI L.length), .ref ta, .int (nI np), .ref aN, .ref aS, .ref aC, .int (nI tot), .ref aB, .int (bz_c rd), .int (nI rt), .int (nI pl), .ref aR, .ref aO, .int (nI sg), .ref aW, .int (bz_c mp), .int (nI rn), .int (nI rs), .int (bz_c gd), .ref aD, .int (nI nh), .ref a1, .ref a2, .ref a3, .ref a4, .int (nI td), .ref aL, .int (nI J.length), .ref aY, .int (nI ms), .ref aM, .int (nI ip), .int (nI it), .int ir, .int (nI il), .ref bN, .ref bS, .ref bC, .ref bB, .ref bR, .ref bO, .ref aU])), (ta, .inl (cA 1, 72, .inl tf)), (aN, .inl (cA 1, 40, .inl nf)), (aS, .inl (cA 0, 5, .inl sz)), (aC, .inl (cA 0, 5, .inl bc)), (aB, .inl (cA 0, 64, .inl bf))] H := hP
                have hD : va_D A [(mo, .inr (8, [.int (nI 2), .int (nI L.length), .ref ta, .int (nI np), .ref aN, .ref aS, .ref aC, .int (nI tot), .ref aB, .int (bz_c rd), .int (nI rt), .int (nI pl), .ref aR, .ref aO, .int (nI sg), .ref aW, .int (bz_c mp), .int (nI rn), .int (nI rs), .int (bz_c gd), .ref aD, .int (nI nh), .ref a1, .ref a2, .ref a3, .ref a4, .int (nI td), .ref aL, .int (nI J.length), .ref aY, .int (nI ms), .ref aM, .int (nI ip), .int (nI it), .int ir, .int (nI il), .ref bN, .ref bS, .ref bC, .ref bB, .ref bR, .ref bO, .ref aU])), (ta, .inl (cA 1, 72, .inl tf)), (aN, .inl (cA 1, 40, .inl nf)), (aS, .inl (cA 0, 5, .inl sz)), (aC, .inl (cA 0, 5, .inl bc)), (aB, .inl (cA 0, 64, .inl bf))] := hD
                refine lv_aload_n hx hb d_Mo_piece_93 rfl (lv_at hl 3 rfl) ?_
                refine va_get (C := RX8) (T := TX8) (N := 43) hx hb hts inX8 hown hK hP 0 rfl rfl 0 (by decide) (hts _ m_845) (fun _ h9 => h9) rfl d_Mo_piece_94 ?_
                refine lv_if_ne (tgt := 218) hx hb d_Mo_piece_97 (by decide) (fun _ => ?_) (fun h9 => absurd h9 (by decide))
                refine lv_aload_n hx hb d_Mo_piece_218 rfl (lv_at hl 3 rfl) ?_
                refine lv_iconst (v := nI (([] : List Int32).length)) hx hb d_Mo_piece_219 rfl ?_
                refine va_put (D := D) (ci := 8) (v := .int (nI (([] : List Int32).length))) (ty := .int) (C := RX8) (T := TX8) (N := 43) hx hb hts inX8 tyX8 tyX8_ok nmX8 hown hK hP hD hS 0 rfl rfl 1 (by decide) (hts _ m_846) (fun _ h9 => h9) rfl (by decide +kernel) rfl rfl (Nat.le_of_ble_eq_true rfl) d_Mo_piece_220 (fun H locs hP hD hS => ?_)
                have hP : va_P D vwCl [(mo, .inr (8, [.int (nI 2), .int (nI (([] : List Int32).length)), .ref ta, .int (nI np), .ref aN, .ref aS, .ref aC, .int (nI tot), .ref aB, .int (bz_c rd), .int (nI rt), .int (nI pl), .ref aR, .ref aO, .int (nI sg), .ref aW, .int (bz_c mp), .int (nI rn), .int (nI rs), .int (bz_c gd), .ref aD, .int (nI nh), .ref a1, .ref a2, .ref a3, .ref a4, .int (nI td), .ref aL, .int (nI J.length), .ref aY, .int (nI ms), .ref aM, .int (nI ip), .int (nI it), .int ir, .int (nI il), .ref bN, .ref bS, .ref bC, .ref bB, .ref bR, .ref bO, .ref aU])), (ta, .inl (cA 1, 72, .inl tf)), (aN, .inl (cA 1, 40, .inl nf)), (aS, .inl (cA 0, 5, .inl sz)), (aC, .inl (cA 0, 5, .inl bc)), (aB, .inl (cA 0, 64, .inl bf))] H := hP
                have hD : va_D A [(mo, .inr (8, [.int (nI 2), .int (nI (([] : List Int32).length)), .ref ta, .int (nI np), .ref aN, .ref aS, .ref aC, .int (nI tot), .ref aB, .int (bz_c rd), .int (nI rt), .int (nI pl), .ref aR, .ref aO, .int (nI sg), .ref aW, .int (bz_c mp), .int (nI rn), .int (nI rs), .int (bz_c gd), .ref aD, .int (nI nh), .ref a1, .ref a2, .ref a3, .ref a4, .int (nI td), .ref aL, .int (nI J.length), .ref aY, .int (nI ms), .ref aM, .int (nI ip), .int (nI it), .int ir, .int (nI il), .ref bN, .ref bS, .ref bC, .ref bB, .ref bR, .ref bO, .ref aU])), (ta, .inl (cA 1, 72, .inl tf)), (aN, .inl (cA 1, 40, .inl nf)), (aS, .inl (cA 0, 5, .inl sz)), (aC, .inl (cA 0, 5, .inl bc)), (aB, .inl (cA 0, 64, .inl bf))] := hD
                refine lv_aload_n hx hb d_Mo_piece_223 rfl (lv_at hl 3 rfl) ?_
                refine va_get (C := RX8) (T := TX8) (N := 43) hx hb hts inX8 hown hK hP 0 rfl rfl 0 (by decide) (hts _ m_845) (fun _ h9 => h9) rfl d_Mo_piece_224 ?_
                refine lv_if_ne (tgt := 239) hx hb d_Mo_piece_227 (by decide) (fun _ => ?_) (fun h9 => absurd h9 (by decide))
                refine lv_iconst (v := nI 0) hx hb d_Mo_piece_239 (by decide) ?_
                exact hret (nI 0) (nI 2, np, tot, nf, sz, bc, bf, NM, BS) _ _ _ 240 d_Mo_piece_240 (by first | exact ⟨cd_clear hc, hnc, hq9, htot, ht60, Or.inl ⟨rfl, pg_f hq1 (fun y z => hq38), rfl, rfl, rfl⟩⟩ | exact ⟨cd_clear hc, hnc, hq9, htot, ht60, Or.inl ⟨rfl, pg_f hq1 (fun y z => absurd y.1 (by omega)), rfl, rfl, rfl⟩⟩ | exact ⟨cd_clear hc, hnc, hq9, htot, ht60, Or.inl ⟨rfl, pg_f hq1 (fun y z => absurd (pc_len z) (by omega)), rfl, rfl, rfl⟩⟩ | exact ⟨cd_clear hc, hnc, hq9, htot, ht60, Or.inl ⟨rfl, pg_f hq1 (fun y z => absurd (nb_all hq26 z) (by omega)), rfl, rfl, rfl⟩⟩ | exact ⟨cd_clear hc, hnc, hq9, htot, ht60, Or.inr ⟨k1, hgo.1, hgo.2, hq38, Or.inl ⟨rfl, Or.inl (bz_1 h63), rfl, rfl, rfl⟩⟩⟩ | exact ⟨cd_clear hc, hnc, hq9, htot, ht60, Or.inr ⟨k1, hgo.1, hgo.2, hq38, Or.inl ⟨rfl, Or.inr (fun y => by omega), rfl, rfl, rfl⟩⟩⟩ | exact ⟨cd_clear hc, hnc, hq9, htot, ht60, Or.inr ⟨k1, hgo.1, hgo.2, hq38, Or.inl ⟨rfl, Or.inr (fun y => by have y2 := y.2; omega), rfl, rfl, rfl⟩⟩⟩) hP hD hS
              · intro h71
                refine lv_aload_n hx hb d_Mo_piece_74 rfl (lv_at hl 3 rfl) ?_
                refine va_get (C := RX8) (T := TX8) (N := 43) hx hb hts inX8 hown hK hP 0 rfl rfl 7 (by decide) (hts _ m_852) (fun _ h9 => h9) rfl d_Mo_piece_75 ?_
                refine lv_iload_n hx hb d_Mo_piece_78 rfl (lv_at hl 1 rfl) ?_
                refine wn_iadd hx hb d_Mo_piece_79 ?_
                refine lv_bipush (v := nI 60) hx hb d_Mo_piece_80 (by decide) ?_
                refine wn_icmp_le (by omega) (by omega) (tgt := 89) hx hb d_Mo_piece_82 (by decide) ?_ ?_
                · intro h82
                  refine lv_iconst (v := nI 0) hx hb d_Mo_piece_89 (by decide) ?_
                  refine va_put (D := D) (ci := 8) (v := .int (nI 0)) (ty := .int) (C := RX8) (T := TX8) (N := 43) hx hb hts inX8 tyX8 tyX8_ok nmX8 hown hK hP hD hS 0 rfl rfl 0 (by decide) (hts _ m_845) (fun _ h9 => h9) rfl (by decide +kernel) rfl rfl (Nat.le_of_ble_eq_true rfl) d_Mo_piece_90 (fun H locs hP hD hS => ?_)
                  have hP : va_P D vwCl [(mo, .inr (8, [.int (nI 0), .int (nI L.length), .ref ta, .int (nI np), .ref aN, .ref aS, .ref aC, .int (nI tot), .ref aB, .int (bz_c rd), .int (nI rt), .int (nI pl), .ref aR, .ref aO, .int (nI sg), .ref aW, .int (bz_c mp), .int (nI rn), .int (nI rs), .int (bz_c gd), .ref aD, .int (nI nh), .ref a1, .ref a2, .ref a3, .ref a4, .int (nI td), .ref aL, .int (nI J.length), .ref aY, .int (nI ms), .ref aM, .int (nI ip), .int (nI it), .int ir, .int (nI il), .ref bN, .ref bS, .ref bC, .ref bB, .ref bR, .ref bO, .ref aU])), (ta, .inl (cA 1, 72, .inl tf)), (aN, .inl (cA 1, 40, .inl nf)), (aS, .inl (cA 0, 5, .inl sz)), (aC, .inl (cA 0, 5, .inl bc)), (aB, .inl (cA 0, 64, .inl bf))] H := hP
                  have hD : va_D A [(mo, .inr (8, [.int (nI 0), .int (nI L.length), .ref ta, .int (nI np), .ref aN, .ref aS, .ref aC, .int (nI tot), .ref aB, .int (bz_c rd), .int (nI rt), .int (nI pl), .ref aR, .ref aO, .int (nI sg), .ref aW, .int (bz_c mp), .int (nI rn), .int (nI rs), .int (bz_c gd), .ref aD, .int (nI nh), .ref a1, .ref a2, .ref a3, .ref a4, .int (nI td), .ref aL, .int (nI J.length), .ref aY, .int (nI ms), .ref aM, .int (nI ip), .int (nI it), .int ir, .int (nI il), .ref bN, .ref bS, .ref bC, .ref bB, .ref bR, .ref bO, .ref aU])), (ta, .inl (cA 1, 72, .inl tf)), (aN, .inl (cA 1, 40, .inl nf)), (aS, .inl (cA 0, 5, .inl sz)), (aC, .inl (cA 0, 5, .inl bc)), (aB, .inl (cA 0, 64, .inl bf))] := hD
                  refine lv_aload_n hx hb d_Mo_piece_93 rfl (lv_at hl 3 rfl) ?_
                  refine va_get (C := RX8) (T := TX8) (N := 43) hx hb hts inX8 hown hK hP 0 rfl rfl 0 (by decide) (hts _ m_845) (fun _ h9 => h9) rfl d_Mo_piece_94 ?_
                  refine lv_if_ne (tgt := 218) hx hb d_Mo_piece_97 (by decide) (fun h9 => absurd h9 (by decide)) (fun _ => ?_)
                  refine lv_iconst (v := nI 0) hx hb d_Mo_piece_100 (by decide) ?_
                  refine lv_istore (lv' := [(4, .int (nI 0)), (3, .int (nI 1)), (2, .int (nI ((L.length - k1) - 1))), (1, .int (nI k1)), (0, .ref mo)]) hx hb d_Mo_piece_101 hl (by decide) rfl (fun ls hl => ?_)
                  have L103 : ∀ (nG : Nat) (i : Nat) (nf1 : Nat → Int32) (H : Heap) (locs : List Loc) (ls : Array Slot), k1 - i = nG → (i ≤ k1) → (∀ z, z < 8 * np → nf1 z = nf z) → (∀ j, j < i → nf1 (8 * np + j) = L.getD j 0) → (∀ z, z < 40 → ch_p (nf1 z)) →  va_P D vwCl [(mo, .inr (8, [.int (nI 0), .int (nI L.length), .ref ta, .int (nI np), .ref aN, .ref aS, .ref aC, .int (nI tot), .ref aB, .int (bz_c rd), .int (nI rt), .int (nI pl), .ref aR, .ref aO, .int (nI sg), .ref aW, .int (bz_c mp), .int (nI rn), .int (nI rs), .int (bz_c gd), .ref aD, .int (nI nh), .ref a1, .ref a2, .ref a3, .ref a4, .int (nI td), .ref aL, .int (nI J.length), .ref aY, .int (nI ms), .ref aM, .int (nI ip), .int (nI it), .int ir, .int (nI il), .ref bN, .ref bS, .ref bC, .ref bB, .ref bR, .ref bO, .ref aU])), (ta, .inl (cA 1, 72, .inl tf)), (aN, .inl (cA 1, 40, .inl nf1)), (aS, .inl (cA 0, 5, .inl sz)), (aC, .inl (cA 0, 5, .inl bc)), (aB, .inl (cA 0, 64, .inl bf))] H → va_D A [(mo, .inr (8, [.int (nI 0), .int (nI L.length), .ref ta, .int (nI np), .ref aN, .ref aS, .ref aC, .int (nI tot), .ref aB, .int (bz_c rd), .int (nI rt), .int (nI pl), .ref aR, .ref aO, .int (nI sg), .ref aW, .int (bz_c mp), .int (nI rn), .int (nI rs), .int (bz_c gd), .ref aD, .int (nI nh), .ref a1, .ref a2, .ref a3, .ref a4, .int (nI td), .ref aL, .int (nI J.length), .ref aY, .int (nI ms), .ref aM, .int (nI ip), .int (nI it), .int ir, .int (nI il), .ref bN, .ref bS, .ref bC, .ref bB, .ref bR, .ref bO, .ref aU])), (ta, .inl (cA 1, 72, .inl tf)), (aN, .inl (cA 1, 40, .inl nf1)), (aS, .inl (cA 0, 5, .inl sz)), (aC, .inl (cA 0, 5, .inl bc)), (aB, .inl (cA 0, 64, .inl bf))] → va_S A sG.heap H locs → lv_has ls 5 [(0, .ref mo), (1, .int (nI k1)), (2, .int (nI ((L.length - k1) - 1))), (4, .int (nI i))] → W pG l eG (rm_d 3) sG mG argsG belowG methG cG H locs 0 0 Q (F0 mG 103 ls []) := by
                    intro nG
                    induction nG using Nat.strongRecOn with
                    | ind nG ih103 =>
                      intro i nf1 H locs ls hn103 hi hn1 hn2 hn3 hP hD hS hl
                      refine lv_iload hx hb d_Mo_piece_103 (lv_at hl 3 rfl) ?_
                      refine lv_iload_n hx hb d_Mo_piece_105 rfl (lv_at hl 1 rfl) ?_
                      refine wn_icmp_ge (by omega) (by omega) (tgt := 137) hx hb d_Mo_piece_106 (by decide) ?_ ?_
                      · intro h106
                        refine lv_iconst (v := nI 0) hx hb d_Mo_piece_137 (by decide) ?_
                        refine lv_istore (lv' := [(4, .int (nI 0)), (0, .ref mo), (1, .int (nI k1)), (2, .int (nI ((L.length - k1) - 1)))]) hx hb d_Mo_piece_138 hl (by decide) rfl (fun ls hl => ?_)
                        have L140 : ∀ (nG : Nat) (i : Nat) (bf1 : Nat → Int32) (H : Heap) (locs : List Loc) (ls : Array Slot), (L.length - k1) - 1 - i = nG → (i ≤ (L.length - k1) - 1) → (∀ z, z < tot → bf1 z = bf z) → (∀ j, j < i → bf1 (tot + j) = sy_c (L.getD (k1 + 1 + j) 0)) →  va_P D vwCl [(mo, .inr (8, [.int (nI 0), .int (nI L.length), .ref ta, .int (nI np), .ref aN, .ref aS, .ref aC, .int (nI tot), .ref aB, .int (bz_c rd), .int (nI rt), .int (nI pl), .ref aR, .ref aO, .int (nI sg), .ref aW, .int (bz_c mp), .int (nI rn), .int (nI rs), .int (bz_c gd), .ref aD, .int (nI nh), .ref a1, .ref a2, .ref a3, .ref a4, .int (nI td), .ref aL, .int (nI J.length), .ref aY, .int (nI ms), .ref aM, .int (nI ip), .int (nI it), .int ir, .int (nI il), .ref bN, .ref bS, .ref bC, .ref bB, .ref bR, .ref bO, .ref aU])), (ta, .inl (cA 1, 72, .inl tf)), (aN, .inl (cA 1, 40, .inl nf1)), (aS, .inl (cA 0, 5, .inl sz)), (aC, .inl (cA 0, 5, .inl bc)), (aB, .inl (cA 0, 64, .inl bf1))] H → va_D A [(mo, .inr (8, [.int (nI 0), .int (nI L.length), .ref ta, .int (nI np), .ref aN, .ref aS, .ref aC, .int (nI tot), .ref aB, .int (bz_c rd), .int (nI rt), .int (nI pl), .ref aR, .ref aO, .int (nI sg), .ref aW, .int (bz_c mp), .int (nI rn), .int (nI rs), .int (bz_c gd), .ref aD, .int (nI nh), .ref a1, .ref a2, .ref a3, .ref a4, .int (nI td), .ref aL, .int (nI J.length), .ref aY, .int (nI ms), .ref aM, .int (nI ip), .int (nI it), .int ir, .int (nI il), .ref bN, .ref bS, .ref bC, .ref bB, .ref bR, .ref bO, .ref aU])), (ta, .inl (cA 1, 72, .inl tf)), (aN, .inl (cA 1, 40, .inl nf1)), (aS, .inl (cA 0, 5, .inl sz)), (aC, .inl (cA 0, 5, .inl bc)), (aB, .inl (cA 0, 64, .inl bf1))] → va_S A sG.heap H locs → lv_has ls 5 [(0, .ref mo), (1, .int (nI k1)), (2, .int (nI ((L.length - k1) - 1))), (4, .int (nI i))] → W pG l eG (rm_d 3) sG mG argsG belowG methG cG H locs 0 0 Q (F0 mG 140 ls []) := by
                          intro nG
                          induction nG using Nat.strongRecOn with
                          | ind nG ih140 =>
                            intro i bf1 H locs ls hn140 hi hb1 hb2 hP hD hS hl
                            refine lv_iload hx hb d_Mo_piece_140 (lv_at hl 3 rfl) ?_
                            refine lv_iload_n hx hb d_Mo_piece_142 rfl (lv_at hl 2 rfl) ?_
                            refine wn_icmp_ge (by omega) (by omega) (tgt := 178) hx hb d_Mo_piece_143 (by decide) ?_ ?_
                            · intro h143
                              refine lv_aload_n hx hb d_Mo_piece_178 rfl (lv_at hl 0 rfl) ?_
                              refine va_get (C := RX8) (T := TX8) (N := 43) hx hb hts inX8 hown hK hP 0 rfl rfl 5 (by decide) (hts _ m_850) (fun _ h9 => h9) rfl d_Mo_piece_179 ?_
                              refine lv_aload_n hx hb d_Mo_piece_182 rfl (lv_at hl 0 rfl) ?_
                              refine va_get (C := RX8) (T := TX8) (N := 43) hx hb hts inX8 hown hK hP 0 rfl rfl 3 (by decide) (hts _ m_848) (fun _ h9 => h9) rfl d_Mo_piece_183 ?_
                              refine lv_iload_n hx hb d_Mo_piece_186 rfl (lv_at hl 1 rfl) ?_
                              refine wn_iast hx hb hK hP hD hS 3 0 rfl rfl (by omega) (by omega) d_Mo_piece_187 (fun H locs hP hD hS => ?_)
                              have hP : va_P D vwCl [(mo, .inr (8, [.int (nI 0), .int (nI L.length), .ref ta, .int (nI np), .ref aN, .ref aS, .ref aC, .int (nI tot), .ref aB, .int (bz_c rd), .int (nI rt), .int (nI pl), .ref aR, .ref aO, .int (nI sg), .ref aW, .int (bz_c mp), .int (nI rn), .int (nI rs), .int (bz_c gd), .ref aD, .int (nI nh), .ref a1, .ref a2, .ref a3, .ref a4, .int (nI td), .ref aL, .int (nI J.length), .ref aY, .int (nI ms), .ref aM, .int (nI ip), .int (nI it), .int ir, .int (nI il), .ref bN, .ref bS, .ref bC, .ref bB, .ref bR, .ref bO, .ref aU])), (ta, .inl (cA 1, 72, .inl tf)), (aN, .inl (cA 1, 40, .inl nf1)), (aS, .inl (cA 0, 5, .inl (upd sz np (nI k1)))), (aC, .inl (cA 0, 5, .inl bc)), (aB, .inl (cA 0, 64, .inl bf1))] H := hP
                              have hD : va_D A [(mo, .inr (8, [.int (nI 0), .int (nI L.length), .ref ta, .int (nI np), .ref aN, .ref aS, .ref aC, .int (nI tot), .ref aB, .int (bz_c rd), .int (nI rt), .int (nI pl), .ref aR, .ref aO, .int (nI sg), .ref aW, .int (bz_c mp), .int (nI rn), .int (nI rs), .int (bz_c gd), .ref aD, .int (nI nh), .ref a1, .ref a2, .ref a3, .ref a4, .int (nI td), .ref aL, .int (nI J.length), .ref aY, .int (nI ms), .ref aM, .int (nI ip), .int (nI it), .int ir, .int (nI il), .ref bN, .ref bS, .ref bC, .ref bB, .ref bR, .ref bO, .ref aU])), (ta, .inl (cA 1, 72, .inl tf)), (aN, .inl (cA 1, 40, .inl nf1)), (aS, .inl (cA 0, 5, .inl (upd sz np (nI k1)))), (aC, .inl (cA 0, 5, .inl bc)), (aB, .inl (cA 0, 64, .inl bf1))] := hD
                              refine lv_aload_n hx hb d_Mo_piece_188 rfl (lv_at hl 0 rfl) ?_
                              refine va_get (C := RX8) (T := TX8) (N := 43) hx hb hts inX8 hown hK hP 0 rfl rfl 6 (by decide) (hts _ m_851) (fun _ h9 => h9) rfl d_Mo_piece_189 ?_
                              refine lv_aload_n hx hb d_Mo_piece_192 rfl (lv_at hl 0 rfl) ?_
                              refine va_get (C := RX8) (T := TX8) (N := 43) hx hb hts inX8 hown hK hP 0 rfl rfl 3 (by decide) (hts _ m_848) (fun _ h9 => h9) rfl d_Mo_piece_193 ?_
                              refine lv_iload_n hx hb d_Mo_piece_196 rfl (lv_at hl 2 rfl) ?_
                              refine wn_iast hx hb hK hP hD hS 4 0 rfl rfl (by omega) (by omega) d_Mo_piece_197 (fun H locs hP hD hS => ?_)
                              have hP : va_P D vwCl [(mo, .inr (8, [.int (nI 0), .int (nI L.length), .ref ta, .int (nI np), .ref aN, .ref aS, .ref aC, .int (nI tot), .ref aB, .int (bz_c rd), .int (nI rt), .int (nI pl), .ref aR, .ref aO, .int (nI sg), .ref aW, .int (bz_c mp), .int (nI rn), .int (nI rs), .int (bz_c gd), .ref aD, .int (nI nh), .ref a1, .ref a2, .ref a3, .ref a4, .int (nI td), .ref aL, .int (nI J.length), .ref aY, .int (nI ms), .ref aM, .int (nI ip), .int (nI it), .int ir, .int (nI il), .ref bN, .ref bS, .ref bC, .ref bB, .ref bR, .ref bO, .ref aU])), (ta, .inl (cA 1, 72, .inl tf)), (aN, .inl (cA 1, 40, .inl nf1)), (aS, .inl (cA 0, 5, .inl (upd sz np (nI k1)))), (aC, .inl (cA 0, 5, .inl (upd bc np (nI ((L.length - k1) - 1))))), (aB, .inl (cA 0, 64, .inl bf1))] H := hP
                              have hD : va_D A [(mo, .inr (8, [.int (nI 0), .int (nI L.length), .ref ta, .int (nI np), .ref aN, .ref aS, .ref aC, .int (nI tot), .ref aB, .int (bz_c rd), .int (nI rt), .int (nI pl), .ref aR, .ref aO, .int (nI sg), .ref aW, .int (bz_c mp), .int (nI rn), .int (nI rs), .int (bz_c gd), .ref aD, .int (nI nh), .ref a1, .ref a2, .ref a3, .ref a4, .int (nI td), .ref aL, .int (nI J.length), .ref aY, .int (nI ms), .ref aM, .int (nI ip), .int (nI it), .int ir, .int (nI il), .ref bN, .ref bS, .ref bC, .ref bB, .ref bR, .ref bO, .ref aU])), (ta, .inl (cA 1, 72, .inl tf)), (aN, .inl (cA 1, 40, .inl nf1)), (aS, .inl (cA 0, 5, .inl (upd sz np (nI k1)))), (aC, .inl (cA 0, 5, .inl (upd bc np (nI ((L.length - k1) - 1))))), (aB, .inl (cA 0, 64, .inl bf1))] := hD
                              refine lv_aload_n hx hb d_Mo_piece_198 rfl (lv_at hl 0 rfl) ?_
                              refine lv_aload_n hx hb d_Mo_piece_199 rfl (lv_at hl 0 rfl) ?_
                              refine va_get (C := RX8) (T := TX8) (N := 43) hx hb hts inX8 hown hK hP 0 rfl rfl 7 (by decide) (hts _ m_852) (fun _ h9 => h9) rfl d_Mo_piece_200 ?_
                              refine lv_iload_n hx hb d_Mo_piece_203 rfl (lv_at hl 2 rfl) ?_
                              refine wn_iadd hx hb d_Mo_piece_204 ?_
                              refine va_put (D := D) (ci := 8) (v := .int (nI (tot + ((L.length - k1) - 1)))) (ty := .int) (C := RX8) (T := TX8) (N := 43) hx hb hts inX8 tyX8 tyX8_ok nmX8 hown hK hP hD hS 0 rfl rfl 7 (by decide) (hts _ m_852) (fun _ h9 => h9) rfl (by decide +kernel) rfl rfl (Nat.le_of_ble_eq_true rfl) d_Mo_piece_205 (fun H locs hP hD hS => ?_)
                              have hP : va_P D vwCl [(mo, .inr (8, [.int (nI 0), .int (nI L.length), .ref ta, .int (nI np), .ref aN, .ref aS, .ref aC, .int (nI (tot + ((L.length - k1) - 1))), .ref aB, .int (bz_c rd), .int (nI rt), .int (nI pl), .ref aR, .ref aO, .int (nI sg), .ref aW, .int (bz_c mp), .int (nI rn), .int (nI rs), .int (bz_c gd), .ref aD, .int (nI nh), .ref a1, .ref a2, .ref a3, .ref a4, .int (nI td), .ref aL, .int (nI J.length), .ref aY, .int (nI ms), .ref aM, .int (nI ip), .int (nI it), .int ir, .int (nI il), .ref bN, .ref bS, .ref bC, .ref bB, .ref bR, .ref bO, .ref aU])), (ta, .inl (cA 1, 72, .inl tf)), (aN, .inl (cA 1, 40, .inl nf1)), (aS, .inl (cA 0, 5, .inl (upd sz np (nI k1)))), (aC, .inl (cA 0, 5, .inl (upd bc np (nI ((L.length - k1) - 1))))), (aB, .inl (cA 0, 64, .inl bf1))] H := hP
                              have hD : va_D A [(mo, .inr (8, [.int (nI 0), .int (nI L.length), .ref ta, .int (nI np), .ref aN, .ref aS, .ref aC, .int (nI (tot + ((L.length - k1) - 1))), .ref aB, .int (bz_c rd), .int (nI rt), .int (nI pl), .ref aR, .ref aO, .int (nI sg), .ref aW, .int (bz_c mp), .int (nI rn), .int (nI rs), .int (bz_c gd), .ref aD, .int (nI nh), .ref a1, .ref a2, .ref a3, .ref a4, .int (nI td), .ref aL, .int (nI J.length), .ref aY, .int (nI ms), .ref aM, .int (nI ip), .int (nI it), .int ir, .int (nI il), .ref bN, .ref bS, .ref bC, .ref bB, .ref bR, .ref bO, .ref aU])), (ta, .inl (cA 1, 72, .inl tf)), (aN, .inl (cA 1, 40, .inl nf1)), (aS, .inl (cA 0, 5, .inl (upd sz np (nI k1)))), (aC, .inl (cA 0, 5, .inl (upd bc np (nI ((L.length - k1) - 1))))), (aB, .inl (cA 0, 64, .inl bf1))] := hD
                              refine lv_aload_n hx hb d_Mo_piece_208 rfl (lv_at hl 0 rfl) ?_
                              refine lv_dup hx hb d_Mo_piece_209 rfl ?_
                              refine va_get (C := RX8) (T := TX8) (N := 43) hx hb hts inX8 hown hK hP 0 rfl rfl 3 (by decide) (hts _ m_848) (fun _ h9 => h9) rfl d_Mo_piece_210 ?_
                              refine lv_iconst (v := nI 1) hx hb d_Mo_piece_213 (by decide) ?_
                              refine wn_iadd hx hb d_Mo_piece_214 ?_
                              refine va_put (D := D) (ci := 8) (v := .int (nI (np + 1))) (ty := .int) (C := RX8) (T := TX8) (N := 43) hx hb hts inX8 tyX8 tyX8_ok nmX8 hown hK hP hD hS 0 rfl rfl 3 (by decide) (hts _ m_848) (fun _ h9 => h9) rfl (by decide +kernel) rfl rfl (Nat.le_of_ble_eq_true rfl) d_Mo_piece_215 (fun H locs hP hD hS => ?_)
                              have hP : va_P D vwCl [(mo, .inr (8, [.int (nI 0), .int (nI L.length), .ref ta, .int (nI (np + 1)), .ref aN, .ref aS, .ref aC, .int (nI (tot + ((L.length - k1) - 1))), .ref aB, .int (bz_c rd), .int (nI rt), .int (nI pl), .ref aR, .ref aO, .int (nI sg), .ref aW, .int (bz_c mp), .int (nI rn), .int (nI rs), .int (bz_c gd), .ref aD, .int (nI nh), .ref a1, .ref a2, .ref a3, .ref a4, .int (nI td), .ref aL, .int (nI J.length), .ref aY, .int (nI ms), .ref aM, .int (nI ip), .int (nI it), .int ir, .int (nI il), .ref bN, .ref bS, .ref bC, .ref bB, .ref bR, .ref bO, .ref aU])), (ta, .inl (cA 1, 72, .inl tf)), (aN, .inl (cA 1, 40, .inl nf1)), (aS, .inl (cA 0, 5, .inl (upd sz np (nI k1)))), (aC, .inl (cA 0, 5, .inl (upd bc np (nI ((L.length - k1) - 1))))), (aB, .inl (cA 0, 64, .inl bf1))] H := hP
                              have hD : va_D A [(mo, .inr (8, [.int (nI 0), .int (nI L.length), .ref ta, .int (nI (np + 1)), .ref aN, .ref aS, .ref aC, .int (nI (tot + ((L.length - k1) - 1))), .ref aB, .int (bz_c rd), .int (nI rt), .int (nI pl), .ref aR, .ref aO, .int (nI sg), .ref aW, .int (bz_c mp), .int (nI rn), .int (nI rs), .int (bz_c gd), .ref aD, .int (nI nh), .ref a1, .ref a2, .ref a3, .ref a4, .int (nI td), .ref aL, .int (nI J.length), .ref aY, .int (nI ms), .ref aM, .int (nI ip), .int (nI it), .int ir, .int (nI il), .ref bN, .ref bS, .ref bC, .ref bB, .ref bR, .ref bO, .ref aU])), (ta, .inl (cA 1, 72, .inl tf)), (aN, .inl (cA 1, 40, .inl nf1)), (aS, .inl (cA 0, 5, .inl (upd sz np (nI k1)))), (aC, .inl (cA 0, 5, .inl (upd bc np (nI ((L.length - k1) - 1))))), (aB, .inl (cA 0, 64, .inl bf1))] := hD
                              refine lv_aload_n hx hb d_Mo_piece_218 rfl (lv_at hl 0 rfl) ?_
                              refine lv_iconst (v := nI (([] : List Int32).length)) hx hb d_Mo_piece_219 rfl ?_
                              refine va_put (D := D) (ci := 8) (v := .int (nI (([] : List Int32).length))) (ty := .int) (C := RX8) (T := TX8) (N := 43) hx hb hts inX8 tyX8 tyX8_ok nmX8 hown hK hP hD hS 0 rfl rfl 1 (by decide) (hts _ m_846) (fun _ h9 => h9) rfl (by decide +kernel) rfl rfl (Nat.le_of_ble_eq_true rfl) d_Mo_piece_220 (fun H locs hP hD hS => ?_)
                              have hP : va_P D vwCl [(mo, .inr (8, [.int (nI 0), .int (nI (([] : List Int32).length)), .ref ta, .int (nI (np + 1)), .ref aN, .ref aS, .ref aC, .int (nI (tot + ((L.length - k1) - 1))), .ref aB, .int (bz_c rd), .int (nI rt), .int (nI pl), .ref aR, .ref aO, .int (nI sg), .ref aW, .int (bz_c mp), .int (nI rn), .int (nI rs), .int (bz_c gd), .ref aD, .int (nI nh), .ref a1, .ref a2, .ref a3, .ref a4, .int (nI td), .ref aL, .int (nI J.length), .ref aY, .int (nI ms), .ref aM, .int (nI ip), .int (nI it), .int ir, .int (nI il), .ref bN, .ref bS, .ref bC, .ref bB, .ref bR, .ref bO, .ref aU])), (ta, .inl (cA 1, 72, .inl tf)), (aN, .inl (cA 1, 40, .inl nf1)), (aS, .inl (cA 0, 5, .inl (upd sz np (nI k1)))), (aC, .inl (cA 0, 5, .inl (upd bc np (nI ((L.length - k1) - 1))))), (aB, .inl (cA 0, 64, .inl bf1))] H := hP
                              have hD : va_D A [(mo, .inr (8, [.int (nI 0), .int (nI (([] : List Int32).length)), .ref ta, .int (nI (np + 1)), .ref aN, .ref aS, .ref aC, .int (nI (tot + ((L.length - k1) - 1))), .ref aB, .int (bz_c rd), .int (nI rt), .int (nI pl), .ref aR, .ref aO, .int (nI sg), .ref aW, .int (bz_c mp), .int (nI rn), .int (nI rs), .int (bz_c gd), .ref aD, .int (nI nh), .ref a1, .ref a2, .ref a3, .ref a4, .int (nI td), .ref aL, .int (nI J.length), .ref aY, .int (nI ms), .ref aM, .int (nI ip), .int (nI it), .int ir, .int (nI il), .ref bN, .ref bS, .ref bC, .ref bB, .ref bR, .ref bO, .ref aU])), (ta, .inl (cA 1, 72, .inl tf)), (aN, .inl (cA 1, 40, .inl nf1)), (aS, .inl (cA 0, 5, .inl (upd sz np (nI k1)))), (aC, .inl (cA 0, 5, .inl (upd bc np (nI ((L.length - k1) - 1))))), (aB, .inl (cA 0, 64, .inl bf1))] := hD
                              refine lv_aload_n hx hb d_Mo_piece_223 rfl (lv_at hl 0 rfl) ?_
                              refine va_get (C := RX8) (T := TX8) (N := 43) hx hb hts inX8 hown hK hP 0 rfl rfl 0 (by decide) (hts _ m_845) (fun _ h9 => h9) rfl d_Mo_piece_224 ?_
                              refine lv_if_ne (tgt := 239) hx hb d_Mo_piece_227 (by decide) (fun h9 => absurd h9 (by decide)) (fun _ => ?_)
                              refine lv_aload_n hx hb d_Mo_piece_230 rfl (lv_at hl 0 rfl) ?_
                              refine va_get (C := RX8) (T := TX8) (N := 43) hx hb hts inX8 hown hK hP 0 rfl rfl 3 (by decide) (hts _ m_848) (fun _ h9 => h9) rfl d_Mo_piece_231 ?_
                              refine lv_iconst (v := nI 1) hx hb d_Mo_piece_234 (by decide) ?_
                              refine wn_isub (by omega) hx hb d_Mo_piece_235 ?_
                              refine lv_goto (tgt := 240) hx hb d_Mo_piece_236 (by decide) ?_
                              exact hret (nI ((np + 1) - 1)) (nI 0, np + 1, tot + ((L.length - k1) - 1), nf1, upd sz np (nI k1), upd bc np (nI ((L.length - k1) - 1)), bf1, va_up NM np (sl_p L 0 k1), va_up BS np (pb_c L k1)) _ _ _ 240 d_Mo_piece_240 (by obtain ⟨hr1, hr2⟩ := rq_add hq9 htot (show k1 ≤ 8 by omega) (show k1 ≤ L.length by omega) hpl9 hn1 (fun j hj => hn2 j (by omega)) hb1 (fun j hj => hb2 j (by omega)); exact ⟨cd_clear hc, hn3, hr1, hr2, by omega, Or.inr ⟨k1, hgo.1, hgo.2, hq38, Or.inr ⟨rfl, bz_0 h63, ⟨by omega, by omega⟩, by rw [Nat.add_sub_cancel], rfl, rfl, rfl⟩⟩⟩) hP hD hS
                            · intro h143
                              refine lv_aload_n hx hb d_Mo_piece_146 rfl (lv_at hl 0 rfl) ?_
                              refine va_get (C := RX8) (T := TX8) (N := 43) hx hb hts inX8 hown hK hP 0 rfl rfl 8 (by decide) (hts _ m_853) (fun _ h9 => h9) rfl d_Mo_piece_147 ?_
                              refine lv_aload_n hx hb d_Mo_piece_150 rfl (lv_at hl 0 rfl) ?_
                              refine va_get (C := RX8) (T := TX8) (N := 43) hx hb hts inX8 hown hK hP 0 rfl rfl 7 (by decide) (hts _ m_852) (fun _ h9 => h9) rfl d_Mo_piece_151 ?_
                              refine lv_iload hx hb d_Mo_piece_154 (lv_at hl 3 rfl) ?_
                              refine wn_iadd hx hb d_Mo_piece_156 ?_
                              refine lv_aload_n hx hb d_Mo_piece_157 rfl (lv_at hl 0 rfl) ?_
                              refine va_get (C := RX8) (T := TX8) (N := 43) hx hb hts inX8 hown hK hP 0 rfl rfl 2 (by decide) (hts _ m_847) (fun _ h9 => h9) rfl d_Mo_piece_158 ?_
                              refine lv_iload_n hx hb d_Mo_piece_161 rfl (lv_at hl 1 rfl) ?_
                              refine lv_iconst (v := nI 1) hx hb d_Mo_piece_162 (by decide) ?_
                              refine wn_iadd hx hb d_Mo_piece_163 ?_
                              refine lv_iload hx hb d_Mo_piece_164 (lv_at hl 3 rfl) ?_
                              refine wn_iadd hx hb d_Mo_piece_166 ?_
                              refine wn_cald hx hb hK hP 1 1 rfl rfl (by omega) (by omega) d_Mo_piece_167 ?_
                              refine wn_eq (y := L.getD (k1 + 1 + i) 0) (hc.2.2 (k1 + 1 + i) (by omega)) ?_
                              refine ck_cS (rest := [.int (nI (tot + i)), .ref aB]) (wr := [(mo, .inr (8, [.int (nI 0), .int (nI L.length), .ref ta, .int (nI np), .ref aN, .ref aS, .ref aC, .int (nI tot), .ref aB, .int (bz_c rd), .int (nI rt), .int (nI pl), .ref aR, .ref aO, .int (nI sg), .ref aW, .int (bz_c mp), .int (nI rn), .int (nI rs), .int (bz_c gd), .ref aD, .int (nI nh), .ref a1, .ref a2, .ref a3, .ref a4, .int (nI td), .ref aL, .int (nI J.length), .ref aY, .int (nI ms), .ref aM, .int (nI ip), .int (nI it), .int ir, .int (nI il), .ref bN, .ref bS, .ref bC, .ref bB, .ref bR, .ref bO, .ref aU])), (ta, .inl (cA 1, 72, .inl tf)), (aN, .inl (cA 1, 40, .inl nf1)), (aS, .inl (cA 0, 5, .inl sz)), (aC, .inl (cA 0, 5, .inl bc)), (aB, .inl (cA 0, 64, .inl bf1))]) (ws2 := fun u => [(mo, .inr (8, [.int (nI 0), .int (nI L.length), .ref ta, .int (nI np), .ref aN, .ref aS, .ref aC, .int (nI tot), .ref aB, .int (bz_c rd), .int (nI rt), .int (nI pl), .ref aR, .ref aO, .int (nI sg), .ref aW, .int (bz_c mp), .int (nI rn), .int (nI rs), .int (bz_c gd), .ref aD, .int (nI nh), .ref a1, .ref a2, .ref a3, .ref a4, .int (nI td), .ref aL, .int (nI J.length), .ref aY, .int (nI ms), .ref aM, .int (nI ip), .int (nI it), .int ir, .int (nI il), .ref bN, .ref bS, .ref bC, .ref bB, .ref bR, .ref bO, .ref aU])), (ta, .inl (cA 1, 72, .inl tf)), (aN, .inl (cA 1, 40, .inl nf1)), (aS, .inl (cA 0, 5, .inl sz)), (aC, .inl (cA 0, 5, .inl bc)), (aB, .inl (cA 0, 64, .inl bf1))]) (c_Mo_symbol l D cA K (L.getD (k1 + 1 + i) 0) ) hx hb hml hown hts hK hE hA hP hD hS k_Mo_symbol m_1000 (by decide) rfl hl.1 rfl (Nat.le_of_ble_eq_true rfl) d_Mo_piece_168 [] [0, 1, 2, 3, 4, 5] [0, 1, 2, 3, 4, 5] rfl rfl (by decide) (fun _ => rfl) (fun r168 u168 H locs hq168 hP hD hS => ?_)
                              try dsimp only at hq168
                              have hP : va_P D vwCl [(mo, .inr (8, [.int (nI 0), .int (nI L.length), .ref ta, .int (nI np), .ref aN, .ref aS, .ref aC, .int (nI tot), .ref aB, .int (bz_c rd), .int (nI rt), .int (nI pl), .ref aR, .ref aO, .int (nI sg), .ref aW, .int (bz_c mp), .int (nI rn), .int (nI rs), .int (bz_c gd), .ref aD, .int (nI nh), .ref a1, .ref a2, .ref a3, .ref a4, .int (nI td), .ref aL, .int (nI J.length), .ref aY, .int (nI ms), .ref aM, .int (nI ip), .int (nI it), .int ir, .int (nI il), .ref bN, .ref bS, .ref bC, .ref bB, .ref bR, .ref bO, .ref aU])), (ta, .inl (cA 1, 72, .inl tf)), (aN, .inl (cA 1, 40, .inl nf1)), (aS, .inl (cA 0, 5, .inl sz)), (aC, .inl (cA 0, 5, .inl bc)), (aB, .inl (cA 0, 64, .inl bf1))] H := hP
                              have hD : va_D A [(mo, .inr (8, [.int (nI 0), .int (nI L.length), .ref ta, .int (nI np), .ref aN, .ref aS, .ref aC, .int (nI tot), .ref aB, .int (bz_c rd), .int (nI rt), .int (nI pl), .ref aR, .ref aO, .int (nI sg), .ref aW, .int (bz_c mp), .int (nI rn), .int (nI rs), .int (bz_c gd), .ref aD, .int (nI nh), .ref a1, .ref a2, .ref a3, .ref a4, .int (nI td), .ref aL, .int (nI J.length), .ref aY, .int (nI ms), .ref aM, .int (nI ip), .int (nI it), .int ir, .int (nI il), .ref bN, .ref bS, .ref bC, .ref bB, .ref bR, .ref bO, .ref aU])), (ta, .inl (cA 1, 72, .inl tf)), (aN, .inl (cA 1, 40, .inl nf1)), (aS, .inl (cA 0, 5, .inl sz)), (aC, .inl (cA 0, 5, .inl bc)), (aB, .inl (cA 0, 64, .inl bf1))] := hD
                              subst r168
                              refine wn_iast hx hb hK hP hD hS 5 0 rfl rfl (by omega) (by omega) d_Mo_piece_171 (fun H locs hP hD hS => ?_)
                              have hP : va_P D vwCl [(mo, .inr (8, [.int (nI 0), .int (nI L.length), .ref ta, .int (nI np), .ref aN, .ref aS, .ref aC, .int (nI tot), .ref aB, .int (bz_c rd), .int (nI rt), .int (nI pl), .ref aR, .ref aO, .int (nI sg), .ref aW, .int (bz_c mp), .int (nI rn), .int (nI rs), .int (bz_c gd), .ref aD, .int (nI nh), .ref a1, .ref a2, .ref a3, .ref a4, .int (nI td), .ref aL, .int (nI J.length), .ref aY, .int (nI ms), .ref aM, .int (nI ip), .int (nI it), .int ir, .int (nI il), .ref bN, .ref bS, .ref bC, .ref bB, .ref bR, .ref bO, .ref aU])), (ta, .inl (cA 1, 72, .inl tf)), (aN, .inl (cA 1, 40, .inl nf1)), (aS, .inl (cA 0, 5, .inl sz)), (aC, .inl (cA 0, 5, .inl bc)), (aB, .inl (cA 0, 64, .inl (upd bf1 (tot + i) (sy_c (L.getD (k1 + 1 + i) 0)))))] H := hP
                              have hD : va_D A [(mo, .inr (8, [.int (nI 0), .int (nI L.length), .ref ta, .int (nI np), .ref aN, .ref aS, .ref aC, .int (nI tot), .ref aB, .int (bz_c rd), .int (nI rt), .int (nI pl), .ref aR, .ref aO, .int (nI sg), .ref aW, .int (bz_c mp), .int (nI rn), .int (nI rs), .int (bz_c gd), .ref aD, .int (nI nh), .ref a1, .ref a2, .ref a3, .ref a4, .int (nI td), .ref aL, .int (nI J.length), .ref aY, .int (nI ms), .ref aM, .int (nI ip), .int (nI it), .int ir, .int (nI il), .ref bN, .ref bS, .ref bC, .ref bB, .ref bR, .ref bO, .ref aU])), (ta, .inl (cA 1, 72, .inl tf)), (aN, .inl (cA 1, 40, .inl nf1)), (aS, .inl (cA 0, 5, .inl sz)), (aC, .inl (cA 0, 5, .inl bc)), (aB, .inl (cA 0, 64, .inl (upd bf1 (tot + i) (sy_c (L.getD (k1 + 1 + i) 0)))))] := hD
                              refine lv_iinc (k := 3) (v := nI (i + 1)) (lv' := [(4, .int (nI (i + 1))), (0, .ref mo), (1, .int (nI k1)), (2, .int (nI ((L.length - k1) - 1)))]) hx hb d_Mo_piece_172 hl rfl (wi_inc1 _) (by decide) rfl (fun ls hl => ?_)
                              refine lv_goto (tgt := 140) hx hb d_Mo_piece_175 (by decide) ?_
                              exact ih140 _ (by omega) (i + 1) (upd bf1 (tot + i) (sy_c (L.getD (k1 + 1 + i) 0))) _ _ _ rfl (by first | assumption | omega) (up_b (by omega) hb1) (up_o hb2) hP hD hS (lv_sub hl [1, 2, 3, 0] rfl)
                        exact L140 _ 0 bf _ _ _ rfl (by first | assumption | omega) (fun _ _ => rfl) (fun j hj => absurd hj (Nat.not_lt_zero j)) hP hD hS (lv_sub hl [1, 2, 3, 0] rfl)
                      · intro h106
                        refine lv_aload_n hx hb d_Mo_piece_109 rfl (lv_at hl 0 rfl) ?_
                        refine va_get (C := RX8) (T := TX8) (N := 43) hx hb hts inX8 hown hK hP 0 rfl rfl 4 (by decide) (hts _ m_849) (fun _ h9 => h9) rfl d_Mo_piece_110 ?_
                        refine lv_bipush (v := nI 8) hx hb d_Mo_piece_113 (by decide) ?_
                        refine lv_aload_n hx hb d_Mo_piece_115 rfl (lv_at hl 0 rfl) ?_
                        refine va_get (C := RX8) (T := TX8) (N := 43) hx hb hts inX8 hown hK hP 0 rfl rfl 3 (by decide) (hts _ m_848) (fun _ h9 => h9) rfl d_Mo_piece_116 ?_
                        refine wn_imul hx hb d_Mo_piece_119 ?_
                        refine lv_iload hx hb d_Mo_piece_120 (lv_at hl 3 rfl) ?_
                        refine wn_iadd hx hb d_Mo_piece_122 ?_
                        refine lv_aload_n hx hb d_Mo_piece_123 rfl (lv_at hl 0 rfl) ?_
                        refine va_get (C := RX8) (T := TX8) (N := 43) hx hb hts inX8 hown hK hP 0 rfl rfl 2 (by decide) (hts _ m_847) (fun _ h9 => h9) rfl d_Mo_piece_124 ?_
                        refine lv_iload hx hb d_Mo_piece_127 (lv_at hl 3 rfl) ?_
                        refine wn_cald hx hb hK hP 1 1 rfl rfl (by omega) (by omega) d_Mo_piece_129 ?_
                        refine wn_eq (y := L.getD i 0) (hc.2.2 i (by omega)) ?_
                        refine wn_cast hx hb hK hP hD hS 2 1 rfl rfl (by omega) (by omega) (ch_f (htx i (by omega))) d_Mo_piece_130 (fun H locs hP hD hS => ?_)
                        have hP : va_P D vwCl [(mo, .inr (8, [.int (nI 0), .int (nI L.length), .ref ta, .int (nI np), .ref aN, .ref aS, .ref aC, .int (nI tot), .ref aB, .int (bz_c rd), .int (nI rt), .int (nI pl), .ref aR, .ref aO, .int (nI sg), .ref aW, .int (bz_c mp), .int (nI rn), .int (nI rs), .int (bz_c gd), .ref aD, .int (nI nh), .ref a1, .ref a2, .ref a3, .ref a4, .int (nI td), .ref aL, .int (nI J.length), .ref aY, .int (nI ms), .ref aM, .int (nI ip), .int (nI it), .int ir, .int (nI il), .ref bN, .ref bS, .ref bC, .ref bB, .ref bR, .ref bO, .ref aU])), (ta, .inl (cA 1, 72, .inl tf)), (aN, .inl (cA 1, 40, .inl (upd nf1 ((8 * np) + i) (L.getD i 0)))), (aS, .inl (cA 0, 5, .inl sz)), (aC, .inl (cA 0, 5, .inl bc)), (aB, .inl (cA 0, 64, .inl bf))] H := hP
                        have hD : va_D A [(mo, .inr (8, [.int (nI 0), .int (nI L.length), .ref ta, .int (nI np), .ref aN, .ref aS, .ref aC, .int (nI tot), .ref aB, .int (bz_c rd), .int (nI rt), .int (nI pl), .ref aR, .ref aO, .int (nI sg), .ref aW, .int (bz_c mp), .int (nI rn), .int (nI rs), .int (bz_c gd), .ref aD, .int (nI nh), .ref a1, .ref a2, .ref a3, .ref a4, .int (nI td), .ref aL, .int (nI J.length), .ref aY, .int (nI ms), .ref aM, .int (nI ip), .int (nI it), .int ir, .int (nI il), .ref bN, .ref bS, .ref bC, .ref bB, .ref bR, .ref bO, .ref aU])), (ta, .inl (cA 1, 72, .inl tf)), (aN, .inl (cA 1, 40, .inl (upd nf1 ((8 * np) + i) (L.getD i 0)))), (aS, .inl (cA 0, 5, .inl sz)), (aC, .inl (cA 0, 5, .inl bc)), (aB, .inl (cA 0, 64, .inl bf))] := hD
                        refine lv_iinc (k := 3) (v := nI (i + 1)) (lv' := [(4, .int (nI (i + 1))), (0, .ref mo), (1, .int (nI k1)), (2, .int (nI ((L.length - k1) - 1)))]) hx hb d_Mo_piece_131 hl rfl (wi_inc1 _) (by decide) rfl (fun ls hl => ?_)
                        refine lv_goto (tgt := 103) hx hb d_Mo_piece_134 (by decide) ?_
                        exact ih103 _ (by omega) (i + 1) (upd nf1 ((8 * np) + i) (L.getD i 0)) _ _ _ rfl (by first | assumption | omega) (up_b (by omega) hn1) (up_o hn2) (up_c hn3 (htx i (by omega))) hP hD hS (lv_sub hl [1, 2, 3, 0] rfl)
                  exact L103 _ 0 nf _ _ _ rfl (by first | assumption | omega) (fun _ _ => rfl) (fun j hj => absurd hj (Nat.not_lt_zero j)) (by first | assumption | omega) hP hD hS (lv_sub hl [4, 3, 2, 0] rfl)
                · intro h82
                  refine lv_iconst (v := nI 2) hx hb d_Mo_piece_85 (by decide) ?_
                  refine lv_goto (tgt := 90) hx hb d_Mo_piece_86 (by decide) ?_
                  refine va_put (D := D) (ci := 8) (v := .int (nI 2)) (ty := .int) (C := RX8) (T := TX8) (N := 43) hx hb hts inX8 tyX8 tyX8_ok nmX8 hown hK hP hD hS 0 rfl rfl 0 (by decide) (hts _ m_845) (fun _ h9 => h9) rfl (by decide +kernel) rfl rfl (Nat.le_of_ble_eq_true rfl) d_Mo_piece_90 (fun H locs hP hD hS => ?_)
                  have hP : va_P D vwCl [(mo, .inr (8, [.int (nI 2), .int (nI L.length), .ref ta, .int (nI np), .ref aN, .ref aS, .ref aC, .int (nI tot), .ref aB, .int (bz_c rd), .int (nI rt), .int (nI pl), .ref aR, .ref aO, .int (nI sg), .ref aW, .int (bz_c mp), .int (nI rn), .int (nI rs), .int (bz_c gd), .ref aD, .int (nI nh), .ref a1, .ref a2, .ref a3, .ref a4, .int (nI td), .ref aL, .int (nI J.length), .ref aY, .int (nI ms), .ref aM, .int (nI ip), .int (nI it), .int ir, .int (nI il), .ref bN, .ref bS, .ref bC, .ref bB, .ref bR, .ref bO, .ref aU])), (ta, .inl (cA 1, 72, .inl tf)), (aN, .inl (cA 1, 40, .inl nf)), (aS, .inl (cA 0, 5, .inl sz)), (aC, .inl (cA 0, 5, .inl bc)), (aB, .inl (cA 0, 64, .inl bf))] H := hP
                  have hD : va_D A [(mo, .inr (8, [.int (nI 2), .int (nI L.length), .ref ta, .int (nI np), .ref aN, .ref aS, .ref aC, .int (nI tot), .ref aB, .int (bz_c rd), .int (nI rt), .int (nI pl), .ref aR, .ref aO, .int (nI sg), .ref aW, .int (bz_c mp), .int (nI rn), .int (nI rs), .int (bz_c gd), .ref aD, .int (nI nh), .ref a1, .ref a2, .ref a3, .ref a4, .int (nI td), .ref aL, .int (nI J.length), .ref aY, .int (nI ms), .ref aM, .int (nI ip), .int (nI it), .int ir, .int (nI il), .ref bN, .ref bS, .ref bC, .ref bB, .ref bR, .ref bO, .ref aU])), (ta, .inl (cA 1, 72, .inl tf)), (aN, .inl (cA 1, 40, .inl nf)), (aS, .inl (cA 0, 5, .inl sz)), (aC, .inl (cA 0, 5, .inl bc)), (aB, .inl (cA 0, 64, .inl bf))] := hD
                  refine lv_aload_n hx hb d_Mo_piece_93 rfl (lv_at hl 3 rfl) ?_
                  refine va_get (C := RX8) (T := TX8) (N := 43) hx hb hts inX8 hown hK hP 0 rfl rfl 0 (by decide) (hts _ m_845) (fun _ h9 => h9) rfl d_Mo_piece_94 ?_
                  refine lv_if_ne (tgt := 218) hx hb d_Mo_piece_97 (by decide) (fun _ => ?_) (fun h9 => absurd h9 (by decide))
                  refine lv_aload_n hx hb d_Mo_piece_218 rfl (lv_at hl 3 rfl) ?_
                  refine lv_iconst (v := nI (([] : List Int32).length)) hx hb d_Mo_piece_219 rfl ?_
                  refine va_put (D := D) (ci := 8) (v := .int (nI (([] : List Int32).length))) (ty := .int) (C := RX8) (T := TX8) (N := 43) hx hb hts inX8 tyX8 tyX8_ok nmX8 hown hK hP hD hS 0 rfl rfl 1 (by decide) (hts _ m_846) (fun _ h9 => h9) rfl (by decide +kernel) rfl rfl (Nat.le_of_ble_eq_true rfl) d_Mo_piece_220 (fun H locs hP hD hS => ?_)
                  have hP : va_P D vwCl [(mo, .inr (8, [.int (nI 2), .int (nI (([] : List Int32).length)), .ref ta, .int (nI np), .ref aN, .ref aS, .ref aC, .int (nI tot), .ref aB, .int (bz_c rd), .int (nI rt), .int (nI pl), .ref aR, .ref aO, .int (nI sg), .ref aW, .int (bz_c mp), .int (nI rn), .int (nI rs), .int (bz_c gd), .ref aD, .int (nI nh), .ref a1, .ref a2, .ref a3, .ref a4, .int (nI td), .ref aL, .int (nI J.length), .ref aY, .int (nI ms), .ref aM, .int (nI ip), .int (nI it), .int ir, .int (nI il), .ref bN, .ref bS, .ref bC, .ref bB, .ref bR, .ref bO, .ref aU])), (ta, .inl (cA 1, 72, .inl tf)), (aN, .inl (cA 1, 40, .inl nf)), (aS, .inl (cA 0, 5, .inl sz)), (aC, .inl (cA 0, 5, .inl bc)), (aB, .inl (cA 0, 64, .inl bf))] H := hP
                  have hD : va_D A [(mo, .inr (8, [.int (nI 2), .int (nI (([] : List Int32).length)), .ref ta, .int (nI np), .ref aN, .ref aS, .ref aC, .int (nI tot), .ref aB, .int (bz_c rd), .int (nI rt), .int (nI pl), .ref aR, .ref aO, .int (nI sg), .ref aW, .int (bz_c mp), .int (nI rn), .int (nI rs), .int (bz_c gd), .ref aD, .int (nI nh), .ref a1, .ref a2, .ref a3, .ref a4, .int (nI td), .ref aL, .int (nI J.length), .ref aY, .int (nI ms), .ref aM, .int (nI ip), .int (nI it), .int ir, .int (nI il), .ref bN, .ref bS, .ref bC, .ref bB, .ref bR, .ref bO, .ref aU])), (ta, .inl (cA 1, 72, .inl tf)), (aN, .inl (cA 1, 40, .inl nf)), (aS, .inl (cA 0, 5, .inl sz)), (aC, .inl (cA 0, 5, .inl bc)), (aB, .inl (cA 0, 64, .inl bf))] := hD
                  refine lv_aload_n hx hb d_Mo_piece_223 rfl (lv_at hl 3 rfl) ?_
                  refine va_get (C := RX8) (T := TX8) (N := 43) hx hb hts inX8 hown hK hP 0 rfl rfl 0 (by decide) (hts _ m_845) (fun _ h9 => h9) rfl d_Mo_piece_224 ?_
                  refine lv_if_ne (tgt := 239) hx hb d_Mo_piece_227 (by decide) (fun _ => ?_) (fun h9 => absurd h9 (by decide))
                  refine lv_iconst (v := nI 0) hx hb d_Mo_piece_239 (by decide) ?_
                  exact hret (nI 0) (nI 2, np, tot, nf, sz, bc, bf, NM, BS) _ _ _ 240 d_Mo_piece_240 (by first | exact ⟨cd_clear hc, hnc, hq9, htot, ht60, Or.inl ⟨rfl, pg_f hq1 (fun y z => hq38), rfl, rfl, rfl⟩⟩ | exact ⟨cd_clear hc, hnc, hq9, htot, ht60, Or.inl ⟨rfl, pg_f hq1 (fun y z => absurd y.1 (by omega)), rfl, rfl, rfl⟩⟩ | exact ⟨cd_clear hc, hnc, hq9, htot, ht60, Or.inl ⟨rfl, pg_f hq1 (fun y z => absurd (pc_len z) (by omega)), rfl, rfl, rfl⟩⟩ | exact ⟨cd_clear hc, hnc, hq9, htot, ht60, Or.inl ⟨rfl, pg_f hq1 (fun y z => absurd (nb_all hq26 z) (by omega)), rfl, rfl, rfl⟩⟩ | exact ⟨cd_clear hc, hnc, hq9, htot, ht60, Or.inr ⟨k1, hgo.1, hgo.2, hq38, Or.inl ⟨rfl, Or.inl (bz_1 h63), rfl, rfl, rfl⟩⟩⟩ | exact ⟨cd_clear hc, hnc, hq9, htot, ht60, Or.inr ⟨k1, hgo.1, hgo.2, hq38, Or.inl ⟨rfl, Or.inr (fun y => by omega), rfl, rfl, rfl⟩⟩⟩ | exact ⟨cd_clear hc, hnc, hq9, htot, ht60, Or.inr ⟨k1, hgo.1, hgo.2, hq38, Or.inl ⟨rfl, Or.inr (fun y => by have y2 := y.2; omega), rfl, rfl, rfl⟩⟩⟩) hP hD hS
theorem k_Mo_piece : cf_V y_Mo_piece b_Mo_piece 5 (some .int) "ReadMapperModel" 0 := ⟨⟨m_986, m_987, m_9, m_988⟩, by decide +kernel⟩
set_option maxHeartbeats 4000000 in
set_option maxRecDepth 100000 in
theorem c_Mo_beginsWith (l : Launch) (D : va_G) (cA : Nat → ClassId) (K : Nat → Nat) (mo ta aN aS aC aB aR aO aW aD a1 a2 a3 a4 aL aY aM bN bS bC bB bR bO aU : Nat) (rd mp gd : Bool) (zt ir : Int32) (np tot rt pl rn rs nh td ms ip it il : Nat) (L J : List Int32) (rw : Nat → Int32) (wf : Nat → Int32) (G : Nat → Int32) (Wd : List Int32) (p : Nat) (hpl : pl ≤ 65) (hr : ∀ z, z < pl → rw z = G z) (hw : cd_r 72 wf Wd) (hp : p < pl) : ck_I l y_Mo_beginsWith (Cond.code y_Mo_beginsWith b_Mo_beginsWith 4 (some .boolean) :: w_all) 1 D cA K [.ref mo, .int (nI p)] [(mo, .inr (8, [.int zt, .int (nI L.length), .ref ta, .int (nI np), .ref aN, .ref aS, .ref aC, .int (nI tot), .ref aB, .int (bz_c rd), .int (nI rt), .int (nI pl), .ref aR, .ref aO, .int (nI Wd.length), .ref aW, .int (bz_c mp), .int (nI rn), .int (nI rs), .int (bz_c gd), .ref aD, .int (nI nh), .ref a1, .ref a2, .ref a3, .ref a4, .int (nI td), .ref aL, .int (nI J.length), .ref aY, .int (nI ms), .ref aM, .int (nI ip), .int (nI it), .int ir, .int (nI il), .ref bN, .ref bS, .ref bC, .ref bB, .ref bR, .ref bO, .ref aU])), (aR, .inl (cA 0, 66, .inl rw)), (aW, .inl (cA 0, 72, .inl wf))] (fun (r : Int32) (u : Unit) => (r = 1 ∧ bw_p G pl Wd p) ∨ (r = 0 ∧ ¬ bw_p G pl Wd p)) (fun u => [(mo, .inr (8, [.int zt, .int (nI L.length), .ref ta, .int (nI np), .ref aN, .ref aS, .ref aC, .int (nI tot), .ref aB, .int (bz_c rd), .int (nI rt), .int (nI pl), .ref aR, .ref aO, .int (nI Wd.length), .ref aW, .int (bz_c mp), .int (nI rn), .int (nI rs), .int (bz_c gd), .ref aD, .int (nI nh), .ref a1, .ref a2, .ref a3, .ref a4, .int (nI td), .ref aL, .int (nI J.length), .ref aY, .int (nI ms), .ref aM, .int (nI ip), .int (nI it), .int ir, .int (nI il), .ref bN, .ref bS, .ref bC, .ref bB, .ref bR, .ref bO, .ref aU])), (aR, .inl (cA 0, 66, .inl rw)), (aW, .inl (cA 0, 72, .inl wf))]) := by
  refine ck_mkI (by decide) (fun r u h => by rcases h with ⟨rfl, _⟩ | ⟨rfl, _⟩ <;> rfl) (Nat.le_of_ble_eq_true rfl) ?_
  intro pG eG sG mG argsG belowG methG cG Q A H locs ls hx hb hml hown hts hK hE hA hP hD hS hl hret
  have hl : lv_has ls 4 [(0, .ref mo), (1, .int (nI p))] := hl
  have hl1 := cd_len hw
  refine lv_iload_n hx hb d_Mo_beginsWith_0 rfl (lv_at hl 1 rfl) ?_
  refine lv_aload_n hx hb d_Mo_beginsWith_1 rfl (lv_at hl 0 rfl) ?_
  refine va_get (C := RX8) (T := TX8) (N := 43) hx hb hts inX8 hown hK hP 0 rfl rfl 14 (by decide) (hts _ m_859) (fun _ h9 => h9) rfl d_Mo_beginsWith_2 ?_
  refine wn_iadd hx hb d_Mo_beginsWith_5 ?_
  refine lv_aload_n hx hb d_Mo_beginsWith_6 rfl (lv_at hl 0 rfl) ?_
  refine va_get (C := RX8) (T := TX8) (N := 43) hx hb hts inX8 hown hK hP 0 rfl rfl 11 (by decide) (hts _ m_856) (fun _ h9 => h9) rfl d_Mo_beginsWith_7 ?_
  refine wn_icmp_gt (by omega) (by omega) (tgt := 17) hx hb d_Mo_beginsWith_10 (by decide) ?_ ?_
  · intro h10
    refine lv_iconst (v := nI 0) hx hb d_Mo_beginsWith_17 (by decide) ?_
    refine lv_istore_n (lv' := [(2, .int (nI 0)), (0, .ref mo), (1, .int (nI p))]) hx hb d_Mo_beginsWith_18 rfl hl (by decide) rfl (fun ls hl => ?_)
    refine lv_iconst (v := nI 0) hx hb d_Mo_beginsWith_19 (by decide) ?_
    refine lv_istore_n (lv' := [(3, .int (nI 0)), (2, .int (nI 0)), (0, .ref mo), (1, .int (nI p))]) hx hb d_Mo_beginsWith_20 rfl hl (by decide) rfl (fun ls hl => ?_)
    refine lv_iload_n hx hb d_Mo_beginsWith_21 rfl (lv_at hl 0 rfl) ?_
    refine lv_aload_n hx hb d_Mo_beginsWith_22 rfl (lv_at hl 2 rfl) ?_
    refine va_get (C := RX8) (T := TX8) (N := 43) hx hb hts inX8 hown hK hP 0 rfl rfl 14 (by decide) (hts _ m_859) (fun _ h9 => h9) rfl d_Mo_beginsWith_23 ?_
    refine wn_icmp_ge (by omega) (by omega) (tgt := 62) hx hb d_Mo_beginsWith_26 (by decide) ?_ ?_
    · intro h26
      refine lv_iload_n hx hb d_Mo_beginsWith_62 rfl (lv_at hl 1 rfl) ?_
      exact hret (nI 0) () _ _ _ 63 d_Mo_beginsWith_63 (by first | exact Or.inl ⟨rfl, by omega, fun z hz => hs z (by omega)⟩ | exact Or.inr ⟨rfl, fun y => h47 (y.2 k (by omega))⟩ | exact Or.inr ⟨rfl, fun y => by have y1 := y.1; omega⟩) hP hD hS
    · intro h26
      refine lv_iload_n hx hb d_Mo_beginsWith_29 rfl (lv_at hl 1 rfl) ?_
      refine lv_if_eq (tgt := 62) hx hb d_Mo_beginsWith_30 (by decide) (fun _ => ?_) (fun h9 => absurd h9 (by decide))
      refine lv_iload_n hx hb d_Mo_beginsWith_62 rfl (lv_at hl 1 rfl) ?_
      exact hret (nI 0) () _ _ _ 63 d_Mo_beginsWith_63 (by first | exact Or.inl ⟨rfl, by omega, fun z hz => hs z (by omega)⟩ | exact Or.inr ⟨rfl, fun y => h47 (y.2 k (by omega))⟩ | exact Or.inr ⟨rfl, fun y => by have y1 := y.1; omega⟩) hP hD hS
  · intro h10
    refine lv_iconst (v := 1) hx hb d_Mo_beginsWith_13 (by decide) ?_
    refine lv_goto (tgt := 18) hx hb d_Mo_beginsWith_14 (by decide) ?_
    refine lv_istore_n (lv' := [(2, .int 1), (0, .ref mo), (1, .int (nI p))]) hx hb d_Mo_beginsWith_18 rfl hl (by decide) rfl (fun ls hl => ?_)
    refine lv_iconst (v := nI 0) hx hb d_Mo_beginsWith_19 (by decide) ?_
    refine lv_istore_n (lv' := [(3, .int (nI 0)), (2, .int 1), (0, .ref mo), (1, .int (nI p))]) hx hb d_Mo_beginsWith_20 rfl hl (by decide) rfl (fun ls hl => ?_)
    have L21 : ∀ (nG : Nat) (k : Nat) (H : Heap) (locs : List Loc) (ls : Array Slot), Wd.length - k = nG → (k ≤ Wd.length) → (∀ z, z < k → G (p + z) = Wd.getD z 0) →  va_P D vwCl [(mo, .inr (8, [.int zt, .int (nI L.length), .ref ta, .int (nI np), .ref aN, .ref aS, .ref aC, .int (nI tot), .ref aB, .int (bz_c rd), .int (nI rt), .int (nI pl), .ref aR, .ref aO, .int (nI Wd.length), .ref aW, .int (bz_c mp), .int (nI rn), .int (nI rs), .int (bz_c gd), .ref aD, .int (nI nh), .ref a1, .ref a2, .ref a3, .ref a4, .int (nI td), .ref aL, .int (nI J.length), .ref aY, .int (nI ms), .ref aM, .int (nI ip), .int (nI it), .int ir, .int (nI il), .ref bN, .ref bS, .ref bC, .ref bB, .ref bR, .ref bO, .ref aU])), (aR, .inl (cA 0, 66, .inl rw)), (aW, .inl (cA 0, 72, .inl wf))] H → va_D A [(mo, .inr (8, [.int zt, .int (nI L.length), .ref ta, .int (nI np), .ref aN, .ref aS, .ref aC, .int (nI tot), .ref aB, .int (bz_c rd), .int (nI rt), .int (nI pl), .ref aR, .ref aO, .int (nI Wd.length), .ref aW, .int (bz_c mp), .int (nI rn), .int (nI rs), .int (bz_c gd), .ref aD, .int (nI nh), .ref a1, .ref a2, .ref a3, .ref a4, .int (nI td), .ref aL, .int (nI J.length), .ref aY, .int (nI ms), .ref aM, .int (nI ip), .int (nI it), .int ir, .int (nI il), .ref bN, .ref bS, .ref bC, .ref bB, .ref bR, .ref bO, .ref aU])), (aR, .inl (cA 0, 66, .inl rw)), (aW, .inl (cA 0, 72, .inl wf))] → va_S A sG.heap H locs → lv_has ls 4 [(0, .ref mo), (1, .int (nI p)), (2, .int 1), (3, .int (nI k))] → W pG l eG (rm_d 1) sG mG argsG belowG methG cG H locs 0 0 Q (F0 mG 21 ls []) := by
      intro nG
      induction nG using Nat.strongRecOn with
      | ind nG ih21 =>
        intro k H locs ls hn21 hk hs hP hD hS hl
        refine lv_iload_n hx hb d_Mo_beginsWith_21 rfl (lv_at hl 3 rfl) ?_
        refine lv_aload_n hx hb d_Mo_beginsWith_22 rfl (lv_at hl 0 rfl) ?_
        refine va_get (C := RX8) (T := TX8) (N := 43) hx hb hts inX8 hown hK hP 0 rfl rfl 14 (by decide) (hts _ m_859) (fun _ h9 => h9) rfl d_Mo_beginsWith_23 ?_
        refine wn_icmp_ge (by omega) (by omega) (tgt := 62) hx hb d_Mo_beginsWith_26 (by decide) ?_ ?_
        · intro h26
          refine lv_iload_n hx hb d_Mo_beginsWith_62 rfl (lv_at hl 2 rfl) ?_
          exact hret 1 () _ _ _ 63 d_Mo_beginsWith_63 (by first | exact Or.inl ⟨rfl, by omega, fun z hz => hs z (by omega)⟩ | exact Or.inr ⟨rfl, fun y => h47 (y.2 k (by omega))⟩ | exact Or.inr ⟨rfl, fun y => by have y1 := y.1; omega⟩) hP hD hS
        · intro h26
          refine lv_iload_n hx hb d_Mo_beginsWith_29 rfl (lv_at hl 2 rfl) ?_
          refine lv_if_eq (tgt := 62) hx hb d_Mo_beginsWith_30 (by decide) (fun h9 => absurd h9 (by decide)) (fun _ => ?_)
          refine lv_aload_n hx hb d_Mo_beginsWith_33 rfl (lv_at hl 0 rfl) ?_
          refine va_get (C := RX8) (T := TX8) (N := 43) hx hb hts inX8 hown hK hP 0 rfl rfl 12 (by decide) (hts _ m_857) (fun _ h9 => h9) rfl d_Mo_beginsWith_34 ?_
          refine lv_iload_n hx hb d_Mo_beginsWith_37 rfl (lv_at hl 1 rfl) ?_
          refine lv_iload_n hx hb d_Mo_beginsWith_38 rfl (lv_at hl 3 rfl) ?_
          refine wn_iadd hx hb d_Mo_beginsWith_39 ?_
          refine wn_iald hx hb hK hP 1 0 rfl rfl (by omega) (by omega) d_Mo_beginsWith_40 ?_
          refine wn_eq (y := G (p + k)) (hr _ (by omega)) ?_
          refine lv_aload_n hx hb d_Mo_beginsWith_41 rfl (lv_at hl 0 rfl) ?_
          refine va_get (C := RX8) (T := TX8) (N := 43) hx hb hts inX8 hown hK hP 0 rfl rfl 15 (by decide) (hts _ m_860) (fun _ h9 => h9) rfl d_Mo_beginsWith_42 ?_
          refine lv_iload_n hx hb d_Mo_beginsWith_45 rfl (lv_at hl 3 rfl) ?_
          refine wn_iald hx hb hK hP 2 0 rfl rfl (by omega) (by omega) d_Mo_beginsWith_46 ?_
          refine wn_eq (y := Wd.getD k 0) (hw.2.2 k (by omega)) ?_
          refine lv_icmp_ne (tgt := 54) hx hb d_Mo_beginsWith_47 (by decide) ?_ ?_
          · intro h47
            refine lv_iconst (v := nI 0) hx hb d_Mo_beginsWith_54 (by decide) ?_
            refine lv_istore_n (lv' := [(2, .int (nI 0)), (0, .ref mo), (1, .int (nI p)), (3, .int (nI k))]) hx hb d_Mo_beginsWith_55 rfl hl (by decide) rfl (fun ls hl => ?_)
            refine lv_iinc (k := 3) (v := nI (k + 1)) (lv' := [(3, .int (nI (k + 1))), (2, .int (nI 0)), (0, .ref mo), (1, .int (nI p))]) hx hb d_Mo_beginsWith_56 hl rfl (wi_inc1 _) (by decide) rfl (fun ls hl => ?_)
            refine lv_goto (tgt := 21) hx hb d_Mo_beginsWith_59 (by decide) ?_
            refine lv_iload_n hx hb d_Mo_beginsWith_21 rfl (lv_at hl 0 rfl) ?_
            refine lv_aload_n hx hb d_Mo_beginsWith_22 rfl (lv_at hl 2 rfl) ?_
            refine va_get (C := RX8) (T := TX8) (N := 43) hx hb hts inX8 hown hK hP 0 rfl rfl 14 (by decide) (hts _ m_859) (fun _ h9 => h9) rfl d_Mo_beginsWith_23 ?_
            refine wn_icmp_ge (by omega) (by omega) (tgt := 62) hx hb d_Mo_beginsWith_26 (by decide) ?_ ?_
            · intro h26_2
              refine lv_iload_n hx hb d_Mo_beginsWith_62 rfl (lv_at hl 1 rfl) ?_
              exact hret (nI 0) () _ _ _ 63 d_Mo_beginsWith_63 (by first | exact Or.inl ⟨rfl, by omega, fun z hz => hs z (by omega)⟩ | exact Or.inr ⟨rfl, fun y => h47 (y.2 k (by omega))⟩ | exact Or.inr ⟨rfl, fun y => by have y1 := y.1; omega⟩) hP hD hS
            · intro h26_2
              refine lv_iload_n hx hb d_Mo_beginsWith_29 rfl (lv_at hl 1 rfl) ?_
              refine lv_if_eq (tgt := 62) hx hb d_Mo_beginsWith_30 (by decide) (fun _ => ?_) (fun h9 => absurd h9 (by decide))
              refine lv_iload_n hx hb d_Mo_beginsWith_62 rfl (lv_at hl 1 rfl) ?_
              exact hret (nI 0) () _ _ _ 63 d_Mo_beginsWith_63 (by first | exact Or.inl ⟨rfl, by omega, fun z hz => hs z (by omega)⟩ | exact Or.inr ⟨rfl, fun y => h47 (y.2 k (by omega))⟩ | exact Or.inr ⟨rfl, fun y => by have y1 := y.1; omega⟩) hP hD hS
          · intro h47
            refine lv_iconst (v := 1) hx hb d_Mo_beginsWith_50 (by decide) ?_
            refine lv_goto (tgt := 55) hx hb d_Mo_beginsWith_51 (by decide) ?_
            refine lv_istore_n (lv' := [(2, .int 1), (0, .ref mo), (1, .int (nI p)), (3, .int (nI k))]) hx hb d_Mo_beginsWith_55 rfl hl (by decide) rfl (fun ls hl => ?_)
            refine lv_iinc (k := 3) (v := nI (k + 1)) (lv' := [(3, .int (nI (k + 1))), (2, .int 1), (0, .ref mo), (1, .int (nI p))]) hx hb d_Mo_beginsWith_56 hl rfl (wi_inc1 _) (by decide) rfl (fun ls hl => ?_)
            refine lv_goto (tgt := 21) hx hb d_Mo_beginsWith_59 (by decide) ?_
            exact ih21 _ (by omega) (k + 1) _ _ _ rfl (by first | assumption | omega) (lt_s hs h47) hP hD hS (lv_sub hl [2, 3, 1, 0] rfl)
    exact L21 _ 0 _ _ _ rfl (by first | assumption | omega) (fun j hj => absurd hj (Nat.not_lt_zero j)) hP hD hS (lv_sub hl [2, 3, 1, 0] rfl)
theorem k_Mo_beginsWith : cf_V y_Mo_beginsWith b_Mo_beginsWith 4 (some .boolean) "ReadMapperModel" 1 := ⟨⟨m_1057, (wm_s (q := (y_Mo_beginsWith, 43)) (by decide +kernel)), m_9, m_1058⟩, by decide +kernel⟩
set_option maxHeartbeats 4000000 in
set_option maxRecDepth 100000 in
theorem c_Mo_find (l : Launch) (D : va_G) (cA : Nat → ClassId) (K : Nat → Nat) (mo ta aN aS aC aB aR aO aW aD a1 a2 a3 a4 aL aY aM bN bS bC bB bR bO aU : Nat) (rd mp gd : Bool) (zt ir : Int32) (np tot rt pl rn rs nh td ms ip it il : Nat) (L J : List Int32) (tf : Nat → Int32) (rw : Nat → Int32) (wf : Nat → Int32) (G : Nat → Int32) (Wd : List Int32) (hc : cd_r 72 tf L) (hpl : pl ≤ 65) (hw : cd_r 72 wf Wd) (hrd : rd = true → ∀ z, z < pl → rw z = G z) : ck_I l y_Mo_find (Cond.code y_Mo_find b_Mo_find 4 (some .int) :: w_all) 3 D cA K [.ref mo] [(mo, .inr (8, [.int zt, .int (nI L.length), .ref ta, .int (nI np), .ref aN, .ref aS, .ref aC, .int (nI tot), .ref aB, .int (bz_c rd), .int (nI rt), .int (nI pl), .ref aR, .ref aO, .int (nI Wd.length), .ref aW, .int (bz_c mp), .int (nI rn), .int (nI rs), .int (bz_c gd), .ref aD, .int (nI nh), .ref a1, .ref a2, .ref a3, .ref a4, .int (nI td), .ref aL, .int (nI J.length), .ref aY, .int (nI ms), .ref aM, .int (nI ip), .int (nI it), .int ir, .int (nI il), .ref bN, .ref bS, .ref bC, .ref bB, .ref bR, .ref bO, .ref aU])), (ta, .inl (cA 1, 72, .inl tf)), (aR, .inl (cA 0, 66, .inl rw)), (aW, .inl (cA 0, 72, .inl wf))] (fun (r : Int32) (u : (Int32) × (List Int32) × (Nat → Int32)) => cd_r 72 tf [] ∧ cd_r 72 u.2.2 u.2.1 ∧ ((u.1 = 1 ∧ ¬ fd_ok L ∧ u.2.1 = Wd) ∨ (u.1 = 2 ∧ fd_ok L ∧ rd = false ∧ u.2.1 = Wd) ∨ (u.1 = 0 ∧ fd_ok L ∧ rd = true ∧ u.2.1 = fb_c L ∧ r = nI (cn_t (fun p => bw_p G pl (fb_c L) p) pl)))) (fun u => [(mo, .inr (8, [.int u.1, .int (nI (([] : List Int32).length)), .ref ta, .int (nI np), .ref aN, .ref aS, .ref aC, .int (nI tot), .ref aB, .int (bz_c rd), .int (nI rt), .int (nI pl), .ref aR, .ref aO, .int (nI u.2.1.length), .ref aW, .int (bz_c mp), .int (nI rn), .int (nI rs), .int (bz_c gd), .ref aD, .int (nI nh), .ref a1, .ref a2, .ref a3, .ref a4, .int (nI td), .ref aL, .int (nI J.length), .ref aY, .int (nI ms), .ref aM, .int (nI ip), .int (nI it), .int ir, .int (nI il), .ref bN, .ref bS, .ref bC, .ref bB, .ref bR, .ref bO, .ref aU])), (ta, .inl (cA 1, 72, .inl tf)), (aR, .inl (cA 0, 66, .inl rw)), (aW, .inl (cA 0, 72, .inl u.2.2))]) := by
  refine ck_mkI (by decide) (fun _ _ _ => rfl) (Nat.le_of_ble_eq_true rfl) ?_
  intro pG eG sG mG argsG belowG methG cG Q A H locs ls hx hb hml hown hts hK hE hA hP hD hS hl hret
  have hl : lv_has ls 4 [(0, .ref mo)] := hl
  have hl1 := cd_len hc
  have hl0 := hc.1
  have hl2 := cd_len hw
  refine lv_aload_n hx hb d_Mo_find_0 rfl (lv_at hl 0 rfl) ?_
  refine va_get (C := RX8) (T := TX8) (N := 43) hx hb hts inX8 hown hK hP 0 rfl rfl 1 (by decide) (hts _ m_846) (fun _ h9 => h9) rfl d_Mo_find_1 ?_
  refine wn_if_le (by omega) (tgt := 23) hx hb d_Mo_find_4 (by decide) ?_ ?_
  · intro h4
    refine lv_iconst (v := nI 0) hx hb d_Mo_find_23 (by decide) ?_
    refine lv_istore_n (lv' := [(1, .int (nI 0)), (0, .ref mo)]) hx hb d_Mo_find_24 rfl hl (by decide) rfl (fun ls hl => ?_)
    refine lv_iconst (v := nI 0) hx hb d_Mo_find_25 (by decide) ?_
    refine lv_istore_n (lv' := [(2, .int (nI 0)), (1, .int (nI 0)), (0, .ref mo)]) hx hb d_Mo_find_26 rfl hl (by decide) rfl (fun ls hl => ?_)
    have hl : lv_has ls 4 [(2, .int (nI 0)), (1, .int (bz_c false)), (0, .ref mo)] := hl
    have L27 : ∀ (nG : Nat) (k : Nat) (g : Bool) (H : Heap) (locs : List Loc) (ls : Array Slot), L.length - k = nG → (k ≤ L.length) → ((g = true ↔ (0 < L.length ∧ nb_p L 0 L.length ∧ ∀ j, j < k → ¬ L.getD j 0 = 78))) →  va_P D vwCl [(mo, .inr (8, [.int zt, .int (nI L.length), .ref ta, .int (nI np), .ref aN, .ref aS, .ref aC, .int (nI tot), .ref aB, .int (bz_c rd), .int (nI rt), .int (nI pl), .ref aR, .ref aO, .int (nI Wd.length), .ref aW, .int (bz_c mp), .int (nI rn), .int (nI rs), .int (bz_c gd), .ref aD, .int (nI nh), .ref a1, .ref a2, .ref a3, .ref a4, .int (nI td), .ref aL, .int (nI J.length), .ref aY, .int (nI ms), .ref aM, .int (nI ip), .int (nI it), .int ir, .int (nI il), .ref bN, .ref bS, .ref bC, .ref bB, .ref bR, .ref bO, .ref aU])), (ta, .inl (cA 1, 72, .inl tf)), (aR, .inl (cA 0, 66, .inl rw)), (aW, .inl (cA 0, 72, .inl wf))] H → va_D A [(mo, .inr (8, [.int zt, .int (nI L.length), .ref ta, .int (nI np), .ref aN, .ref aS, .ref aC, .int (nI tot), .ref aB, .int (bz_c rd), .int (nI rt), .int (nI pl), .ref aR, .ref aO, .int (nI Wd.length), .ref aW, .int (bz_c mp), .int (nI rn), .int (nI rs), .int (bz_c gd), .ref aD, .int (nI nh), .ref a1, .ref a2, .ref a3, .ref a4, .int (nI td), .ref aL, .int (nI J.length), .ref aY, .int (nI ms), .ref aM, .int (nI ip), .int (nI it), .int ir, .int (nI il), .ref bN, .ref bS, .ref bC, .ref bB, .ref bR, .ref bO, .ref aU])), (ta, .inl (cA 1, 72, .inl tf)), (aR, .inl (cA 0, 66, .inl rw)), (aW, .inl (cA 0, 72, .inl wf))] → va_S A sG.heap H locs → lv_has ls 4 [(0, .ref mo), (1, .int (bz_c g)), (2, .int (nI k))] → W pG l eG (rm_d 3) sG mG argsG belowG methG cG H locs 0 0 Q (F0 mG 27 ls []) := by
      intro nG
      induction nG using Nat.strongRecOn with
      | ind nG ih27 =>
        intro k g H locs ls hn27 hk hg hP hD hS hl
        refine lv_iload_n hx hb d_Mo_find_27 rfl (lv_at hl 2 rfl) ?_
        refine lv_aload_n hx hb d_Mo_find_28 rfl (lv_at hl 0 rfl) ?_
        refine va_get (C := RX8) (T := TX8) (N := 43) hx hb hts inX8 hown hK hP 0 rfl rfl 1 (by decide) (hts _ m_846) (fun _ h9 => h9) rfl d_Mo_find_29 ?_
        refine wn_icmp_ge (by omega) (by omega) (tgt := 62) hx hb d_Mo_find_32 (by decide) ?_ ?_
        · intro h32
          refine lv_aload_n hx hb d_Mo_find_62 rfl (lv_at hl 0 rfl) ?_
          refine lv_iload_n hx hb d_Mo_find_63 rfl (lv_at hl 1 rfl) ?_
          refine lv_if_ne (tgt := 71) hx hb d_Mo_find_64 (by decide) ?_ ?_
          · intro h64
            have hfd := fd_z hl0 (show k = L.length by omega) hg (bz_1 h64)
            refine lv_aload_n hx hb d_Mo_find_71 rfl (lv_at hl 0 rfl) ?_
            refine va_get (C := RX8) (T := TX8) (N := 43) hx hb hts inX8 hown hK hP 0 rfl rfl 9 (by decide) (hts _ m_854) (fun _ h9 => h9) rfl d_Mo_find_72 ?_
            refine lv_if_ne (tgt := 82) hx hb d_Mo_find_75 (by decide) ?_ ?_
            · intro h75
              refine lv_iconst (v := nI 0) hx hb d_Mo_find_82 (by decide) ?_
              refine va_put (D := D) (ci := 8) (v := .int (nI 0)) (ty := .int) (C := RX8) (T := TX8) (N := 43) hx hb hts inX8 tyX8 tyX8_ok nmX8 hown hK hP hD hS 0 rfl rfl 0 (by decide) (hts _ m_845) (fun _ h9 => h9) rfl (by decide +kernel) rfl rfl (Nat.le_of_ble_eq_true rfl) d_Mo_find_83 (fun H locs hP hD hS => ?_)
              have hP : va_P D vwCl [(mo, .inr (8, [.int (nI 0), .int (nI L.length), .ref ta, .int (nI np), .ref aN, .ref aS, .ref aC, .int (nI tot), .ref aB, .int (bz_c rd), .int (nI rt), .int (nI pl), .ref aR, .ref aO, .int (nI Wd.length), .ref aW, .int (bz_c mp), .int (nI rn), .int (nI rs), .int (bz_c gd), .ref aD, .int (nI nh), .ref a1, .ref a2, .ref a3, .ref a4, .int (nI td), .ref aL, .int (nI J.length), .ref aY, .int (nI ms), .ref aM, .int (nI ip), .int (nI it), .int ir, .int (nI il), .ref bN, .ref bS, .ref bC, .ref bB, .ref bR, .ref bO, .ref aU])), (ta, .inl (cA 1, 72, .inl tf)), (aR, .inl (cA 0, 66, .inl rw)), (aW, .inl (cA 0, 72, .inl wf))] H := hP
              have hD : va_D A [(mo, .inr (8, [.int (nI 0), .int (nI L.length), .ref ta, .int (nI np), .ref aN, .ref aS, .ref aC, .int (nI tot), .ref aB, .int (bz_c rd), .int (nI rt), .int (nI pl), .ref aR, .ref aO, .int (nI Wd.length), .ref aW, .int (bz_c mp), .int (nI rn), .int (nI rs), .int (bz_c gd), .ref aD, .int (nI nh), .ref a1, .ref a2, .ref a3, .ref a4, .int (nI td), .ref aL, .int (nI J.length), .ref aY, .int (nI ms), .ref aM, .int (nI ip), .int (nI it), .int ir, .int (nI il), .ref bN, .ref bS, .ref bC, .ref bB, .ref bR, .ref bO, .ref aU])), (ta, .inl (cA 1, 72, .inl tf)), (aR, .inl (cA 0, 66, .inl rw)), (aW, .inl (cA 0, 72, .inl wf))] := hD
              refine lv_iconst (v := nI 0) hx hb d_Mo_find_86 (by decide) ?_
              refine lv_istore_n (lv' := [(2, .int (nI 0)), (0, .ref mo), (1, .int (bz_c g))]) hx hb d_Mo_find_87 rfl hl (by decide) rfl (fun ls hl => ?_)
              refine lv_aload_n hx hb d_Mo_find_88 rfl (lv_at hl 1 rfl) ?_
              refine va_get (C := RX8) (T := TX8) (N := 43) hx hb hts inX8 hown hK hP 0 rfl rfl 0 (by decide) (hts _ m_845) (fun _ h9 => h9) rfl d_Mo_find_89 ?_
              refine lv_if_ne (tgt := 166) hx hb d_Mo_find_92 (by decide) (fun h9 => absurd h9 (by decide)) (fun _ => ?_)
              refine lv_aload_n hx hb d_Mo_find_95 rfl (lv_at hl 1 rfl) ?_
              refine lv_aload_n hx hb d_Mo_find_96 rfl (lv_at hl 1 rfl) ?_
              refine va_get (C := RX8) (T := TX8) (N := 43) hx hb hts inX8 hown hK hP 0 rfl rfl 1 (by decide) (hts _ m_846) (fun _ h9 => h9) rfl d_Mo_find_97 ?_
              refine wn_nat (b := (fb_c L).length) (fb_len L).symm ?_
              refine va_put (D := D) (ci := 8) (v := .int (nI ((fb_c L).length))) (ty := .int) (C := RX8) (T := TX8) (N := 43) hx hb hts inX8 tyX8 tyX8_ok nmX8 hown hK hP hD hS 0 rfl rfl 14 (by decide) (hts _ m_859) (fun _ h9 => h9) rfl (by decide +kernel) rfl rfl (Nat.le_of_ble_eq_true rfl) d_Mo_find_100 (fun H locs hP hD hS => ?_)
              have hP : va_P D vwCl [(mo, .inr (8, [.int (nI 0), .int (nI L.length), .ref ta, .int (nI np), .ref aN, .ref aS, .ref aC, .int (nI tot), .ref aB, .int (bz_c rd), .int (nI rt), .int (nI pl), .ref aR, .ref aO, .int (nI ((fb_c L).length)), .ref aW, .int (bz_c mp), .int (nI rn), .int (nI rs), .int (bz_c gd), .ref aD, .int (nI nh), .ref a1, .ref a2, .ref a3, .ref a4, .int (nI td), .ref aL, .int (nI J.length), .ref aY, .int (nI ms), .ref aM, .int (nI ip), .int (nI it), .int ir, .int (nI il), .ref bN, .ref bS, .ref bC, .ref bB, .ref bR, .ref bO, .ref aU])), (ta, .inl (cA 1, 72, .inl tf)), (aR, .inl (cA 0, 66, .inl rw)), (aW, .inl (cA 0, 72, .inl wf))] H := hP
              have hD : va_D A [(mo, .inr (8, [.int (nI 0), .int (nI L.length), .ref ta, .int (nI np), .ref aN, .ref aS, .ref aC, .int (nI tot), .ref aB, .int (bz_c rd), .int (nI rt), .int (nI pl), .ref aR, .ref aO, .int (nI ((fb_c L).length)), .ref aW, .int (bz_c mp), .int (nI rn), .int (nI rs), .int (bz_c gd), .ref aD, .int (nI nh), .ref a1, .ref a2, .ref a3, .ref a4, .int (nI td), .ref aL, .int (nI J.length), .ref aY, .int (nI ms), .ref aM, .int (nI ip), .int (nI it), .int ir, .int (nI il), .ref bN, .ref bS, .ref bC, .ref bB, .ref bR, .ref bO, .ref aU])), (ta, .inl (cA 1, 72, .inl tf)), (aR, .inl (cA 0, 66, .inl rw)), (aW, .inl (cA 0, 72, .inl wf))] := hD
              refine lv_iconst (v := nI 0) hx hb d_Mo_find_103 (by decide) ?_
              refine lv_istore_n (lv' := [(3, .int (nI 0)), (2, .int (nI 0)), (0, .ref mo), (1, .int (bz_c g))]) hx hb d_Mo_find_104 rfl hl (by decide) rfl (fun ls hl => ?_)
              have L105 : ∀ (nG : Nat) (i : Nat) (wf1 : Nat → Int32) (H : Heap) (locs : List Loc) (ls : Array Slot), L.length - i = nG → (i ≤ L.length) → (∀ j, j < i → wf1 j = (fb_c L).getD j 0) →  va_P D vwCl [(mo, .inr (8, [.int (nI 0), .int (nI L.length), .ref ta, .int (nI np), .ref aN, .ref aS, .ref aC, .int (nI tot), .ref aB, .int (bz_c rd), .int (nI rt), .int (nI pl), .ref aR, .ref aO, .int (nI ((fb_c L).length)), .ref aW, .int (bz_c mp), .int (nI rn), .int (nI rs), .int (bz_c gd), .ref aD, .int (nI nh), .ref a1, .ref a2, .ref a3, .ref a4, .int (nI td), .ref aL, .int (nI J.length), .ref aY, .int (nI ms), .ref aM, .int (nI ip), .int (nI it), .int ir, .int (nI il), .ref bN, .ref bS, .ref bC, .ref bB, .ref bR, .ref bO, .ref aU])), (ta, .inl (cA 1, 72, .inl tf)), (aR, .inl (cA 0, 66, .inl rw)), (aW, .inl (cA 0, 72, .inl wf1))] H → va_D A [(mo, .inr (8, [.int (nI 0), .int (nI L.length), .ref ta, .int (nI np), .ref aN, .ref aS, .ref aC, .int (nI tot), .ref aB, .int (bz_c rd), .int (nI rt), .int (nI pl), .ref aR, .ref aO, .int (nI ((fb_c L).length)), .ref aW, .int (bz_c mp), .int (nI rn), .int (nI rs), .int (bz_c gd), .ref aD, .int (nI nh), .ref a1, .ref a2, .ref a3, .ref a4, .int (nI td), .ref aL, .int (nI J.length), .ref aY, .int (nI ms), .ref aM, .int (nI ip), .int (nI it), .int ir, .int (nI il), .ref bN, .ref bS, .ref bC, .ref bB, .ref bR, .ref bO, .ref aU])), (ta, .inl (cA 1, 72, .inl tf)), (aR, .inl (cA 0, 66, .inl rw)), (aW, .inl (cA 0, 72, .inl wf1))] → va_S A sG.heap H locs → lv_has ls 4 [(0, .ref mo), (2, .int (nI 0)), (3, .int (nI i))] → W pG l eG (rm_d 3) sG mG argsG belowG methG cG H locs 0 0 Q (F0 mG 105 ls []) := by
                intro nG
                induction nG using Nat.strongRecOn with
                | ind nG ih105 =>
                  intro i wf1 H locs ls hn105 hi hs hP hD hS hl
                  refine lv_iload_n hx hb d_Mo_find_105 rfl (lv_at hl 2 rfl) ?_
                  refine lv_aload_n hx hb d_Mo_find_106 rfl (lv_at hl 0 rfl) ?_
                  refine va_get (C := RX8) (T := TX8) (N := 43) hx hb hts inX8 hown hK hP 0 rfl rfl 1 (by decide) (hts _ m_846) (fun _ h9 => h9) rfl d_Mo_find_107 ?_
                  refine wn_icmp_ge (by omega) (by omega) (tgt := 134) hx hb d_Mo_find_110 (by decide) ?_ ?_
                  · intro h110
                    have hw1 : cd_r 72 wf1 (fb_c L) := ⟨by rw [fb_len]; omega, by omega, fun j hj => hs j (by rw [fb_len] at hj; omega)⟩
                    have hrw := hrd (bz_1 h75)
                    refine lv_iconst (v := nI 0) hx hb d_Mo_find_134 (by decide) ?_
                    refine lv_istore_n (lv' := [(3, .int (nI 0)), (0, .ref mo), (2, .int (nI 0))]) hx hb d_Mo_find_135 rfl hl (by decide) rfl (fun ls hl => ?_)
                    have L136 : ∀ (nG : Nat) (c i : Nat) (H : Heap) (locs : List Loc) (ls : Array Slot), pl - i = nG → (i ≤ pl) → (c = cn_t (fun p => bw_p G pl (fb_c L) p) i) →  va_P D vwCl [(mo, .inr (8, [.int (nI 0), .int (nI L.length), .ref ta, .int (nI np), .ref aN, .ref aS, .ref aC, .int (nI tot), .ref aB, .int (bz_c rd), .int (nI rt), .int (nI pl), .ref aR, .ref aO, .int (nI ((fb_c L).length)), .ref aW, .int (bz_c mp), .int (nI rn), .int (nI rs), .int (bz_c gd), .ref aD, .int (nI nh), .ref a1, .ref a2, .ref a3, .ref a4, .int (nI td), .ref aL, .int (nI J.length), .ref aY, .int (nI ms), .ref aM, .int (nI ip), .int (nI it), .int ir, .int (nI il), .ref bN, .ref bS, .ref bC, .ref bB, .ref bR, .ref bO, .ref aU])), (ta, .inl (cA 1, 72, .inl tf)), (aR, .inl (cA 0, 66, .inl rw)), (aW, .inl (cA 0, 72, .inl wf1))] H → va_D A [(mo, .inr (8, [.int (nI 0), .int (nI L.length), .ref ta, .int (nI np), .ref aN, .ref aS, .ref aC, .int (nI tot), .ref aB, .int (bz_c rd), .int (nI rt), .int (nI pl), .ref aR, .ref aO, .int (nI ((fb_c L).length)), .ref aW, .int (bz_c mp), .int (nI rn), .int (nI rs), .int (bz_c gd), .ref aD, .int (nI nh), .ref a1, .ref a2, .ref a3, .ref a4, .int (nI td), .ref aL, .int (nI J.length), .ref aY, .int (nI ms), .ref aM, .int (nI ip), .int (nI it), .int ir, .int (nI il), .ref bN, .ref bS, .ref bC, .ref bB, .ref bR, .ref bO, .ref aU])), (ta, .inl (cA 1, 72, .inl tf)), (aR, .inl (cA 0, 66, .inl rw)), (aW, .inl (cA 0, 72, .inl wf1))] → va_S A sG.heap H locs → lv_has ls 4 [(0, .ref mo), (2, .int (nI c)), (3, .int (nI i))] → W pG l eG (rm_d 3) sG mG argsG belowG methG cG H locs 0 0 Q (F0 mG 136 ls []) := by
                      intro nG
                      induction nG using Nat.strongRecOn with
                      | ind nG ih136 =>
                        intro c i H locs ls hn136 hi hcn hP hD hS hl
                        have hcl := cn_le (fun p => bw_p G pl (fb_c L) p) i
                        rw [← hcn] at hcl
                        refine lv_iload_n hx hb d_Mo_find_136 rfl (lv_at hl 2 rfl) ?_
                        refine lv_aload_n hx hb d_Mo_find_137 rfl (lv_at hl 0 rfl) ?_
                        refine va_get (C := RX8) (T := TX8) (N := 43) hx hb hts inX8 hown hK hP 0 rfl rfl 11 (by decide) (hts _ m_856) (fun _ h9 => h9) rfl d_Mo_find_138 ?_
                        refine wn_icmp_ge (by omega) (by omega) (tgt := 166) hx hb d_Mo_find_141 (by decide) ?_ ?_
                        · intro h141
                          refine lv_aload_n hx hb d_Mo_find_166 rfl (lv_at hl 0 rfl) ?_
                          refine lv_iconst (v := nI (([] : List Int32).length)) hx hb d_Mo_find_167 rfl ?_
                          refine va_put (D := D) (ci := 8) (v := .int (nI (([] : List Int32).length))) (ty := .int) (C := RX8) (T := TX8) (N := 43) hx hb hts inX8 tyX8 tyX8_ok nmX8 hown hK hP hD hS 0 rfl rfl 1 (by decide) (hts _ m_846) (fun _ h9 => h9) rfl (by decide +kernel) rfl rfl (Nat.le_of_ble_eq_true rfl) d_Mo_find_168 (fun H locs hP hD hS => ?_)
                          have hP : va_P D vwCl [(mo, .inr (8, [.int (nI 0), .int (nI (([] : List Int32).length)), .ref ta, .int (nI np), .ref aN, .ref aS, .ref aC, .int (nI tot), .ref aB, .int (bz_c rd), .int (nI rt), .int (nI pl), .ref aR, .ref aO, .int (nI ((fb_c L).length)), .ref aW, .int (bz_c mp), .int (nI rn), .int (nI rs), .int (bz_c gd), .ref aD, .int (nI nh), .ref a1, .ref a2, .ref a3, .ref a4, .int (nI td), .ref aL, .int (nI J.length), .ref aY, .int (nI ms), .ref aM, .int (nI ip), .int (nI it), .int ir, .int (nI il), .ref bN, .ref bS, .ref bC, .ref bB, .ref bR, .ref bO, .ref aU])), (ta, .inl (cA 1, 72, .inl tf)), (aR, .inl (cA 0, 66, .inl rw)), (aW, .inl (cA 0, 72, .inl wf1))] H := hP
                          have hD : va_D A [(mo, .inr (8, [.int (nI 0), .int (nI (([] : List Int32).length)), .ref ta, .int (nI np), .ref aN, .ref aS, .ref aC, .int (nI tot), .ref aB, .int (bz_c rd), .int (nI rt), .int (nI pl), .ref aR, .ref aO, .int (nI ((fb_c L).length)), .ref aW, .int (bz_c mp), .int (nI rn), .int (nI rs), .int (bz_c gd), .ref aD, .int (nI nh), .ref a1, .ref a2, .ref a3, .ref a4, .int (nI td), .ref aL, .int (nI J.length), .ref aY, .int (nI ms), .ref aM, .int (nI ip), .int (nI it), .int ir, .int (nI il), .ref bN, .ref bS, .ref bC, .ref bB, .ref bR, .ref bO, .ref aU])), (ta, .inl (cA 1, 72, .inl tf)), (aR, .inl (cA 0, 66, .inl rw)), (aW, .inl (cA 0, 72, .inl wf1))] := hD
                          refine lv_iload_n hx hb d_Mo_find_171 rfl (lv_at hl 1 rfl) ?_
                          exact hret (nI c) (nI 0, fb_c L, wf1) _ _ _ 172 d_Mo_find_172 (by first | exact ⟨cd_clear hc, hw1, Or.inr (Or.inr ⟨rfl, hfd, bz_1 h75, rfl, by rw [hcn, show i = pl by omega]⟩)⟩ | exact ⟨cd_clear hc, hw, Or.inl ⟨rfl, hfd, rfl⟩⟩ | exact ⟨cd_clear hc, hw, Or.inr (Or.inl ⟨rfl, hfd, bz_0 h75, rfl⟩)⟩) hP hD hS
                        · intro h141
                          refine lv_aload_n hx hb d_Mo_find_144 rfl (lv_at hl 0 rfl) ?_
                          refine lv_iload_n hx hb d_Mo_find_145 rfl (lv_at hl 2 rfl) ?_
                          refine ck_cV (C := "ReadMapperModel") (ci := 8) (rest := []) (wr := [(ta, .inl (cA 1, 72, .inl tf))]) (ws2 := fun u => [(mo, .inr (8, [.int (nI 0), .int (nI L.length), .ref ta, .int (nI np), .ref aN, .ref aS, .ref aC, .int (nI tot), .ref aB, .int (bz_c rd), .int (nI rt), .int (nI pl), .ref aR, .ref aO, .int (nI ((fb_c L).length)), .ref aW, .int (bz_c mp), .int (nI rn), .int (nI rs), .int (bz_c gd), .ref aD, .int (nI nh), .ref a1, .ref a2, .ref a3, .ref a4, .int (nI td), .ref aL, .int (nI J.length), .ref aY, .int (nI ms), .ref aM, .int (nI ip), .int (nI it), .int ir, .int (nI il), .ref bN, .ref bS, .ref bC, .ref bB, .ref bR, .ref bO, .ref aU])), (ta, .inl (cA 1, 72, .inl tf)), (aR, .inl (cA 0, 66, .inl rw)), (aW, .inl (cA 0, 72, .inl wf1))]) (c_Mo_beginsWith l D cA K mo ta aN aS aC aB aR aO aW aD a1 a2 a3 a4 aL aY aM bN bS bC bB bR bO aU rd mp gd (nI 0) ir np tot rt pl rn rs nh td ms ip it il L J rw wf1 G (fb_c L) i (by first | assumption | omega) hrw hw1 (by first | assumption | omega)) hx hb hml hown hts hK hE hA hP hD hS k_Mo_beginsWith m_1055 (by decide) 0 rfl rfl rfl hl.1 rfl (Nat.le_of_ble_eq_true rfl) d_Mo_find_146  [0, 2, 3] [1] [1, 0, 2, 3] rfl rfl (by decide) (fun _ => rfl) (fun r146 u146 H locs hq146 hP hD hS => ?_)
                          try dsimp only at hq146
                          have hP : va_P D vwCl [(mo, .inr (8, [.int (nI 0), .int (nI L.length), .ref ta, .int (nI np), .ref aN, .ref aS, .ref aC, .int (nI tot), .ref aB, .int (bz_c rd), .int (nI rt), .int (nI pl), .ref aR, .ref aO, .int (nI ((fb_c L).length)), .ref aW, .int (bz_c mp), .int (nI rn), .int (nI rs), .int (bz_c gd), .ref aD, .int (nI nh), .ref a1, .ref a2, .ref a3, .ref a4, .int (nI td), .ref aL, .int (nI J.length), .ref aY, .int (nI ms), .ref aM, .int (nI ip), .int (nI it), .int ir, .int (nI il), .ref bN, .ref bS, .ref bC, .ref bB, .ref bR, .ref bO, .ref aU])), (ta, .inl (cA 1, 72, .inl tf)), (aR, .inl (cA 0, 66, .inl rw)), (aW, .inl (cA 0, 72, .inl wf1))] H := hP
                          have hD : va_D A [(mo, .inr (8, [.int (nI 0), .int (nI L.length), .ref ta, .int (nI np), .ref aN, .ref aS, .ref aC, .int (nI tot), .ref aB, .int (bz_c rd), .int (nI rt), .int (nI pl), .ref aR, .ref aO, .int (nI ((fb_c L).length)), .ref aW, .int (bz_c mp), .int (nI rn), .int (nI rs), .int (bz_c gd), .ref aD, .int (nI nh), .ref a1, .ref a2, .ref a3, .ref a4, .int (nI td), .ref aL, .int (nI J.length), .ref aY, .int (nI ms), .ref aM, .int (nI ip), .int (nI it), .int ir, .int (nI il), .ref bN, .ref bS, .ref bC, .ref bB, .ref bR, .ref bO, .ref aU])), (ta, .inl (cA 1, 72, .inl tf)), (aR, .inl (cA 0, 66, .inl rw)), (aW, .inl (cA 0, 72, .inl wf1))] := hD
                          rcases hq146 with ⟨rfl, hq146⟩ | ⟨rfl, hq146⟩
                          ·
                            refine lv_if_eq (tgt := 158) hx hb d_Mo_find_149 (by decide) (fun h9 => absurd h9 (by decide)) (fun _ => ?_)
                            refine lv_iload_n hx hb d_Mo_find_152 rfl (lv_at hl 1 rfl) ?_
                            refine lv_iconst (v := nI 1) hx hb d_Mo_find_153 (by decide) ?_
                            refine wn_iadd hx hb d_Mo_find_154 ?_
                            refine lv_goto (tgt := 159) hx hb d_Mo_find_155 (by decide) ?_
                            refine lv_istore_n (lv' := [(2, .int (nI (c + 1))), (0, .ref mo), (3, .int (nI i))]) hx hb d_Mo_find_159 rfl hl (by decide) rfl (fun ls hl => ?_)
                            refine lv_iinc (k := 2) (v := nI (i + 1)) (lv' := [(3, .int (nI (i + 1))), (2, .int (nI (c + 1))), (0, .ref mo)]) hx hb d_Mo_find_160 hl rfl (wi_inc1 _) (by decide) rfl (fun ls hl => ?_)
                            refine lv_goto (tgt := 136) hx hb d_Mo_find_163 (by decide) ?_
                            exact ih136 _ (by omega) (c + 1) (i + 1) _ _ _ rfl (by first | assumption | omega) (by first | exact lo_y hcn hq146 | exact lo_n hcn hq146) hP hD hS (lv_sub hl [2, 1, 0] rfl)
                          ·
                            refine lv_if_eq (tgt := 158) hx hb d_Mo_find_149 (by decide) (fun _ => ?_) (fun h9 => absurd h9 (by decide))
                            refine lv_iload_n hx hb d_Mo_find_158 rfl (lv_at hl 1 rfl) ?_
                            refine lv_istore_n (lv' := [(2, .int (nI c)), (0, .ref mo), (3, .int (nI i))]) hx hb d_Mo_find_159 rfl hl (by decide) rfl (fun ls hl => ?_)
                            refine lv_iinc (k := 2) (v := nI (i + 1)) (lv' := [(3, .int (nI (i + 1))), (2, .int (nI c)), (0, .ref mo)]) hx hb d_Mo_find_160 hl rfl (wi_inc1 _) (by decide) rfl (fun ls hl => ?_)
                            refine lv_goto (tgt := 136) hx hb d_Mo_find_163 (by decide) ?_
                            exact ih136 _ (by omega) c (i + 1) _ _ _ rfl (by first | assumption | omega) (by first | exact lo_y hcn hq146 | exact lo_n hcn hq146) hP hD hS (lv_sub hl [2, 1, 0] rfl)
                    exact L136 _ 0 0 _ _ _ rfl (by first | assumption | omega) rfl hP hD hS (lv_sub hl [1, 2, 0] rfl)
                  · intro h110
                    refine lv_aload_n hx hb d_Mo_find_113 rfl (lv_at hl 0 rfl) ?_
                    refine va_get (C := RX8) (T := TX8) (N := 43) hx hb hts inX8 hown hK hP 0 rfl rfl 15 (by decide) (hts _ m_860) (fun _ h9 => h9) rfl d_Mo_find_114 ?_
                    refine lv_iload_n hx hb d_Mo_find_117 rfl (lv_at hl 2 rfl) ?_
                    refine lv_aload_n hx hb d_Mo_find_118 rfl (lv_at hl 0 rfl) ?_
                    refine va_get (C := RX8) (T := TX8) (N := 43) hx hb hts inX8 hown hK hP 0 rfl rfl 2 (by decide) (hts _ m_847) (fun _ h9 => h9) rfl d_Mo_find_119 ?_
                    refine lv_iload_n hx hb d_Mo_find_122 rfl (lv_at hl 2 rfl) ?_
                    refine wn_cald hx hb hK hP 1 1 rfl rfl (by omega) (by omega) d_Mo_find_123 ?_
                    refine wn_eq (y := L.getD i 0) (hc.2.2 i (by omega)) ?_
                    refine ck_cS (rest := [.int (nI i), .ref aW]) (wr := [(mo, .inr (8, [.int (nI 0), .int (nI L.length), .ref ta, .int (nI np), .ref aN, .ref aS, .ref aC, .int (nI tot), .ref aB, .int (bz_c rd), .int (nI rt), .int (nI pl), .ref aR, .ref aO, .int (nI ((fb_c L).length)), .ref aW, .int (bz_c mp), .int (nI rn), .int (nI rs), .int (bz_c gd), .ref aD, .int (nI nh), .ref a1, .ref a2, .ref a3, .ref a4, .int (nI td), .ref aL, .int (nI J.length), .ref aY, .int (nI ms), .ref aM, .int (nI ip), .int (nI it), .int ir, .int (nI il), .ref bN, .ref bS, .ref bC, .ref bB, .ref bR, .ref bO, .ref aU])), (ta, .inl (cA 1, 72, .inl tf)), (aR, .inl (cA 0, 66, .inl rw)), (aW, .inl (cA 0, 72, .inl wf1))]) (ws2 := fun u => [(mo, .inr (8, [.int (nI 0), .int (nI L.length), .ref ta, .int (nI np), .ref aN, .ref aS, .ref aC, .int (nI tot), .ref aB, .int (bz_c rd), .int (nI rt), .int (nI pl), .ref aR, .ref aO, .int (nI ((fb_c L).length)), .ref aW, .int (bz_c mp), .int (nI rn), .int (nI rs), .int (bz_c gd), .ref aD, .int (nI nh), .ref a1, .ref a2, .ref a3, .ref a4, .int (nI td), .ref aL, .int (nI J.length), .ref aY, .int (nI ms), .ref aM, .int (nI ip), .int (nI it), .int ir, .int (nI il), .ref bN, .ref bS, .ref bC, .ref bB, .ref bR, .ref bO, .ref aU])), (ta, .inl (cA 1, 72, .inl tf)), (aR, .inl (cA 0, 66, .inl rw)), (aW, .inl (cA 0, 72, .inl wf1))]) (c_Mo_symbol l D cA K (L.getD i 0) ) hx hb hml hown hts hK hE hA hP hD hS k_Mo_symbol m_1000 (by decide) rfl hl.1 rfl (Nat.le_of_ble_eq_true rfl) d_Mo_find_124 [] [0, 1, 2, 3] [0, 1, 2, 3] rfl rfl (by decide) (fun _ => rfl) (fun r124 u124 H locs hq124 hP hD hS => ?_)
                    try dsimp only at hq124
                    have hP : va_P D vwCl [(mo, .inr (8, [.int (nI 0), .int (nI L.length), .ref ta, .int (nI np), .ref aN, .ref aS, .ref aC, .int (nI tot), .ref aB, .int (bz_c rd), .int (nI rt), .int (nI pl), .ref aR, .ref aO, .int (nI ((fb_c L).length)), .ref aW, .int (bz_c mp), .int (nI rn), .int (nI rs), .int (bz_c gd), .ref aD, .int (nI nh), .ref a1, .ref a2, .ref a3, .ref a4, .int (nI td), .ref aL, .int (nI J.length), .ref aY, .int (nI ms), .ref aM, .int (nI ip), .int (nI it), .int ir, .int (nI il), .ref bN, .ref bS, .ref bC, .ref bB, .ref bR, .ref bO, .ref aU])), (ta, .inl (cA 1, 72, .inl tf)), (aR, .inl (cA 0, 66, .inl rw)), (aW, .inl (cA 0, 72, .inl wf1))] H := hP
                    have hD : va_D A [(mo, .inr (8, [.int (nI 0), .int (nI L.length), .ref ta, .int (nI np), .ref aN, .ref aS, .ref aC, .int (nI tot), .ref aB, .int (bz_c rd), .int (nI rt), .int (nI pl), .ref aR, .ref aO, .int (nI ((fb_c L).length)), .ref aW, .int (bz_c mp), .int (nI rn), .int (nI rs), .int (bz_c gd), .ref aD, .int (nI nh), .ref a1, .ref a2, .ref a3, .ref a4, .int (nI td), .ref aL, .int (nI J.length), .ref aY, .int (nI ms), .ref aM, .int (nI ip), .int (nI it), .int ir, .int (nI il), .ref bN, .ref bS, .ref bC, .ref bB, .ref bR, .ref bO, .ref aU])), (ta, .inl (cA 1, 72, .inl tf)), (aR, .inl (cA 0, 66, .inl rw)), (aW, .inl (cA 0, 72, .inl wf1))] := hD
                    subst r124
                    refine wn_eq (y := (fb_c L).getD i 0) (fb_get (by omega)).symm ?_
                    refine wn_iast hx hb hK hP hD hS 3 0 rfl rfl (by omega) (by omega) d_Mo_find_127 (fun H locs hP hD hS => ?_)
                    have hP : va_P D vwCl [(mo, .inr (8, [.int (nI 0), .int (nI L.length), .ref ta, .int (nI np), .ref aN, .ref aS, .ref aC, .int (nI tot), .ref aB, .int (bz_c rd), .int (nI rt), .int (nI pl), .ref aR, .ref aO, .int (nI ((fb_c L).length)), .ref aW, .int (bz_c mp), .int (nI rn), .int (nI rs), .int (bz_c gd), .ref aD, .int (nI nh), .ref a1, .ref a2, .ref a3, .ref a4, .int (nI td), .ref aL, .int (nI J.length), .ref aY, .int (nI ms), .ref aM, .int (nI ip), .int (nI it), .int ir, .int (nI il), .ref bN, .ref bS, .ref bC, .ref bB, .ref bR, .ref bO, .ref aU])), (ta, .inl (cA 1, 72, .inl tf)), (aR, .inl (cA 0, 66, .inl rw)), (aW, .inl (cA 0, 72, .inl (upd wf1 i ((fb_c L).getD i 0))))] H := hP
                    have hD : va_D A [(mo, .inr (8, [.int (nI 0), .int (nI L.length), .ref ta, .int (nI np), .ref aN, .ref aS, .ref aC, .int (nI tot), .ref aB, .int (bz_c rd), .int (nI rt), .int (nI pl), .ref aR, .ref aO, .int (nI ((fb_c L).length)), .ref aW, .int (bz_c mp), .int (nI rn), .int (nI rs), .int (bz_c gd), .ref aD, .int (nI nh), .ref a1, .ref a2, .ref a3, .ref a4, .int (nI td), .ref aL, .int (nI J.length), .ref aY, .int (nI ms), .ref aM, .int (nI ip), .int (nI it), .int ir, .int (nI il), .ref bN, .ref bS, .ref bC, .ref bB, .ref bR, .ref bO, .ref aU])), (ta, .inl (cA 1, 72, .inl tf)), (aR, .inl (cA 0, 66, .inl rw)), (aW, .inl (cA 0, 72, .inl (upd wf1 i ((fb_c L).getD i 0))))] := hD
                    refine lv_iinc (k := 2) (v := nI (i + 1)) (lv' := [(3, .int (nI (i + 1))), (0, .ref mo), (2, .int (nI 0))]) hx hb d_Mo_find_128 hl rfl (wi_inc1 _) (by decide) rfl (fun ls hl => ?_)
                    refine lv_goto (tgt := 105) hx hb d_Mo_find_131 (by decide) ?_
                    exact ih105 _ (by omega) (i + 1) (upd wf1 i ((fb_c L).getD i 0)) _ _ _ rfl (by first | assumption | omega) (up_s hs rfl) hP hD hS (lv_sub hl [1, 2, 0] rfl)
              exact L105 _ 0 wf _ _ _ rfl (by first | assumption | omega) (fun j hj => absurd hj (Nat.not_lt_zero j)) hP hD hS (lv_sub hl [2, 1, 0] rfl)
            · intro h75
              refine lv_iconst (v := nI 2) hx hb d_Mo_find_78 (by decide) ?_
              refine lv_goto (tgt := 83) hx hb d_Mo_find_79 (by decide) ?_
              refine va_put (D := D) (ci := 8) (v := .int (nI 2)) (ty := .int) (C := RX8) (T := TX8) (N := 43) hx hb hts inX8 tyX8 tyX8_ok nmX8 hown hK hP hD hS 0 rfl rfl 0 (by decide) (hts _ m_845) (fun _ h9 => h9) rfl (by decide +kernel) rfl rfl (Nat.le_of_ble_eq_true rfl) d_Mo_find_83 (fun H locs hP hD hS => ?_)
              have hP : va_P D vwCl [(mo, .inr (8, [.int (nI 2), .int (nI L.length), .ref ta, .int (nI np), .ref aN, .ref aS, .ref aC, .int (nI tot), .ref aB, .int (bz_c rd), .int (nI rt), .int (nI pl), .ref aR, .ref aO, .int (nI Wd.length), .ref aW, .int (bz_c mp), .int (nI rn), .int (nI rs), .int (bz_c gd), .ref aD, .int (nI nh), .ref a1, .ref a2, .ref a3, .ref a4, .int (nI td), .ref aL, .int (nI J.length), .ref aY, .int (nI ms), .ref aM, .int (nI ip), .int (nI it), .int ir, .int (nI il), .ref bN, .ref bS, .ref bC, .ref bB, .ref bR, .ref bO, .ref aU])), (ta, .inl (cA 1, 72, .inl tf)), (aR, .inl (cA 0, 66, .inl rw)), (aW, .inl (cA 0, 72, .inl wf))] H := hP
              have hD : va_D A [(mo, .inr (8, [.int (nI 2), .int (nI L.length), .ref ta, .int (nI np), .ref aN, .ref aS, .ref aC, .int (nI tot), .ref aB, .int (bz_c rd), .int (nI rt), .int (nI pl), .ref aR, .ref aO, .int (nI Wd.length), .ref aW, .int (bz_c mp), .int (nI rn), .int (nI rs), .int (bz_c gd), .ref aD, .int (nI nh), .ref a1, .ref a2, .ref a3, .ref a4, .int (nI td), .ref aL, .int (nI J.length), .ref aY, .int (nI ms), .ref aM, .int (nI ip), .int (nI it), .int ir, .int (nI il), .ref bN, .ref bS, .ref bC, .ref bB, .ref bR, .ref bO, .ref aU])), (ta, .inl (cA 1, 72, .inl tf)), (aR, .inl (cA 0, 66, .inl rw)), (aW, .inl (cA 0, 72, .inl wf))] := hD
              refine lv_iconst (v := nI 0) hx hb d_Mo_find_86 (by decide) ?_
              refine lv_istore_n (lv' := [(2, .int (nI 0)), (0, .ref mo), (1, .int (bz_c g))]) hx hb d_Mo_find_87 rfl hl (by decide) rfl (fun ls hl => ?_)
              refine lv_aload_n hx hb d_Mo_find_88 rfl (lv_at hl 1 rfl) ?_
              refine va_get (C := RX8) (T := TX8) (N := 43) hx hb hts inX8 hown hK hP 0 rfl rfl 0 (by decide) (hts _ m_845) (fun _ h9 => h9) rfl d_Mo_find_89 ?_
              refine lv_if_ne (tgt := 166) hx hb d_Mo_find_92 (by decide) (fun _ => ?_) (fun h9 => absurd h9 (by decide))
              refine lv_aload_n hx hb d_Mo_find_166 rfl (lv_at hl 1 rfl) ?_
              refine lv_iconst (v := nI (([] : List Int32).length)) hx hb d_Mo_find_167 rfl ?_
              refine va_put (D := D) (ci := 8) (v := .int (nI (([] : List Int32).length))) (ty := .int) (C := RX8) (T := TX8) (N := 43) hx hb hts inX8 tyX8 tyX8_ok nmX8 hown hK hP hD hS 0 rfl rfl 1 (by decide) (hts _ m_846) (fun _ h9 => h9) rfl (by decide +kernel) rfl rfl (Nat.le_of_ble_eq_true rfl) d_Mo_find_168 (fun H locs hP hD hS => ?_)
              have hP : va_P D vwCl [(mo, .inr (8, [.int (nI 2), .int (nI (([] : List Int32).length)), .ref ta, .int (nI np), .ref aN, .ref aS, .ref aC, .int (nI tot), .ref aB, .int (bz_c rd), .int (nI rt), .int (nI pl), .ref aR, .ref aO, .int (nI Wd.length), .ref aW, .int (bz_c mp), .int (nI rn), .int (nI rs), .int (bz_c gd), .ref aD, .int (nI nh), .ref a1, .ref a2, .ref a3, .ref a4, .int (nI td), .ref aL, .int (nI J.length), .ref aY, .int (nI ms), .ref aM, .int (nI ip), .int (nI it), .int ir, .int (nI il), .ref bN, .ref bS, .ref bC, .ref bB, .ref bR, .ref bO, .ref aU])), (ta, .inl (cA 1, 72, .inl tf)), (aR, .inl (cA 0, 66, .inl rw)), (aW, .inl (cA 0, 72, .inl wf))] H := hP
              have hD : va_D A [(mo, .inr (8, [.int (nI 2), .int (nI (([] : List Int32).length)), .ref ta, .int (nI np), .ref aN, .ref aS, .ref aC, .int (nI tot), .ref aB, .int (bz_c rd), .int (nI rt), .int (nI pl), .ref aR, .ref aO, .int (nI Wd.length), .ref aW, .int (bz_c mp), .int (nI rn), .int (nI rs), .int (bz_c gd), .ref aD, .int (nI nh), .ref a1, .ref a2, .ref a3, .ref a4, .int (nI td), .ref aL, .int (nI J.length), .ref aY, .int (nI ms), .ref aM, .int (nI ip), .int (nI it), .int ir, .int (nI il), .ref bN, .ref bS, .ref bC, .ref bB, .ref bR, .ref bO, .ref aU])), (ta, .inl (cA 1, 72, .inl tf)), (aR, .inl (cA 0, 66, .inl rw)), (aW, .inl (cA 0, 72, .inl wf))] := hD
              refine lv_iload_n hx hb d_Mo_find_171 rfl (lv_at hl 0 rfl) ?_
              exact hret (nI 0) (nI 2, Wd, wf) _ _ _ 172 d_Mo_find_172 (by first | exact ⟨cd_clear hc, hw1, Or.inr (Or.inr ⟨rfl, hfd, bz_1 h75, rfl, by rw [hcn, show i = pl by omega]⟩)⟩ | exact ⟨cd_clear hc, hw, Or.inl ⟨rfl, hfd, rfl⟩⟩ | exact ⟨cd_clear hc, hw, Or.inr (Or.inl ⟨rfl, hfd, bz_0 h75, rfl⟩)⟩) hP hD hS
          · intro h64
            have hfd := fd_x hl0 (show k = L.length by omega) hg (bz_0 h64)
            refine lv_iconst (v := nI 1) hx hb d_Mo_find_67 (by decide) ?_
            refine lv_goto (tgt := 83) hx hb d_Mo_find_68 (by decide) ?_
            refine va_put (D := D) (ci := 8) (v := .int (nI 1)) (ty := .int) (C := RX8) (T := TX8) (N := 43) hx hb hts inX8 tyX8 tyX8_ok nmX8 hown hK hP hD hS 0 rfl rfl 0 (by decide) (hts _ m_845) (fun _ h9 => h9) rfl (by decide +kernel) rfl rfl (Nat.le_of_ble_eq_true rfl) d_Mo_find_83 (fun H locs hP hD hS => ?_)
            have hP : va_P D vwCl [(mo, .inr (8, [.int (nI 1), .int (nI L.length), .ref ta, .int (nI np), .ref aN, .ref aS, .ref aC, .int (nI tot), .ref aB, .int (bz_c rd), .int (nI rt), .int (nI pl), .ref aR, .ref aO, .int (nI Wd.length), .ref aW, .int (bz_c mp), .int (nI rn), .int (nI rs), .int (bz_c gd), .ref aD, .int (nI nh), .ref a1, .ref a2, .ref a3, .ref a4, .int (nI td), .ref aL, .int (nI J.length), .ref aY, .int (nI ms), .ref aM, .int (nI ip), .int (nI it), .int ir, .int (nI il), .ref bN, .ref bS, .ref bC, .ref bB, .ref bR, .ref bO, .ref aU])), (ta, .inl (cA 1, 72, .inl tf)), (aR, .inl (cA 0, 66, .inl rw)), (aW, .inl (cA 0, 72, .inl wf))] H := hP
            have hD : va_D A [(mo, .inr (8, [.int (nI 1), .int (nI L.length), .ref ta, .int (nI np), .ref aN, .ref aS, .ref aC, .int (nI tot), .ref aB, .int (bz_c rd), .int (nI rt), .int (nI pl), .ref aR, .ref aO, .int (nI Wd.length), .ref aW, .int (bz_c mp), .int (nI rn), .int (nI rs), .int (bz_c gd), .ref aD, .int (nI nh), .ref a1, .ref a2, .ref a3, .ref a4, .int (nI td), .ref aL, .int (nI J.length), .ref aY, .int (nI ms), .ref aM, .int (nI ip), .int (nI it), .int ir, .int (nI il), .ref bN, .ref bS, .ref bC, .ref bB, .ref bR, .ref bO, .ref aU])), (ta, .inl (cA 1, 72, .inl tf)), (aR, .inl (cA 0, 66, .inl rw)), (aW, .inl (cA 0, 72, .inl wf))] := hD
            refine lv_iconst (v := nI 0) hx hb d_Mo_find_86 (by decide) ?_
            refine lv_istore_n (lv' := [(2, .int (nI 0)), (0, .ref mo), (1, .int (bz_c g))]) hx hb d_Mo_find_87 rfl hl (by decide) rfl (fun ls hl => ?_)
            refine lv_aload_n hx hb d_Mo_find_88 rfl (lv_at hl 1 rfl) ?_
            refine va_get (C := RX8) (T := TX8) (N := 43) hx hb hts inX8 hown hK hP 0 rfl rfl 0 (by decide) (hts _ m_845) (fun _ h9 => h9) rfl d_Mo_find_89 ?_
            refine lv_if_ne (tgt := 166) hx hb d_Mo_find_92 (by decide) (fun _ => ?_) (fun h9 => absurd h9 (by decide))
            refine lv_aload_n hx hb d_Mo_find_166 rfl (lv_at hl 1 rfl) ?_
            refine lv_iconst (v := nI (([] : List Int32).length)) hx hb d_Mo_find_167 rfl ?_
            refine va_put (D := D) (ci := 8) (v := .int (nI (([] : List Int32).length))) (ty := .int) (C := RX8) (T := TX8) (N := 43) hx hb hts inX8 tyX8 tyX8_ok nmX8 hown hK hP hD hS 0 rfl rfl 1 (by decide) (hts _ m_846) (fun _ h9 => h9) rfl (by decide +kernel) rfl rfl (Nat.le_of_ble_eq_true rfl) d_Mo_find_168 (fun H locs hP hD hS => ?_)
            have hP : va_P D vwCl [(mo, .inr (8, [.int (nI 1), .int (nI (([] : List Int32).length)), .ref ta, .int (nI np), .ref aN, .ref aS, .ref aC, .int (nI tot), .ref aB, .int (bz_c rd), .int (nI rt), .int (nI pl), .ref aR, .ref aO, .int (nI Wd.length), .ref aW, .int (bz_c mp), .int (nI rn), .int (nI rs), .int (bz_c gd), .ref aD, .int (nI nh), .ref a1, .ref a2, .ref a3, .ref a4, .int (nI td), .ref aL, .int (nI J.length), .ref aY, .int (nI ms), .ref aM, .int (nI ip), .int (nI it), .int ir, .int (nI il), .ref bN, .ref bS, .ref bC, .ref bB, .ref bR, .ref bO, .ref aU])), (ta, .inl (cA 1, 72, .inl tf)), (aR, .inl (cA 0, 66, .inl rw)), (aW, .inl (cA 0, 72, .inl wf))] H := hP
            have hD : va_D A [(mo, .inr (8, [.int (nI 1), .int (nI (([] : List Int32).length)), .ref ta, .int (nI np), .ref aN, .ref aS, .ref aC, .int (nI tot), .ref aB, .int (bz_c rd), .int (nI rt), .int (nI pl), .ref aR, .ref aO, .int (nI Wd.length), .ref aW, .int (bz_c mp), .int (nI rn), .int (nI rs), .int (bz_c gd), .ref aD, .int (nI nh), .ref a1, .ref a2, .ref a3, .ref a4, .int (nI td), .ref aL, .int (nI J.length), .ref aY, .int (nI ms), .ref aM, .int (nI ip), .int (nI it), .int ir, .int (nI il), .ref bN, .ref bS, .ref bC, .ref bB, .ref bR, .ref bO, .ref aU])), (ta, .inl (cA 1, 72, .inl tf)), (aR, .inl (cA 0, 66, .inl rw)), (aW, .inl (cA 0, 72, .inl wf))] := hD
            refine lv_iload_n hx hb d_Mo_find_171 rfl (lv_at hl 0 rfl) ?_
            exact hret (nI 0) (nI 1, Wd, wf) _ _ _ 172 d_Mo_find_172 (by first | exact ⟨cd_clear hc, hw1, Or.inr (Or.inr ⟨rfl, hfd, bz_1 h75, rfl, by rw [hcn, show i = pl by omega]⟩)⟩ | exact ⟨cd_clear hc, hw, Or.inl ⟨rfl, hfd, rfl⟩⟩ | exact ⟨cd_clear hc, hw, Or.inr (Or.inl ⟨rfl, hfd, bz_0 h75, rfl⟩)⟩) hP hD hS
        · intro h32
          refine lv_iload_n hx hb d_Mo_find_35 rfl (lv_at hl 1 rfl) ?_
          refine lv_if_eq (tgt := 54) hx hb d_Mo_find_36 (by decide) ?_ ?_
          · intro h36
            refine lv_iconst (v := nI 0) hx hb d_Mo_find_54 (by decide) ?_
            refine lv_istore_n (lv' := [(1, .int (nI 0)), (0, .ref mo), (2, .int (nI k))]) hx hb d_Mo_find_55 rfl hl (by decide) rfl (fun ls hl => ?_)
            refine lv_iinc (k := 2) (v := nI (k + 1)) (lv' := [(2, .int (nI (k + 1))), (1, .int (nI 0)), (0, .ref mo)]) hx hb d_Mo_find_56 hl rfl (wi_inc1 _) (by decide) rfl (fun ls hl => ?_)
            refine lv_goto (tgt := 27) hx hb d_Mo_find_59 (by decide) ?_
            exact ih27 _ (by omega) (k + 1) _ _ _ _ rfl (by first | assumption | omega) (by first | exact fg_3 hg h36 | exact fg_4 h47 | exact fg_5 hg h36 h47) hP hD hS (lv_sub hl [2, 1, 0] rfl)
          · intro h36
            refine lv_aload_n hx hb d_Mo_find_39 rfl (lv_at hl 0 rfl) ?_
            refine va_get (C := RX8) (T := TX8) (N := 43) hx hb hts inX8 hown hK hP 0 rfl rfl 2 (by decide) (hts _ m_847) (fun _ h9 => h9) rfl d_Mo_find_40 ?_
            refine lv_iload_n hx hb d_Mo_find_43 rfl (lv_at hl 2 rfl) ?_
            refine wn_cald hx hb hK hP 1 1 rfl rfl (by omega) (by omega) d_Mo_find_44 ?_
            refine wn_eq (y := L.getD k 0) (hc.2.2 k (by omega)) ?_
            refine lv_bipush (v := 78) hx hb d_Mo_find_45 (by decide) ?_
            refine lv_icmp_eq (tgt := 54) hx hb d_Mo_find_47 (by decide) ?_ ?_
            · intro h47
              refine lv_iconst (v := nI 0) hx hb d_Mo_find_54 (by decide) ?_
              refine lv_istore_n (lv' := [(1, .int (nI 0)), (0, .ref mo), (2, .int (nI k))]) hx hb d_Mo_find_55 rfl hl (by decide) rfl (fun ls hl => ?_)
              refine lv_iinc (k := 2) (v := nI (k + 1)) (lv' := [(2, .int (nI (k + 1))), (1, .int (nI 0)), (0, .ref mo)]) hx hb d_Mo_find_56 hl rfl (wi_inc1 _) (by decide) rfl (fun ls hl => ?_)
              refine lv_goto (tgt := 27) hx hb d_Mo_find_59 (by decide) ?_
              exact ih27 _ (by omega) (k + 1) _ _ _ _ rfl (by first | assumption | omega) (by first | exact fg_3 hg h36 | exact fg_4 h47 | exact fg_5 hg h36 h47) hP hD hS (lv_sub hl [2, 1, 0] rfl)
            · intro h47
              refine lv_iconst (v := nI 1) hx hb d_Mo_find_50 (by decide) ?_
              refine lv_goto (tgt := 55) hx hb d_Mo_find_51 (by decide) ?_
              refine lv_istore_n (lv' := [(1, .int (nI 1)), (0, .ref mo), (2, .int (nI k))]) hx hb d_Mo_find_55 rfl hl (by decide) rfl (fun ls hl => ?_)
              refine lv_iinc (k := 2) (v := nI (k + 1)) (lv' := [(2, .int (nI (k + 1))), (1, .int (nI 1)), (0, .ref mo)]) hx hb d_Mo_find_56 hl rfl (wi_inc1 _) (by decide) rfl (fun ls hl => ?_)
              refine lv_goto (tgt := 27) hx hb d_Mo_find_59 (by decide) ?_
              exact ih27 _ (by omega) (k + 1) _ _ _ _ rfl (by first | assumption | omega) (by first | exact fg_3 hg h36 | exact fg_4 h47 | exact fg_5 hg h36 h47) hP hD hS (lv_sub hl [2, 1, 0] rfl)
    exact L27 _ 0 false _ _ _ rfl (by first | assumption | omega) (by first | exact fg_1 (by omega) (h16 ▸ hq9) | exact fg_2 (fun y => h16 (nb_un hq9 y.2.1)) | exact fg_2 (fun y => by have y1 := y.1; omega)) hP hD hS (lv_sub hl [2, 1, 0] rfl)
  · intro h4
    refine lv_aload_n hx hb d_Mo_find_7 rfl (lv_at hl 0 rfl) ?_
    refine lv_iconst (v := nI 0) hx hb d_Mo_find_8 (by decide) ?_
    refine ck_cV (C := "ReadMapperModel") (ci := 8) (rest := []) (wr := [(aR, .inl (cA 0, 66, .inl rw)), (aW, .inl (cA 0, 72, .inl wf))]) (ws2 := fun u => [(mo, .inr (8, [.int zt, .int (nI L.length), .ref ta, .int (nI np), .ref aN, .ref aS, .ref aC, .int (nI tot), .ref aB, .int (bz_c rd), .int (nI rt), .int (nI pl), .ref aR, .ref aO, .int (nI Wd.length), .ref aW, .int (bz_c mp), .int (nI rn), .int (nI rs), .int (bz_c gd), .ref aD, .int (nI nh), .ref a1, .ref a2, .ref a3, .ref a4, .int (nI td), .ref aL, .int (nI J.length), .ref aY, .int (nI ms), .ref aM, .int (nI ip), .int (nI it), .int ir, .int (nI il), .ref bN, .ref bS, .ref bC, .ref bB, .ref bR, .ref bO, .ref aU])), (ta, .inl (cA 1, 72, .inl tf)), (aR, .inl (cA 0, 66, .inl rw)), (aW, .inl (cA 0, 72, .inl wf))]) (c_Mo_basesEnd l D cA K mo ta aN aS aC aB aR aO aW aD a1 a2 a3 a4 aL aY aM bN bS bC bB bR bO aU rd mp gd zt ir np tot rt pl Wd.length rn rs nh td ms ip it il L J tf 0 (by first | assumption | omega) (by first | assumption | omega)) hx hb hml hown hts hK hE hA hP hD hS k_Mo_basesEnd m_996 (by decide) 0 rfl rfl rfl hl.1 rfl (Nat.le_of_ble_eq_true rfl) d_Mo_find_9  [0, 1] [2, 3] [2, 3, 0, 1] rfl rfl (by decide) (fun _ => rfl) (fun r9 u9 H locs hq9 hP hD hS => ?_)
    try dsimp only at hq9
    have hP : va_P D vwCl [(mo, .inr (8, [.int zt, .int (nI L.length), .ref ta, .int (nI np), .ref aN, .ref aS, .ref aC, .int (nI tot), .ref aB, .int (bz_c rd), .int (nI rt), .int (nI pl), .ref aR, .ref aO, .int (nI Wd.length), .ref aW, .int (bz_c mp), .int (nI rn), .int (nI rs), .int (bz_c gd), .ref aD, .int (nI nh), .ref a1, .ref a2, .ref a3, .ref a4, .int (nI td), .ref aL, .int (nI J.length), .ref aY, .int (nI ms), .ref aM, .int (nI ip), .int (nI it), .int ir, .int (nI il), .ref bN, .ref bS, .ref bC, .ref bB, .ref bR, .ref bO, .ref aU])), (ta, .inl (cA 1, 72, .inl tf)), (aR, .inl (cA 0, 66, .inl rw)), (aW, .inl (cA 0, 72, .inl wf))] H := hP
    have hD : va_D A [(mo, .inr (8, [.int zt, .int (nI L.length), .ref ta, .int (nI np), .ref aN, .ref aS, .ref aC, .int (nI tot), .ref aB, .int (bz_c rd), .int (nI rt), .int (nI pl), .ref aR, .ref aO, .int (nI Wd.length), .ref aW, .int (bz_c mp), .int (nI rn), .int (nI rs), .int (bz_c gd), .ref aD, .int (nI nh), .ref a1, .ref a2, .ref a3, .ref a4, .int (nI td), .ref aL, .int (nI J.length), .ref aY, .int (nI ms), .ref aM, .int (nI ip), .int (nI it), .int ir, .int (nI il), .ref bN, .ref bS, .ref bC, .ref bB, .ref bR, .ref bO, .ref aU])), (ta, .inl (cA 1, 72, .inl tf)), (aR, .inl (cA 0, 66, .inl rw)), (aW, .inl (cA 0, 72, .inl wf))] := hD
    obtain ⟨k9, rfl, hq9⟩ := hq9
    have hk9 := hq9.2.1
    refine lv_aload_n hx hb d_Mo_find_12 rfl (lv_at hl 0 rfl) ?_
    refine va_get (C := RX8) (T := TX8) (N := 43) hx hb hts inX8 hown hK hP 0 rfl rfl 1 (by decide) (hts _ m_846) (fun _ h9 => h9) rfl d_Mo_find_13 ?_
    refine wn_icmp_ne (by omega) (by omega) (tgt := 23) hx hb d_Mo_find_16 (by decide) ?_ ?_
    · intro h16
      refine lv_iconst (v := nI 0) hx hb d_Mo_find_23 (by decide) ?_
      refine lv_istore_n (lv' := [(1, .int (nI 0)), (0, .ref mo)]) hx hb d_Mo_find_24 rfl hl (by decide) rfl (fun ls hl => ?_)
      refine lv_iconst (v := nI 0) hx hb d_Mo_find_25 (by decide) ?_
      refine lv_istore_n (lv' := [(2, .int (nI 0)), (1, .int (nI 0)), (0, .ref mo)]) hx hb d_Mo_find_26 rfl hl (by decide) rfl (fun ls hl => ?_)
      have hl : lv_has ls 4 [(2, .int (nI 0)), (1, .int (bz_c false)), (0, .ref mo)] := hl
      have L27 : ∀ (nG : Nat) (k : Nat) (g : Bool) (H : Heap) (locs : List Loc) (ls : Array Slot), L.length - k = nG → (k ≤ L.length) → ((g = true ↔ (0 < L.length ∧ nb_p L 0 L.length ∧ ∀ j, j < k → ¬ L.getD j 0 = 78))) →  va_P D vwCl [(mo, .inr (8, [.int zt, .int (nI L.length), .ref ta, .int (nI np), .ref aN, .ref aS, .ref aC, .int (nI tot), .ref aB, .int (bz_c rd), .int (nI rt), .int (nI pl), .ref aR, .ref aO, .int (nI Wd.length), .ref aW, .int (bz_c mp), .int (nI rn), .int (nI rs), .int (bz_c gd), .ref aD, .int (nI nh), .ref a1, .ref a2, .ref a3, .ref a4, .int (nI td), .ref aL, .int (nI J.length), .ref aY, .int (nI ms), .ref aM, .int (nI ip), .int (nI it), .int ir, .int (nI il), .ref bN, .ref bS, .ref bC, .ref bB, .ref bR, .ref bO, .ref aU])), (ta, .inl (cA 1, 72, .inl tf)), (aR, .inl (cA 0, 66, .inl rw)), (aW, .inl (cA 0, 72, .inl wf))] H → va_D A [(mo, .inr (8, [.int zt, .int (nI L.length), .ref ta, .int (nI np), .ref aN, .ref aS, .ref aC, .int (nI tot), .ref aB, .int (bz_c rd), .int (nI rt), .int (nI pl), .ref aR, .ref aO, .int (nI Wd.length), .ref aW, .int (bz_c mp), .int (nI rn), .int (nI rs), .int (bz_c gd), .ref aD, .int (nI nh), .ref a1, .ref a2, .ref a3, .ref a4, .int (nI td), .ref aL, .int (nI J.length), .ref aY, .int (nI ms), .ref aM, .int (nI ip), .int (nI it), .int ir, .int (nI il), .ref bN, .ref bS, .ref bC, .ref bB, .ref bR, .ref bO, .ref aU])), (ta, .inl (cA 1, 72, .inl tf)), (aR, .inl (cA 0, 66, .inl rw)), (aW, .inl (cA 0, 72, .inl wf))] → va_S A sG.heap H locs → lv_has ls 4 [(0, .ref mo), (1, .int (bz_c g)), (2, .int (nI k))] → W pG l eG (rm_d 3) sG mG argsG belowG methG cG H locs 0 0 Q (F0 mG 27 ls []) := by
        intro nG
        induction nG using Nat.strongRecOn with
        | ind nG ih27 =>
          intro k g H locs ls hn27 hk hg hP hD hS hl
          refine lv_iload_n hx hb d_Mo_find_27 rfl (lv_at hl 2 rfl) ?_
          refine lv_aload_n hx hb d_Mo_find_28 rfl (lv_at hl 0 rfl) ?_
          refine va_get (C := RX8) (T := TX8) (N := 43) hx hb hts inX8 hown hK hP 0 rfl rfl 1 (by decide) (hts _ m_846) (fun _ h9 => h9) rfl d_Mo_find_29 ?_
          refine wn_icmp_ge (by omega) (by omega) (tgt := 62) hx hb d_Mo_find_32 (by decide) ?_ ?_
          · intro h32
            refine lv_aload_n hx hb d_Mo_find_62 rfl (lv_at hl 0 rfl) ?_
            refine lv_iload_n hx hb d_Mo_find_63 rfl (lv_at hl 1 rfl) ?_
            refine lv_if_ne (tgt := 71) hx hb d_Mo_find_64 (by decide) ?_ ?_
            · intro h64
              have hfd := fd_z hl0 (show k = L.length by omega) hg (bz_1 h64)
              refine lv_aload_n hx hb d_Mo_find_71 rfl (lv_at hl 0 rfl) ?_
              refine va_get (C := RX8) (T := TX8) (N := 43) hx hb hts inX8 hown hK hP 0 rfl rfl 9 (by decide) (hts _ m_854) (fun _ h9 => h9) rfl d_Mo_find_72 ?_
              refine lv_if_ne (tgt := 82) hx hb d_Mo_find_75 (by decide) ?_ ?_
              · intro h75
                refine lv_iconst (v := nI 0) hx hb d_Mo_find_82 (by decide) ?_
                refine va_put (D := D) (ci := 8) (v := .int (nI 0)) (ty := .int) (C := RX8) (T := TX8) (N := 43) hx hb hts inX8 tyX8 tyX8_ok nmX8 hown hK hP hD hS 0 rfl rfl 0 (by decide) (hts _ m_845) (fun _ h9 => h9) rfl (by decide +kernel) rfl rfl (Nat.le_of_ble_eq_true rfl) d_Mo_find_83 (fun H locs hP hD hS => ?_)
                have hP : va_P D vwCl [(mo, .inr (8, [.int (nI 0), .int (nI L.length), .ref ta, .int (nI np), .ref aN, .ref aS, .ref aC, .int (nI tot), .ref aB, .int (bz_c rd), .int (nI rt), .int (nI pl), .ref aR, .ref aO, .int (nI Wd.length), .ref aW, .int (bz_c mp), .int (nI rn), .int (nI rs), .int (bz_c gd), .ref aD, .int (nI nh), .ref a1, .ref a2, .ref a3, .ref a4, .int (nI td), .ref aL, .int (nI J.length), .ref aY, .int (nI ms), .ref aM, .int (nI ip), .int (nI it), .int ir, .int (nI il), .ref bN, .ref bS, .ref bC, .ref bB, .ref bR, .ref bO, .ref aU])), (ta, .inl (cA 1, 72, .inl tf)), (aR, .inl (cA 0, 66, .inl rw)), (aW, .inl (cA 0, 72, .inl wf))] H := hP
                have hD : va_D A [(mo, .inr (8, [.int (nI 0), .int (nI L.length), .ref ta, .int (nI np), .ref aN, .ref aS, .ref aC, .int (nI tot), .ref aB, .int (bz_c rd), .int (nI rt), .int (nI pl), .ref aR, .ref aO, .int (nI Wd.length), .ref aW, .int (bz_c mp), .int (nI rn), .int (nI rs), .int (bz_c gd), .ref aD, .int (nI nh), .ref a1, .ref a2, .ref a3, .ref a4, .int (nI td), .ref aL, .int (nI J.length), .ref aY, .int (nI ms), .ref aM, .int (nI ip), .int (nI it), .int ir, .int (nI il), .ref bN, .ref bS, .ref bC, .ref bB, .ref bR, .ref bO, .ref aU])), (ta, .inl (cA 1, 72, .inl tf)), (aR, .inl (cA 0, 66, .inl rw)), (aW, .inl (cA 0, 72, .inl wf))] := hD
                refine lv_iconst (v := nI 0) hx hb d_Mo_find_86 (by decide) ?_
                refine lv_istore_n (lv' := [(2, .int (nI 0)), (0, .ref mo), (1, .int (bz_c g))]) hx hb d_Mo_find_87 rfl hl (by decide) rfl (fun ls hl => ?_)
                refine lv_aload_n hx hb d_Mo_find_88 rfl (lv_at hl 1 rfl) ?_
                refine va_get (C := RX8) (T := TX8) (N := 43) hx hb hts inX8 hown hK hP 0 rfl rfl 0 (by decide) (hts _ m_845) (fun _ h9 => h9) rfl d_Mo_find_89 ?_
                refine lv_if_ne (tgt := 166) hx hb d_Mo_find_92 (by decide) (fun h9 => absurd h9 (by decide)) (fun _ => ?_)
                refine lv_aload_n hx hb d_Mo_find_95 rfl (lv_at hl 1 rfl) ?_
                refine lv_aload_n hx hb d_Mo_find_96 rfl (lv_at hl 1 rfl) ?_
                refine va_get (C := RX8) (T := TX8) (N := 43) hx hb hts inX8 hown hK hP 0 rfl rfl 1 (by decide) (hts _ m_846) (fun _ h9 => h9) rfl d_Mo_find_97 ?_
                refine wn_nat (b := (fb_c L).length) (fb_len L).symm ?_
                refine va_put (D := D) (ci := 8) (v := .int (nI ((fb_c L).length))) (ty := .int) (C := RX8) (T := TX8) (N := 43) hx hb hts inX8 tyX8 tyX8_ok nmX8 hown hK hP hD hS 0 rfl rfl 14 (by decide) (hts _ m_859) (fun _ h9 => h9) rfl (by decide +kernel) rfl rfl (Nat.le_of_ble_eq_true rfl) d_Mo_find_100 (fun H locs hP hD hS => ?_)
                have hP : va_P D vwCl [(mo, .inr (8, [.int (nI 0), .int (nI L.length), .ref ta, .int (nI np), .ref aN, .ref aS, .ref aC, .int (nI tot), .ref aB, .int (bz_c rd), .int (nI rt), .int (nI pl), .ref aR, .ref aO, .int (nI ((fb_c L).length)), .ref aW, .int (bz_c mp), .int (nI rn), .int (nI rs), .int (bz_c gd), .ref aD, .int (nI nh), .ref a1, .ref a2, .ref a3, .ref a4, .int (nI td), .ref aL, .int (nI J.length), .ref aY, .int (nI ms), .ref aM, .int (nI ip), .int (nI it), .int ir, .int (nI il), .ref bN, .ref bS, .ref bC, .ref bB, .ref bR, .ref bO, .ref aU])), (ta, .inl (cA 1, 72, .inl tf)), (aR, .inl (cA 0, 66, .inl rw)), (aW, .inl (cA 0, 72, .inl wf))] H := hP
                have hD : va_D A [(mo, .inr (8, [.int (nI 0), .int (nI L.length), .ref ta, .int (nI np), .ref aN, .ref aS, .ref aC, .int (nI tot), .ref aB, .int (bz_c rd), .int (nI rt), .int (nI pl), .ref aR, .ref aO, .int (nI ((fb_c L).length)), .ref aW, .int (bz_c mp), .int (nI rn), .int (nI rs), .int (bz_c gd), .ref aD, .int (nI nh), .ref a1, .ref a2, .ref a3, .ref a4, .int (nI td), .ref aL, .int (nI J.length), .ref aY, .int (nI ms), .ref aM, .int (nI ip), .int (nI it), .int ir, .int (nI il), .ref bN, .ref bS, .ref bC, .ref bB, .ref bR, .ref bO, .ref aU])), (ta, .inl (cA 1, 72, .inl tf)), (aR, .inl (cA 0, 66, .inl rw)), (aW, .inl (cA 0, 72, .inl wf))] := hD
                refine lv_iconst (v := nI 0) hx hb d_Mo_find_103 (by decide) ?_
                refine lv_istore_n (lv' := [(3, .int (nI 0)), (2, .int (nI 0)), (0, .ref mo), (1, .int (bz_c g))]) hx hb d_Mo_find_104 rfl hl (by decide) rfl (fun ls hl => ?_)
                have L105 : ∀ (nG : Nat) (i : Nat) (wf1 : Nat → Int32) (H : Heap) (locs : List Loc) (ls : Array Slot), L.length - i = nG → (i ≤ L.length) → (∀ j, j < i → wf1 j = (fb_c L).getD j 0) →  va_P D vwCl [(mo, .inr (8, [.int (nI 0), .int (nI L.length), .ref ta, .int (nI np), .ref aN, .ref aS, .ref aC, .int (nI tot), .ref aB, .int (bz_c rd), .int (nI rt), .int (nI pl), .ref aR, .ref aO, .int (nI ((fb_c L).length)), .ref aW, .int (bz_c mp), .int (nI rn), .int (nI rs), .int (bz_c gd), .ref aD, .int (nI nh), .ref a1, .ref a2, .ref a3, .ref a4, .int (nI td), .ref aL, .int (nI J.length), .ref aY, .int (nI ms), .ref aM, .int (nI ip), .int (nI it), .int ir, .int (nI il), .ref bN, .ref bS, .ref bC, .ref bB, .ref bR, .ref bO, .ref aU])), (ta, .inl (cA 1, 72, .inl tf)), (aR, .inl (cA 0, 66, .inl rw)), (aW, .inl (cA 0, 72, .inl wf1))] H → va_D A [(mo, .inr (8, [.int (nI 0), .int (nI L.length), .ref ta, .int (nI np), .ref aN, .ref aS, .ref aC, .int (nI tot), .ref aB, .int (bz_c rd), .int (nI rt), .int (nI pl), .ref aR, .ref aO, .int (nI ((fb_c L).length)), .ref aW, .int (bz_c mp), .int (nI rn), .int (nI rs), .int (bz_c gd), .ref aD, .int (nI nh), .ref a1, .ref a2, .ref a3, .ref a4, .int (nI td), .ref aL, .int (nI J.length), .ref aY, .int (nI ms), .ref aM, .int (nI ip), .int (nI it), .int ir, .int (nI il), .ref bN, .ref bS, .ref bC, .ref bB, .ref bR, .ref bO, .ref aU])), (ta, .inl (cA 1, 72, .inl tf)), (aR, .inl (cA 0, 66, .inl rw)), (aW, .inl (cA 0, 72, .inl wf1))] → va_S A sG.heap H locs → lv_has ls 4 [(0, .ref mo), (2, .int (nI 0)), (3, .int (nI i))] → W pG l eG (rm_d 3) sG mG argsG belowG methG cG H locs 0 0 Q (F0 mG 105 ls []) := by
                  intro nG
                  induction nG using Nat.strongRecOn with
                  | ind nG ih105 =>
                    intro i wf1 H locs ls hn105 hi hs hP hD hS hl
                    refine lv_iload_n hx hb d_Mo_find_105 rfl (lv_at hl 2 rfl) ?_
                    refine lv_aload_n hx hb d_Mo_find_106 rfl (lv_at hl 0 rfl) ?_
                    refine va_get (C := RX8) (T := TX8) (N := 43) hx hb hts inX8 hown hK hP 0 rfl rfl 1 (by decide) (hts _ m_846) (fun _ h9 => h9) rfl d_Mo_find_107 ?_
                    refine wn_icmp_ge (by omega) (by omega) (tgt := 134) hx hb d_Mo_find_110 (by decide) ?_ ?_
                    · intro h110
                      have hw1 : cd_r 72 wf1 (fb_c L) := ⟨by rw [fb_len]; omega, by omega, fun j hj => hs j (by rw [fb_len] at hj; omega)⟩
                      have hrw := hrd (bz_1 h75)
                      refine lv_iconst (v := nI 0) hx hb d_Mo_find_134 (by decide) ?_
                      refine lv_istore_n (lv' := [(3, .int (nI 0)), (0, .ref mo), (2, .int (nI 0))]) hx hb d_Mo_find_135 rfl hl (by decide) rfl (fun ls hl => ?_)
                      have L136 : ∀ (nG : Nat) (c i : Nat) (H : Heap) (locs : List Loc) (ls : Array Slot), pl - i = nG → (i ≤ pl) → (c = cn_t (fun p => bw_p G pl (fb_c L) p) i) →  va_P D vwCl [(mo, .inr (8, [.int (nI 0), .int (nI L.length), .ref ta, .int (nI np), .ref aN, .ref aS, .ref aC, .int (nI tot), .ref aB, .int (bz_c rd), .int (nI rt), .int (nI pl), .ref aR, .ref aO, .int (nI ((fb_c L).length)), .ref aW, .int (bz_c mp), .int (nI rn), .int (nI rs), .int (bz_c gd), .ref aD, .int (nI nh), .ref a1, .ref a2, .ref a3, .ref a4, .int (nI td), .ref aL, .int (nI J.length), .ref aY, .int (nI ms), .ref aM, .int (nI ip), .int (nI it), .int ir, .int (nI il), .ref bN, .ref bS, .ref bC, .ref bB, .ref bR, .ref bO, .ref aU])), (ta, .inl (cA 1, 72, .inl tf)), (aR, .inl (cA 0, 66, .inl rw)), (aW, .inl (cA 0, 72, .inl wf1))] H → va_D A [(mo, .inr (8, [.int (nI 0), .int (nI L.length), .ref ta, .int (nI np), .ref aN, .ref aS, .ref aC, .int (nI tot), .ref aB, .int (bz_c rd), .int (nI rt), .int (nI pl), .ref aR, .ref aO, .int (nI ((fb_c L).length)), .ref aW, .int (bz_c mp), .int (nI rn), .int (nI rs), .int (bz_c gd), .ref aD, .int (nI nh), .ref a1, .ref a2, .ref a3, .ref a4, .int (nI td), .ref aL, .int (nI J.length), .ref aY, .int (nI ms), .ref aM, .int (nI ip), .int (nI it), .int ir, .int (nI il), .ref bN, .ref bS, .ref bC, .ref bB, .ref bR, .ref bO, .ref aU])), (ta, .inl (cA 1, 72, .inl tf)), (aR, .inl (cA 0, 66, .inl rw)), (aW, .inl (cA 0, 72, .inl wf1))] → va_S A sG.heap H locs → lv_has ls 4 [(0, .ref mo), (2, .int (nI c)), (3, .int (nI i))] → W pG l eG (rm_d 3) sG mG argsG belowG methG cG H locs 0 0 Q (F0 mG 136 ls []) := by
                        intro nG
                        induction nG using Nat.strongRecOn with
                        | ind nG ih136 =>
                          intro c i H locs ls hn136 hi hcn hP hD hS hl
                          have hcl := cn_le (fun p => bw_p G pl (fb_c L) p) i
                          rw [← hcn] at hcl
                          refine lv_iload_n hx hb d_Mo_find_136 rfl (lv_at hl 2 rfl) ?_
                          refine lv_aload_n hx hb d_Mo_find_137 rfl (lv_at hl 0 rfl) ?_
                          refine va_get (C := RX8) (T := TX8) (N := 43) hx hb hts inX8 hown hK hP 0 rfl rfl 11 (by decide) (hts _ m_856) (fun _ h9 => h9) rfl d_Mo_find_138 ?_
                          refine wn_icmp_ge (by omega) (by omega) (tgt := 166) hx hb d_Mo_find_141 (by decide) ?_ ?_
                          · intro h141
                            refine lv_aload_n hx hb d_Mo_find_166 rfl (lv_at hl 0 rfl) ?_
                            refine lv_iconst (v := nI (([] : List Int32).length)) hx hb d_Mo_find_167 rfl ?_
                            refine va_put (D := D) (ci := 8) (v := .int (nI (([] : List Int32).length))) (ty := .int) (C := RX8) (T := TX8) (N := 43) hx hb hts inX8 tyX8 tyX8_ok nmX8 hown hK hP hD hS 0 rfl rfl 1 (by decide) (hts _ m_846) (fun _ h9 => h9) rfl (by decide +kernel) rfl rfl (Nat.le_of_ble_eq_true rfl) d_Mo_find_168 (fun H locs hP hD hS => ?_)
                            have hP : va_P D vwCl [(mo, .inr (8, [.int (nI 0), .int (nI (([] : List Int32).length)), .ref ta, .int (nI np), .ref aN, .ref aS, .ref aC, .int (nI tot), .ref aB, .int (bz_c rd), .int (nI rt), .int (nI pl), .ref aR, .ref aO, .int (nI ((fb_c L).length)), .ref aW, .int (bz_c mp), .int (nI rn), .int (nI rs), .int (bz_c gd), .ref aD, .int (nI nh), .ref a1, .ref a2, .ref a3, .ref a4, .int (nI td), .ref aL, .int (nI J.length), .ref aY, .int (nI ms), .ref aM, .int (nI ip), .int (nI it), .int ir, .int (nI il), .ref bN, .ref bS, .ref bC, .ref bB, .ref bR, .ref bO, .ref aU])), (ta, .inl (cA 1, 72, .inl tf)), (aR, .inl (cA 0, 66, .inl rw)), (aW, .inl (cA 0, 72, .inl wf1))] H := hP
                            have hD : va_D A [(mo, .inr (8, [.int (nI 0), .int (nI (([] : List Int32).length)), .ref ta, .int (nI np), .ref aN, .ref aS, .ref aC, .int (nI tot), .ref aB, .int (bz_c rd), .int (nI rt), .int (nI pl), .ref aR, .ref aO, .int (nI ((fb_c L).length)), .ref aW, .int (bz_c mp), .int (nI rn), .int (nI rs), .int (bz_c gd), .ref aD, .int (nI nh), .ref a1, .ref a2, .ref a3, .ref a4, .int (nI td), .ref aL, .int (nI J.length), .ref aY, .int (nI ms), .ref aM, .int (nI ip), .int (nI it), .int ir, .int (nI il), .ref bN, .ref bS, .ref bC, .ref bB, .ref bR, .ref bO, .ref aU])), (ta, .inl (cA 1, 72, .inl tf)), (aR, .inl (cA 0, 66, .inl rw)), (aW, .inl (cA 0, 72, .inl wf1))] := hD
                            refine lv_iload_n hx hb d_Mo_find_171 rfl (lv_at hl 1 rfl) ?_
                            exact hret (nI c) (nI 0, fb_c L, wf1) _ _ _ 172 d_Mo_find_172 (by first | exact ⟨cd_clear hc, hw1, Or.inr (Or.inr ⟨rfl, hfd, bz_1 h75, rfl, by rw [hcn, show i = pl by omega]⟩)⟩ | exact ⟨cd_clear hc, hw, Or.inl ⟨rfl, hfd, rfl⟩⟩ | exact ⟨cd_clear hc, hw, Or.inr (Or.inl ⟨rfl, hfd, bz_0 h75, rfl⟩)⟩) hP hD hS
                          · intro h141
                            refine lv_aload_n hx hb d_Mo_find_144 rfl (lv_at hl 0 rfl) ?_
                            refine lv_iload_n hx hb d_Mo_find_145 rfl (lv_at hl 2 rfl) ?_
                            refine ck_cV (C := "ReadMapperModel") (ci := 8) (rest := []) (wr := [(ta, .inl (cA 1, 72, .inl tf))]) (ws2 := fun u => [(mo, .inr (8, [.int (nI 0), .int (nI L.length), .ref ta, .int (nI np), .ref aN, .ref aS, .ref aC, .int (nI tot), .ref aB, .int (bz_c rd), .int (nI rt), .int (nI pl), .ref aR, .ref aO, .int (nI ((fb_c L).length)), .ref aW, .int (bz_c mp), .int (nI rn), .int (nI rs), .int (bz_c gd), .ref aD, .int (nI nh), .ref a1, .ref a2, .ref a3, .ref a4, .int (nI td), .ref aL, .int (nI J.length), .ref aY, .int (nI ms), .ref aM, .int (nI ip), .int (nI it), .int ir, .int (nI il), .ref bN, .ref bS, .ref bC, .ref bB, .ref bR, .ref bO, .ref aU])), (ta, .inl (cA 1, 72, .inl tf)), (aR, .inl (cA 0, 66, .inl rw)), (aW, .inl (cA 0, 72, .inl wf1))]) (c_Mo_beginsWith l D cA K mo ta aN aS aC aB aR aO aW aD a1 a2 a3 a4 aL aY aM bN bS bC bB bR bO aU rd mp gd (nI 0) ir np tot rt pl rn rs nh td ms ip it il L J rw wf1 G (fb_c L) i (by first | assumption | omega) hrw hw1 (by first | assumption | omega)) hx hb hml hown hts hK hE hA hP hD hS k_Mo_beginsWith m_1055 (by decide) 0 rfl rfl rfl hl.1 rfl (Nat.le_of_ble_eq_true rfl) d_Mo_find_146  [0, 2, 3] [1] [1, 0, 2, 3] rfl rfl (by decide) (fun _ => rfl) (fun r146 u146 H locs hq146 hP hD hS => ?_)
                            try dsimp only at hq146
                            have hP : va_P D vwCl [(mo, .inr (8, [.int (nI 0), .int (nI L.length), .ref ta, .int (nI np), .ref aN, .ref aS, .ref aC, .int (nI tot), .ref aB, .int (bz_c rd), .int (nI rt), .int (nI pl), .ref aR, .ref aO, .int (nI ((fb_c L).length)), .ref aW, .int (bz_c mp), .int (nI rn), .int (nI rs), .int (bz_c gd), .ref aD, .int (nI nh), .ref a1, .ref a2, .ref a3, .ref a4, .int (nI td), .ref aL, .int (nI J.length), .ref aY, .int (nI ms), .ref aM, .int (nI ip), .int (nI it), .int ir, .int (nI il), .ref bN, .ref bS, .ref bC, .ref bB, .ref bR, .ref bO, .ref aU])), (ta, .inl (cA 1, 72, .inl tf)), (aR, .inl (cA 0, 66, .inl rw)), (aW, .inl (cA 0, 72, .inl wf1))] H := hP
                            have hD : va_D A [(mo, .inr (8, [.int (nI 0), .int (nI L.length), .ref ta, .int (nI np), .ref aN, .ref aS, .ref aC, .int (nI tot), .ref aB, .int (bz_c rd), .int (nI rt), .int (nI pl), .ref aR, .ref aO, .int (nI ((fb_c L).length)), .ref aW, .int (bz_c mp), .int (nI rn), .int (nI rs), .int (bz_c gd), .ref aD, .int (nI nh), .ref a1, .ref a2, .ref a3, .ref a4, .int (nI td), .ref aL, .int (nI J.length), .ref aY, .int (nI ms), .ref aM, .int (nI ip), .int (nI it), .int ir, .int (nI il), .ref bN, .ref bS, .ref bC, .ref bB, .ref bR, .ref bO, .ref aU])), (ta, .inl (cA 1, 72, .inl tf)), (aR, .inl (cA 0, 66, .inl rw)), (aW, .inl (cA 0, 72, .inl wf1))] := hD
                            rcases hq146 with ⟨rfl, hq146⟩ | ⟨rfl, hq146⟩
                            ·
                              refine lv_if_eq (tgt := 158) hx hb d_Mo_find_149 (by decide) (fun h9 => absurd h9 (by decide)) (fun _ => ?_)
                              refine lv_iload_n hx hb d_Mo_find_152 rfl (lv_at hl 1 rfl) ?_
                              refine lv_iconst (v := nI 1) hx hb d_Mo_find_153 (by decide) ?_
                              refine wn_iadd hx hb d_Mo_find_154 ?_
                              refine lv_goto (tgt := 159) hx hb d_Mo_find_155 (by decide) ?_
                              refine lv_istore_n (lv' := [(2, .int (nI (c + 1))), (0, .ref mo), (3, .int (nI i))]) hx hb d_Mo_find_159 rfl hl (by decide) rfl (fun ls hl => ?_)
                              refine lv_iinc (k := 2) (v := nI (i + 1)) (lv' := [(3, .int (nI (i + 1))), (2, .int (nI (c + 1))), (0, .ref mo)]) hx hb d_Mo_find_160 hl rfl (wi_inc1 _) (by decide) rfl (fun ls hl => ?_)
                              refine lv_goto (tgt := 136) hx hb d_Mo_find_163 (by decide) ?_
                              exact ih136 _ (by omega) (c + 1) (i + 1) _ _ _ rfl (by first | assumption | omega) (by first | exact lo_y hcn hq146 | exact lo_n hcn hq146) hP hD hS (lv_sub hl [2, 1, 0] rfl)
                            ·
                              refine lv_if_eq (tgt := 158) hx hb d_Mo_find_149 (by decide) (fun _ => ?_) (fun h9 => absurd h9 (by decide))
                              refine lv_iload_n hx hb d_Mo_find_158 rfl (lv_at hl 1 rfl) ?_
                              refine lv_istore_n (lv' := [(2, .int (nI c)), (0, .ref mo), (3, .int (nI i))]) hx hb d_Mo_find_159 rfl hl (by decide) rfl (fun ls hl => ?_)
                              refine lv_iinc (k := 2) (v := nI (i + 1)) (lv' := [(3, .int (nI (i + 1))), (2, .int (nI c)), (0, .ref mo)]) hx hb d_Mo_find_160 hl rfl (wi_inc1 _) (by decide) rfl (fun ls hl => ?_)
                              refine lv_goto (tgt := 136) hx hb d_Mo_find_163 (by decide) ?_
                              exact ih136 _ (by omega) c (i + 1) _ _ _ rfl (by first | assumption | omega) (by first | exact lo_y hcn hq146 | exact lo_n hcn hq146) hP hD hS (lv_sub hl [2, 1, 0] rfl)
                      exact L136 _ 0 0 _ _ _ rfl (by first | assumption | omega) rfl hP hD hS (lv_sub hl [1, 2, 0] rfl)
                    · intro h110
                      refine lv_aload_n hx hb d_Mo_find_113 rfl (lv_at hl 0 rfl) ?_
                      refine va_get (C := RX8) (T := TX8) (N := 43) hx hb hts inX8 hown hK hP 0 rfl rfl 15 (by decide) (hts _ m_860) (fun _ h9 => h9) rfl d_Mo_find_114 ?_
                      refine lv_iload_n hx hb d_Mo_find_117 rfl (lv_at hl 2 rfl) ?_
                      refine lv_aload_n hx hb d_Mo_find_118 rfl (lv_at hl 0 rfl) ?_
                      refine va_get (C := RX8) (T := TX8) (N := 43) hx hb hts inX8 hown hK hP 0 rfl rfl 2 (by decide) (hts _ m_847) (fun _ h9 => h9) rfl d_Mo_find_119 ?_
                      refine lv_iload_n hx hb d_Mo_find_122 rfl (lv_at hl 2 rfl) ?_
                      refine wn_cald hx hb hK hP 1 1 rfl rfl (by omega) (by omega) d_Mo_find_123 ?_
                      refine wn_eq (y := L.getD i 0) (hc.2.2 i (by omega)) ?_
                      refine ck_cS (rest := [.int (nI i), .ref aW]) (wr := [(mo, .inr (8, [.int (nI 0), .int (nI L.length), .ref ta, .int (nI np), .ref aN, .ref aS, .ref aC, .int (nI tot), .ref aB, .int (bz_c rd), .int (nI rt), .int (nI pl), .ref aR, .ref aO, .int (nI ((fb_c L).length)), .ref aW, .int (bz_c mp), .int (nI rn), .int (nI rs), .int (bz_c gd), .ref aD, .int (nI nh), .ref a1, .ref a2, .ref a3, .ref a4, .int (nI td), .ref aL, .int (nI J.length), .ref aY, .int (nI ms), .ref aM, .int (nI ip), .int (nI it), .int ir, .int (nI il), .ref bN, .ref bS, .ref bC, .ref bB, .ref bR, .ref bO, .ref aU])), (ta, .inl (cA 1, 72, .inl tf)), (aR, .inl (cA 0, 66, .inl rw)), (aW, .inl (cA 0, 72, .inl wf1))]) (ws2 := fun u => [(mo, .inr (8, [.int (nI 0), .int (nI L.length), .ref ta, .int (nI np), .ref aN, .ref aS, .ref aC, .int (nI tot), .ref aB, .int (bz_c rd), .int (nI rt), .int (nI pl), .ref aR, .ref aO, .int (nI ((fb_c L).length)), .ref aW, .int (bz_c mp), .int (nI rn), .int (nI rs), .int (bz_c gd), .ref aD, .int (nI nh), .ref a1, .ref a2, .ref a3, .ref a4, .int (nI td), .ref aL, .int (nI J.length), .ref aY, .int (nI ms), .ref aM, .int (nI ip), .int (nI it), .int ir, .int (nI il), .ref bN, .ref bS, .ref bC, .ref bB, .ref bR, .ref bO, .ref aU])), (ta, .inl (cA 1, 72, .inl tf)), (aR, .inl (cA 0, 66, .inl rw)), (aW, .inl (cA 0, 72, .inl wf1))]) (c_Mo_symbol l D cA K (L.getD i 0) ) hx hb hml hown hts hK hE hA hP hD hS k_Mo_symbol m_1000 (by decide) rfl hl.1 rfl (Nat.le_of_ble_eq_true rfl) d_Mo_find_124 [] [0, 1, 2, 3] [0, 1, 2, 3] rfl rfl (by decide) (fun _ => rfl) (fun r124 u124 H locs hq124 hP hD hS => ?_)
                      try dsimp only at hq124
                      have hP : va_P D vwCl [(mo, .inr (8, [.int (nI 0), .int (nI L.length), .ref ta, .int (nI np), .ref aN, .ref aS, .ref aC, .int (nI tot), .ref aB, .int (bz_c rd), .int (nI rt), .int (nI pl), .ref aR, .ref aO, .int (nI ((fb_c L).length)), .ref aW, .int (bz_c mp), .int (nI rn), .int (nI rs), .int (bz_c gd), .ref aD, .int (nI nh), .ref a1, .ref a2, .ref a3, .ref a4, .int (nI td), .ref aL, .int (nI J.length), .ref aY, .int (nI ms), .ref aM, .int (nI ip), .int (nI it), .int ir, .int (nI il), .ref bN, .ref bS, .ref bC, .ref bB, .ref bR, .ref bO, .ref aU])), (ta, .inl (cA 1, 72, .inl tf)), (aR, .inl (cA 0, 66, .inl rw)), (aW, .inl (cA 0, 72, .inl wf1))] H := hP
                      have hD : va_D A [(mo, .inr (8, [.int (nI 0), .int (nI L.length), .ref ta, .int (nI np), .ref aN, .ref aS, .ref aC, .int (nI tot), .ref aB, .int (bz_c rd), .int (nI rt), .int (nI pl), .ref aR, .ref aO, .int (nI ((fb_c L).length)), .ref aW, .int (bz_c mp), .int (nI rn), .int (nI rs), .int (bz_c gd), .ref aD, .int (nI nh), .ref a1, .ref a2, .ref a3, .ref a4, .int (nI td), .ref aL, .int (nI J.length), .ref aY, .int (nI ms), .ref aM, .int (nI ip), .int (nI it), .int ir, .int (nI il), .ref bN, .ref bS, .ref bC, .ref bB, .ref bR, .ref bO, .ref aU])), (ta, .inl (cA 1, 72, .inl tf)), (aR, .inl (cA 0, 66, .inl rw)), (aW, .inl (cA 0, 72, .inl wf1))] := hD
                      subst r124
                      refine wn_eq (y := (fb_c L).getD i 0) (fb_get (by omega)).symm ?_
                      refine wn_iast hx hb hK hP hD hS 3 0 rfl rfl (by omega) (by omega) d_Mo_find_127 (fun H locs hP hD hS => ?_)
                      have hP : va_P D vwCl [(mo, .inr (8, [.int (nI 0), .int (nI L.length), .ref ta, .int (nI np), .ref aN, .ref aS, .ref aC, .int (nI tot), .ref aB, .int (bz_c rd), .int (nI rt), .int (nI pl), .ref aR, .ref aO, .int (nI ((fb_c L).length)), .ref aW, .int (bz_c mp), .int (nI rn), .int (nI rs), .int (bz_c gd), .ref aD, .int (nI nh), .ref a1, .ref a2, .ref a3, .ref a4, .int (nI td), .ref aL, .int (nI J.length), .ref aY, .int (nI ms), .ref aM, .int (nI ip), .int (nI it), .int ir, .int (nI il), .ref bN, .ref bS, .ref bC, .ref bB, .ref bR, .ref bO, .ref aU])), (ta, .inl (cA 1, 72, .inl tf)), (aR, .inl (cA 0, 66, .inl rw)), (aW, .inl (cA 0, 72, .inl (upd wf1 i ((fb_c L).getD i 0))))] H := hP
                      have hD : va_D A [(mo, .inr (8, [.int (nI 0), .int (nI L.length), .ref ta, .int (nI np), .ref aN, .ref aS, .ref aC, .int (nI tot), .ref aB, .int (bz_c rd), .int (nI rt), .int (nI pl), .ref aR, .ref aO, .int (nI ((fb_c L).length)), .ref aW, .int (bz_c mp), .int (nI rn), .int (nI rs), .int (bz_c gd), .ref aD, .int (nI nh), .ref a1, .ref a2, .ref a3, .ref a4, .int (nI td), .ref aL, .int (nI J.length), .ref aY, .int (nI ms), .ref aM, .int (nI ip), .int (nI it), .int ir, .int (nI il), .ref bN, .ref bS, .ref bC, .ref bB, .ref bR, .ref bO, .ref aU])), (ta, .inl (cA 1, 72, .inl tf)), (aR, .inl (cA 0, 66, .inl rw)), (aW, .inl (cA 0, 72, .inl (upd wf1 i ((fb_c L).getD i 0))))] := hD
                      refine lv_iinc (k := 2) (v := nI (i + 1)) (lv' := [(3, .int (nI (i + 1))), (0, .ref mo), (2, .int (nI 0))]) hx hb d_Mo_find_128 hl rfl (wi_inc1 _) (by decide) rfl (fun ls hl => ?_)
                      refine lv_goto (tgt := 105) hx hb d_Mo_find_131 (by decide) ?_
                      exact ih105 _ (by omega) (i + 1) (upd wf1 i ((fb_c L).getD i 0)) _ _ _ rfl (by first | assumption | omega) (up_s hs rfl) hP hD hS (lv_sub hl [1, 2, 0] rfl)
                exact L105 _ 0 wf _ _ _ rfl (by first | assumption | omega) (fun j hj => absurd hj (Nat.not_lt_zero j)) hP hD hS (lv_sub hl [2, 1, 0] rfl)
              · intro h75
                refine lv_iconst (v := nI 2) hx hb d_Mo_find_78 (by decide) ?_
                refine lv_goto (tgt := 83) hx hb d_Mo_find_79 (by decide) ?_
                refine va_put (D := D) (ci := 8) (v := .int (nI 2)) (ty := .int) (C := RX8) (T := TX8) (N := 43) hx hb hts inX8 tyX8 tyX8_ok nmX8 hown hK hP hD hS 0 rfl rfl 0 (by decide) (hts _ m_845) (fun _ h9 => h9) rfl (by decide +kernel) rfl rfl (Nat.le_of_ble_eq_true rfl) d_Mo_find_83 (fun H locs hP hD hS => ?_)
                have hP : va_P D vwCl [(mo, .inr (8, [.int (nI 2), .int (nI L.length), .ref ta, .int (nI np), .ref aN, .ref aS, .ref aC, .int (nI tot), .ref aB, .int (bz_c rd), .int (nI rt), .int (nI pl), .ref aR, .ref aO, .int (nI Wd.length), .ref aW, .int (bz_c mp), .int (nI rn), .int (nI rs), .int (bz_c gd), .ref aD, .int (nI nh), .ref a1, .ref a2, .ref a3, .ref a4, .int (nI td), .ref aL, .int (nI J.length), .ref aY, .int (nI ms), .ref aM, .int (nI ip), .int (nI it), .int ir, .int (nI il), .ref bN, .ref bS, .ref bC, .ref bB, .ref bR, .ref bO, .ref aU])), (ta, .inl (cA 1, 72, .inl tf)), (aR, .inl (cA 0, 66, .inl rw)), (aW, .inl (cA 0, 72, .inl wf))] H := hP
                have hD : va_D A [(mo, .inr (8, [.int (nI 2), .int (nI L.length), .ref ta, .int (nI np), .ref aN, .ref aS, .ref aC, .int (nI tot), .ref aB, .int (bz_c rd), .int (nI rt), .int (nI pl), .ref aR, .ref aO, .int (nI Wd.length), .ref aW, .int (bz_c mp), .int (nI rn), .int (nI rs), .int (bz_c gd), .ref aD, .int (nI nh), .ref a1, .ref a2, .ref a3, .ref a4, .int (nI td), .ref aL, .int (nI J.length), .ref aY, .int (nI ms), .ref aM, .int (nI ip), .int (nI it), .int ir, .int (nI il), .ref bN, .ref bS, .ref bC, .ref bB, .ref bR, .ref bO, .ref aU])), (ta, .inl (cA 1, 72, .inl tf)), (aR, .inl (cA 0, 66, .inl rw)), (aW, .inl (cA 0, 72, .inl wf))] := hD
                refine lv_iconst (v := nI 0) hx hb d_Mo_find_86 (by decide) ?_
                refine lv_istore_n (lv' := [(2, .int (nI 0)), (0, .ref mo), (1, .int (bz_c g))]) hx hb d_Mo_find_87 rfl hl (by decide) rfl (fun ls hl => ?_)
                refine lv_aload_n hx hb d_Mo_find_88 rfl (lv_at hl 1 rfl) ?_
                refine va_get (C := RX8) (T := TX8) (N := 43) hx hb hts inX8 hown hK hP 0 rfl rfl 0 (by decide) (hts _ m_845) (fun _ h9 => h9) rfl d_Mo_find_89 ?_
                refine lv_if_ne (tgt := 166) hx hb d_Mo_find_92 (by decide) (fun _ => ?_) (fun h9 => absurd h9 (by decide))
                refine lv_aload_n hx hb d_Mo_find_166 rfl (lv_at hl 1 rfl) ?_
                refine lv_iconst (v := nI (([] : List Int32).length)) hx hb d_Mo_find_167 rfl ?_
                refine va_put (D := D) (ci := 8) (v := .int (nI (([] : List Int32).length))) (ty := .int) (C := RX8) (T := TX8) (N := 43) hx hb hts inX8 tyX8 tyX8_ok nmX8 hown hK hP hD hS 0 rfl rfl 1 (by decide) (hts _ m_846) (fun _ h9 => h9) rfl (by decide +kernel) rfl rfl (Nat.le_of_ble_eq_true rfl) d_Mo_find_168 (fun H locs hP hD hS => ?_)
                have hP : va_P D vwCl [(mo, .inr (8, [.int (nI 2), .int (nI (([] : List Int32).length)), .ref ta, .int (nI np), .ref aN, .ref aS, .ref aC, .int (nI tot), .ref aB, .int (bz_c rd), .int (nI rt), .int (nI pl), .ref aR, .ref aO, .int (nI Wd.length), .ref aW, .int (bz_c mp), .int (nI rn), .int (nI rs), .int (bz_c gd), .ref aD, .int (nI nh), .ref a1, .ref a2, .ref a3, .ref a4, .int (nI td), .ref aL, .int (nI J.length), .ref aY, .int (nI ms), .ref aM, .int (nI ip), .int (nI it), .int ir, .int (nI il), .ref bN, .ref bS, .ref bC, .ref bB, .ref bR, .ref bO, .ref aU])), (ta, .inl (cA 1, 72, .inl tf)), (aR, .inl (cA 0, 66, .inl rw)), (aW, .inl (cA 0, 72, .inl wf))] H := hP
                have hD : va_D A [(mo, .inr (8, [.int (nI 2), .int (nI (([] : List Int32).length)), .ref ta, .int (nI np), .ref aN, .ref aS, .ref aC, .int (nI tot), .ref aB, .int (bz_c rd), .int (nI rt), .int (nI pl), .ref aR, .ref aO, .int (nI Wd.length), .ref aW, .int (bz_c mp), .int (nI rn), .int (nI rs), .int (bz_c gd), .ref aD, .int (nI nh), .ref a1, .ref a2, .ref a3, .ref a4, .int (nI td), .ref aL, .int (nI J.length), .ref aY, .int (nI ms), .ref aM, .int (nI ip), .int (nI it), .int ir, .int (nI il), .ref bN, .ref bS, .ref bC, .ref bB, .ref bR, .ref bO, .ref aU])), (ta, .inl (cA 1, 72, .inl tf)), (aR, .inl (cA 0, 66, .inl rw)), (aW, .inl (cA 0, 72, .inl wf))] := hD
                refine lv_iload_n hx hb d_Mo_find_171 rfl (lv_at hl 0 rfl) ?_
                exact hret (nI 0) (nI 2, Wd, wf) _ _ _ 172 d_Mo_find_172 (by first | exact ⟨cd_clear hc, hw1, Or.inr (Or.inr ⟨rfl, hfd, bz_1 h75, rfl, by rw [hcn, show i = pl by omega]⟩)⟩ | exact ⟨cd_clear hc, hw, Or.inl ⟨rfl, hfd, rfl⟩⟩ | exact ⟨cd_clear hc, hw, Or.inr (Or.inl ⟨rfl, hfd, bz_0 h75, rfl⟩)⟩) hP hD hS
            · intro h64
              have hfd := fd_x hl0 (show k = L.length by omega) hg (bz_0 h64)
              refine lv_iconst (v := nI 1) hx hb d_Mo_find_67 (by decide) ?_
              refine lv_goto (tgt := 83) hx hb d_Mo_find_68 (by decide) ?_
              refine va_put (D := D) (ci := 8) (v := .int (nI 1)) (ty := .int) (C := RX8) (T := TX8) (N := 43) hx hb hts inX8 tyX8 tyX8_ok nmX8 hown hK hP hD hS 0 rfl rfl 0 (by decide) (hts _ m_845) (fun _ h9 => h9) rfl (by decide +kernel) rfl rfl (Nat.le_of_ble_eq_true rfl) d_Mo_find_83 (fun H locs hP hD hS => ?_)
              have hP : va_P D vwCl [(mo, .inr (8, [.int (nI 1), .int (nI L.length), .ref ta, .int (nI np), .ref aN, .ref aS, .ref aC, .int (nI tot), .ref aB, .int (bz_c rd), .int (nI rt), .int (nI pl), .ref aR, .ref aO, .int (nI Wd.length), .ref aW, .int (bz_c mp), .int (nI rn), .int (nI rs), .int (bz_c gd), .ref aD, .int (nI nh), .ref a1, .ref a2, .ref a3, .ref a4, .int (nI td), .ref aL, .int (nI J.length), .ref aY, .int (nI ms), .ref aM, .int (nI ip), .int (nI it), .int ir, .int (nI il), .ref bN, .ref bS, .ref bC, .ref bB, .ref bR, .ref bO, .ref aU])), (ta, .inl (cA 1, 72, .inl tf)), (aR, .inl (cA 0, 66, .inl rw)), (aW, .inl (cA 0, 72, .inl wf))] H := hP
              have hD : va_D A [(mo, .inr (8, [.int (nI 1), .int (nI L.length), .ref ta, .int (nI np), .ref aN, .ref aS, .ref aC, .int (nI tot), .ref aB, .int (bz_c rd), .int (nI rt), .int (nI pl), .ref aR, .ref aO, .int (nI Wd.length), .ref aW, .int (bz_c mp), .int (nI rn), .int (nI rs), .int (bz_c gd), .ref aD, .int (nI nh), .ref a1, .ref a2, .ref a3, .ref a4, .int (nI td), .ref aL, .int (nI J.length), .ref aY, .int (nI ms), .ref aM, .int (nI ip), .int (nI it), .int ir, .int (nI il), .ref bN, .ref bS, .ref bC, .ref bB, .ref bR, .ref bO, .ref aU])), (ta, .inl (cA 1, 72, .inl tf)), (aR, .inl (cA 0, 66, .inl rw)), (aW, .inl (cA 0, 72, .inl wf))] := hD
              refine lv_iconst (v := nI 0) hx hb d_Mo_find_86 (by decide) ?_
              refine lv_istore_n (lv' := [(2, .int (nI 0)), (0, .ref mo), (1, .int (bz_c g))]) hx hb d_Mo_find_87 rfl hl (by decide) rfl (fun ls hl => ?_)
              refine lv_aload_n hx hb d_Mo_find_88 rfl (lv_at hl 1 rfl) ?_
              refine va_get (C := RX8) (T := TX8) (N := 43) hx hb hts inX8 hown hK hP 0 rfl rfl 0 (by decide) (hts _ m_845) (fun _ h9 => h9) rfl d_Mo_find_89 ?_
              refine lv_if_ne (tgt := 166) hx hb d_Mo_find_92 (by decide) (fun _ => ?_) (fun h9 => absurd h9 (by decide))
              refine lv_aload_n hx hb d_Mo_find_166 rfl (lv_at hl 1 rfl) ?_
              refine lv_iconst (v := nI (([] : List Int32).length)) hx hb d_Mo_find_167 rfl ?_
              refine va_put (D := D) (ci := 8) (v := .int (nI (([] : List Int32).length))) (ty := .int) (C := RX8) (T := TX8) (N := 43) hx hb hts inX8 tyX8 tyX8_ok nmX8 hown hK hP hD hS 0 rfl rfl 1 (by decide) (hts _ m_846) (fun _ h9 => h9) rfl (by decide +kernel) rfl rfl (Nat.le_of_ble_eq_true rfl) d_Mo_find_168 (fun H locs hP hD hS => ?_)
              have hP : va_P D vwCl [(mo, .inr (8, [.int (nI 1), .int (nI (([] : List Int32).length)), .ref ta, .int (nI np), .ref aN, .ref aS, .ref aC, .int (nI tot), .ref aB, .int (bz_c rd), .int (nI rt), .int (nI pl), .ref aR, .ref aO, .int (nI Wd.length), .ref aW, .int (bz_c mp), .int (nI rn), .int (nI rs), .int (bz_c gd), .ref aD, .int (nI nh), .ref a1, .ref a2, .ref a3, .ref a4, .int (nI td), .ref aL, .int (nI J.length), .ref aY, .int (nI ms), .ref aM, .int (nI ip), .int (nI it), .int ir, .int (nI il), .ref bN, .ref bS, .ref bC, .ref bB, .ref bR, .ref bO, .ref aU])), (ta, .inl (cA 1, 72, .inl tf)), (aR, .inl (cA 0, 66, .inl rw)), (aW, .inl (cA 0, 72, .inl wf))] H := hP
              have hD : va_D A [(mo, .inr (8, [.int (nI 1), .int (nI (([] : List Int32).length)), .ref ta, .int (nI np), .ref aN, .ref aS, .ref aC, .int (nI tot), .ref aB, .int (bz_c rd), .int (nI rt), .int (nI pl), .ref aR, .ref aO, .int (nI Wd.length), .ref aW, .int (bz_c mp), .int (nI rn), .int (nI rs), .int (bz_c gd), .ref aD, .int (nI nh), .ref a1, .ref a2, .ref a3, .ref a4, .int (nI td), .ref aL, .int (nI J.length), .ref aY, .int (nI ms), .ref aM, .int (nI ip), .int (nI it), .int ir, .int (nI il), .ref bN, .ref bS, .ref bC, .ref bB, .ref bR, .ref bO, .ref aU])), (ta, .inl (cA 1, 72, .inl tf)), (aR, .inl (cA 0, 66, .inl rw)), (aW, .inl (cA 0, 72, .inl wf))] := hD
              refine lv_iload_n hx hb d_Mo_find_171 rfl (lv_at hl 0 rfl) ?_
              exact hret (nI 0) (nI 1, Wd, wf) _ _ _ 172 d_Mo_find_172 (by first | exact ⟨cd_clear hc, hw1, Or.inr (Or.inr ⟨rfl, hfd, bz_1 h75, rfl, by rw [hcn, show i = pl by omega]⟩)⟩ | exact ⟨cd_clear hc, hw, Or.inl ⟨rfl, hfd, rfl⟩⟩ | exact ⟨cd_clear hc, hw, Or.inr (Or.inl ⟨rfl, hfd, bz_0 h75, rfl⟩)⟩) hP hD hS
          · intro h32
            refine lv_iload_n hx hb d_Mo_find_35 rfl (lv_at hl 1 rfl) ?_
            refine lv_if_eq (tgt := 54) hx hb d_Mo_find_36 (by decide) ?_ ?_
            · intro h36
              refine lv_iconst (v := nI 0) hx hb d_Mo_find_54 (by decide) ?_
              refine lv_istore_n (lv' := [(1, .int (nI 0)), (0, .ref mo), (2, .int (nI k))]) hx hb d_Mo_find_55 rfl hl (by decide) rfl (fun ls hl => ?_)
              refine lv_iinc (k := 2) (v := nI (k + 1)) (lv' := [(2, .int (nI (k + 1))), (1, .int (nI 0)), (0, .ref mo)]) hx hb d_Mo_find_56 hl rfl (wi_inc1 _) (by decide) rfl (fun ls hl => ?_)
              refine lv_goto (tgt := 27) hx hb d_Mo_find_59 (by decide) ?_
              exact ih27 _ (by omega) (k + 1) _ _ _ _ rfl (by first | assumption | omega) (by first | exact fg_3 hg h36 | exact fg_4 h47 | exact fg_5 hg h36 h47) hP hD hS (lv_sub hl [2, 1, 0] rfl)
            · intro h36
              refine lv_aload_n hx hb d_Mo_find_39 rfl (lv_at hl 0 rfl) ?_
              refine va_get (C := RX8) (T := TX8) (N := 43) hx hb hts inX8 hown hK hP 0 rfl rfl 2 (by decide) (hts _ m_847) (fun _ h9 => h9) rfl d_Mo_find_40 ?_
              refine lv_iload_n hx hb d_Mo_find_43 rfl (lv_at hl 2 rfl) ?_
              refine wn_cald hx hb hK hP 1 1 rfl rfl (by omega) (by omega) d_Mo_find_44 ?_
              refine wn_eq (y := L.getD k 0) (hc.2.2 k (by omega)) ?_
              refine lv_bipush (v := 78) hx hb d_Mo_find_45 (by decide) ?_
              refine lv_icmp_eq (tgt := 54) hx hb d_Mo_find_47 (by decide) ?_ ?_
              · intro h47
                refine lv_iconst (v := nI 0) hx hb d_Mo_find_54 (by decide) ?_
                refine lv_istore_n (lv' := [(1, .int (nI 0)), (0, .ref mo), (2, .int (nI k))]) hx hb d_Mo_find_55 rfl hl (by decide) rfl (fun ls hl => ?_)
                refine lv_iinc (k := 2) (v := nI (k + 1)) (lv' := [(2, .int (nI (k + 1))), (1, .int (nI 0)), (0, .ref mo)]) hx hb d_Mo_find_56 hl rfl (wi_inc1 _) (by decide) rfl (fun ls hl => ?_)
                refine lv_goto (tgt := 27) hx hb d_Mo_find_59 (by decide) ?_
                exact ih27 _ (by omega) (k + 1) _ _ _ _ rfl (by first | assumption | omega) (by first | exact fg_3 hg h36 | exact fg_4 h47 | exact fg_5 hg h36 h47) hP hD hS (lv_sub hl [2, 1, 0] rfl)
              · intro h47
                refine lv_iconst (v := nI 1) hx hb d_Mo_find_50 (by decide) ?_
                refine lv_goto (tgt := 55) hx hb d_Mo_find_51 (by decide) ?_
                refine lv_istore_n (lv' := [(1, .int (nI 1)), (0, .ref mo), (2, .int (nI k))]) hx hb d_Mo_find_55 rfl hl (by decide) rfl (fun ls hl => ?_)
                refine lv_iinc (k := 2) (v := nI (k + 1)) (lv' := [(2, .int (nI (k + 1))), (1, .int (nI 1)), (0, .ref mo)]) hx hb d_Mo_find_56 hl rfl (wi_inc1 _) (by decide) rfl (fun ls hl => ?_)
                refine lv_goto (tgt := 27) hx hb d_Mo_find_59 (by decide) ?_
                exact ih27 _ (by omega) (k + 1) _ _ _ _ rfl (by first | assumption | omega) (by first | exact fg_3 hg h36 | exact fg_4 h47 | exact fg_5 hg h36 h47) hP hD hS (lv_sub hl [2, 1, 0] rfl)
      exact L27 _ 0 false _ _ _ rfl (by first | assumption | omega) (by first | exact fg_1 (by omega) (h16 ▸ hq9) | exact fg_2 (fun y => h16 (nb_un hq9 y.2.1)) | exact fg_2 (fun y => by have y1 := y.1; omega)) hP hD hS (lv_sub hl [2, 1, 0] rfl)
    · intro h16
      refine lv_iconst (v := nI 1) hx hb d_Mo_find_19 (by decide) ?_
      refine lv_goto (tgt := 24) hx hb d_Mo_find_20 (by decide) ?_
      refine lv_istore_n (lv' := [(1, .int (nI 1)), (0, .ref mo)]) hx hb d_Mo_find_24 rfl hl (by decide) rfl (fun ls hl => ?_)
      refine lv_iconst (v := nI 0) hx hb d_Mo_find_25 (by decide) ?_
      refine lv_istore_n (lv' := [(2, .int (nI 0)), (1, .int (nI 1)), (0, .ref mo)]) hx hb d_Mo_find_26 rfl hl (by decide) rfl (fun ls hl => ?_)
      have hl : lv_has ls 4 [(2, .int (nI 0)), (1, .int (bz_c true)), (0, .ref mo)] := hl
      have L27 : ∀ (nG : Nat) (k : Nat) (g : Bool) (H : Heap) (locs : List Loc) (ls : Array Slot), L.length - k = nG → (k ≤ L.length) → ((g = true ↔ (0 < L.length ∧ nb_p L 0 L.length ∧ ∀ j, j < k → ¬ L.getD j 0 = 78))) →  va_P D vwCl [(mo, .inr (8, [.int zt, .int (nI L.length), .ref ta, .int (nI np), .ref aN, .ref aS, .ref aC, .int (nI tot), .ref aB, .int (bz_c rd), .int (nI rt), .int (nI pl), .ref aR, .ref aO, .int (nI Wd.length), .ref aW, .int (bz_c mp), .int (nI rn), .int (nI rs), .int (bz_c gd), .ref aD, .int (nI nh), .ref a1, .ref a2, .ref a3, .ref a4, .int (nI td), .ref aL, .int (nI J.length), .ref aY, .int (nI ms), .ref aM, .int (nI ip), .int (nI it), .int ir, .int (nI il), .ref bN, .ref bS, .ref bC, .ref bB, .ref bR, .ref bO, .ref aU])), (ta, .inl (cA 1, 72, .inl tf)), (aR, .inl (cA 0, 66, .inl rw)), (aW, .inl (cA 0, 72, .inl wf))] H → va_D A [(mo, .inr (8, [.int zt, .int (nI L.length), .ref ta, .int (nI np), .ref aN, .ref aS, .ref aC, .int (nI tot), .ref aB, .int (bz_c rd), .int (nI rt), .int (nI pl), .ref aR, .ref aO, .int (nI Wd.length), .ref aW, .int (bz_c mp), .int (nI rn), .int (nI rs), .int (bz_c gd), .ref aD, .int (nI nh), .ref a1, .ref a2, .ref a3, .ref a4, .int (nI td), .ref aL, .int (nI J.length), .ref aY, .int (nI ms), .ref aM, .int (nI ip), .int (nI it), .int ir, .int (nI il), .ref bN, .ref bS, .ref bC, .ref bB, .ref bR, .ref bO, .ref aU])), (ta, .inl (cA 1, 72, .inl tf)), (aR, .inl (cA 0, 66, .inl rw)), (aW, .inl (cA 0, 72, .inl wf))] → va_S A sG.heap H locs → lv_has ls 4 [(0, .ref mo), (1, .int (bz_c g)), (2, .int (nI k))] → W pG l eG (rm_d 3) sG mG argsG belowG methG cG H locs 0 0 Q (F0 mG 27 ls []) := by
        intro nG
        induction nG using Nat.strongRecOn with
        | ind nG ih27 =>
          intro k g H locs ls hn27 hk hg hP hD hS hl
          refine lv_iload_n hx hb d_Mo_find_27 rfl (lv_at hl 2 rfl) ?_
          refine lv_aload_n hx hb d_Mo_find_28 rfl (lv_at hl 0 rfl) ?_
          refine va_get (C := RX8) (T := TX8) (N := 43) hx hb hts inX8 hown hK hP 0 rfl rfl 1 (by decide) (hts _ m_846) (fun _ h9 => h9) rfl d_Mo_find_29 ?_
          refine wn_icmp_ge (by omega) (by omega) (tgt := 62) hx hb d_Mo_find_32 (by decide) ?_ ?_
          · intro h32
            refine lv_aload_n hx hb d_Mo_find_62 rfl (lv_at hl 0 rfl) ?_
            refine lv_iload_n hx hb d_Mo_find_63 rfl (lv_at hl 1 rfl) ?_
            refine lv_if_ne (tgt := 71) hx hb d_Mo_find_64 (by decide) ?_ ?_
            · intro h64
              have hfd := fd_z hl0 (show k = L.length by omega) hg (bz_1 h64)
              refine lv_aload_n hx hb d_Mo_find_71 rfl (lv_at hl 0 rfl) ?_
              refine va_get (C := RX8) (T := TX8) (N := 43) hx hb hts inX8 hown hK hP 0 rfl rfl 9 (by decide) (hts _ m_854) (fun _ h9 => h9) rfl d_Mo_find_72 ?_
              refine lv_if_ne (tgt := 82) hx hb d_Mo_find_75 (by decide) ?_ ?_
              · intro h75
                refine lv_iconst (v := nI 0) hx hb d_Mo_find_82 (by decide) ?_
                refine va_put (D := D) (ci := 8) (v := .int (nI 0)) (ty := .int) (C := RX8) (T := TX8) (N := 43) hx hb hts inX8 tyX8 tyX8_ok nmX8 hown hK hP hD hS 0 rfl rfl 0 (by decide) (hts _ m_845) (fun _ h9 => h9) rfl (by decide +kernel) rfl rfl (Nat.le_of_ble_eq_true rfl) d_Mo_find_83 (fun H locs hP hD hS => ?_)
                have hP : va_P D vwCl [(mo, .inr (8, [.int (nI 0), .int (nI L.length), .ref ta, .int (nI np), .ref aN, .ref aS, .ref aC, .int (nI tot), .ref aB, .int (bz_c rd), .int (nI rt), .int (nI pl), .ref aR, .ref aO, .int (nI Wd.length), .ref aW, .int (bz_c mp), .int (nI rn), .int (nI rs), .int (bz_c gd), .ref aD, .int (nI nh), .ref a1, .ref a2, .ref a3, .ref a4, .int (nI td), .ref aL, .int (nI J.length), .ref aY, .int (nI ms), .ref aM, .int (nI ip), .int (nI it), .int ir, .int (nI il), .ref bN, .ref bS, .ref bC, .ref bB, .ref bR, .ref bO, .ref aU])), (ta, .inl (cA 1, 72, .inl tf)), (aR, .inl (cA 0, 66, .inl rw)), (aW, .inl (cA 0, 72, .inl wf))] H := hP
                have hD : va_D A [(mo, .inr (8, [.int (nI 0), .int (nI L.length), .ref ta, .int (nI np), .ref aN, .ref aS, .ref aC, .int (nI tot), .ref aB, .int (bz_c rd), .int (nI rt), .int (nI pl), .ref aR, .ref aO, .int (nI Wd.length), .ref aW, .int (bz_c mp), .int (nI rn), .int (nI rs), .int (bz_c gd), .ref aD, .int (nI nh), .ref a1, .ref a2, .ref a3, .ref a4, .int (nI td), .ref aL, .int (nI J.length), .ref aY, .int (nI ms), .ref aM, .int (nI ip), .int (nI it), .int ir, .int (nI il), .ref bN, .ref bS, .ref bC, .ref bB, .ref bR, .ref bO, .ref aU])), (ta, .inl (cA 1, 72, .inl tf)), (aR, .inl (cA 0, 66, .inl rw)), (aW, .inl (cA 0, 72, .inl wf))] := hD
                refine lv_iconst (v := nI 0) hx hb d_Mo_find_86 (by decide) ?_
                refine lv_istore_n (lv' := [(2, .int (nI 0)), (0, .ref mo), (1, .int (bz_c g))]) hx hb d_Mo_find_87 rfl hl (by decide) rfl (fun ls hl => ?_)
                refine lv_aload_n hx hb d_Mo_find_88 rfl (lv_at hl 1 rfl) ?_
                refine va_get (C := RX8) (T := TX8) (N := 43) hx hb hts inX8 hown hK hP 0 rfl rfl 0 (by decide) (hts _ m_845) (fun _ h9 => h9) rfl d_Mo_find_89 ?_
                refine lv_if_ne (tgt := 166) hx hb d_Mo_find_92 (by decide) (fun h9 => absurd h9 (by decide)) (fun _ => ?_)
                refine lv_aload_n hx hb d_Mo_find_95 rfl (lv_at hl 1 rfl) ?_
                refine lv_aload_n hx hb d_Mo_find_96 rfl (lv_at hl 1 rfl) ?_
                refine va_get (C := RX8) (T := TX8) (N := 43) hx hb hts inX8 hown hK hP 0 rfl rfl 1 (by decide) (hts _ m_846) (fun _ h9 => h9) rfl d_Mo_find_97 ?_
                refine wn_nat (b := (fb_c L).length) (fb_len L).symm ?_
                refine va_put (D := D) (ci := 8) (v := .int (nI ((fb_c L).length))) (ty := .int) (C := RX8) (T := TX8) (N := 43) hx hb hts inX8 tyX8 tyX8_ok nmX8 hown hK hP hD hS 0 rfl rfl 14 (by decide) (hts _ m_859) (fun _ h9 => h9) rfl (by decide +kernel) rfl rfl (Nat.le_of_ble_eq_true rfl) d_Mo_find_100 (fun H locs hP hD hS => ?_)
                have hP : va_P D vwCl [(mo, .inr (8, [.int (nI 0), .int (nI L.length), .ref ta, .int (nI np), .ref aN, .ref aS, .ref aC, .int (nI tot), .ref aB, .int (bz_c rd), .int (nI rt), .int (nI pl), .ref aR, .ref aO, .int (nI ((fb_c L).length)), .ref aW, .int (bz_c mp), .int (nI rn), .int (nI rs), .int (bz_c gd), .ref aD, .int (nI nh), .ref a1, .ref a2, .ref a3, .ref a4, .int (nI td), .ref aL, .int (nI J.length), .ref aY, .int (nI ms), .ref aM, .int (nI ip), .int (nI it), .int ir, .int (nI il), .ref bN, .ref bS, .ref bC, .ref bB, .ref bR, .ref bO, .ref aU])), (ta, .inl (cA 1, 72, .inl tf)), (aR, .inl (cA 0, 66, .inl rw)), (aW, .inl (cA 0, 72, .inl wf))] H := hP
                have hD : va_D A [(mo, .inr (8, [.int (nI 0), .int (nI L.length), .ref ta, .int (nI np), .ref aN, .ref aS, .ref aC, .int (nI tot), .ref aB, .int (bz_c rd), .int (nI rt), .int (nI pl), .ref aR, .ref aO, .int (nI ((fb_c L).length)), .ref aW, .int (bz_c mp), .int (nI rn), .int (nI rs), .int (bz_c gd), .ref aD, .int (nI nh), .ref a1, .ref a2, .ref a3, .ref a4, .int (nI td), .ref aL, .int (nI J.length), .ref aY, .int (nI ms), .ref aM, .int (nI ip), .int (nI it), .int ir, .int (nI il), .ref bN, .ref bS, .ref bC, .ref bB, .ref bR, .ref bO, .ref aU])), (ta, .inl (cA 1, 72, .inl tf)), (aR, .inl (cA 0, 66, .inl rw)), (aW, .inl (cA 0, 72, .inl wf))] := hD
                refine lv_iconst (v := nI 0) hx hb d_Mo_find_103 (by decide) ?_
                refine lv_istore_n (lv' := [(3, .int (nI 0)), (2, .int (nI 0)), (0, .ref mo), (1, .int (bz_c g))]) hx hb d_Mo_find_104 rfl hl (by decide) rfl (fun ls hl => ?_)
                have L105 : ∀ (nG : Nat) (i : Nat) (wf1 : Nat → Int32) (H : Heap) (locs : List Loc) (ls : Array Slot), L.length - i = nG → (i ≤ L.length) → (∀ j, j < i → wf1 j = (fb_c L).getD j 0) →  va_P D vwCl [(mo, .inr (8, [.int (nI 0), .int (nI L.length), .ref ta, .int (nI np), .ref aN, .ref aS, .ref aC, .int (nI tot), .ref aB, .int (bz_c rd), .int (nI rt), .int (nI pl), .ref aR, .ref aO, .int (nI ((fb_c L).length)), .ref aW, .int (bz_c mp), .int (nI rn), .int (nI rs), .int (bz_c gd), .ref aD, .int (nI nh), .ref a1, .ref a2, .ref a3, .ref a4, .int (nI td), .ref aL, .int (nI J.length), .ref aY, .int (nI ms), .ref aM, .int (nI ip), .int (nI it), .int ir, .int (nI il), .ref bN, .ref bS, .ref bC, .ref bB, .ref bR, .ref bO, .ref aU])), (ta, .inl (cA 1, 72, .inl tf)), (aR, .inl (cA 0, 66, .inl rw)), (aW, .inl (cA 0, 72, .inl wf1))] H → va_D A [(mo, .inr (8, [.int (nI 0), .int (nI L.length), .ref ta, .int (nI np), .ref aN, .ref aS, .ref aC, .int (nI tot), .ref aB, .int (bz_c rd), .int (nI rt), .int (nI pl), .ref aR, .ref aO, .int (nI ((fb_c L).length)), .ref aW, .int (bz_c mp), .int (nI rn), .int (nI rs), .int (bz_c gd), .ref aD, .int (nI nh), .ref a1, .ref a2, .ref a3, .ref a4, .int (nI td), .ref aL, .int (nI J.length), .ref aY, .int (nI ms), .ref aM, .int (nI ip), .int (nI it), .int ir, .int (nI il), .ref bN, .ref bS, .ref bC, .ref bB, .ref bR, .ref bO, .ref aU])), (ta, .inl (cA 1, 72, .inl tf)), (aR, .inl (cA 0, 66, .inl rw)), (aW, .inl (cA 0, 72, .inl wf1))] → va_S A sG.heap H locs → lv_has ls 4 [(0, .ref mo), (2, .int (nI 0)), (3, .int (nI i))] → W pG l eG (rm_d 3) sG mG argsG belowG methG cG H locs 0 0 Q (F0 mG 105 ls []) := by
                  intro nG
                  induction nG using Nat.strongRecOn with
                  | ind nG ih105 =>
                    intro i wf1 H locs ls hn105 hi hs hP hD hS hl
                    refine lv_iload_n hx hb d_Mo_find_105 rfl (lv_at hl 2 rfl) ?_
                    refine lv_aload_n hx hb d_Mo_find_106 rfl (lv_at hl 0 rfl) ?_
                    refine va_get (C := RX8) (T := TX8) (N := 43) hx hb hts inX8 hown hK hP 0 rfl rfl 1 (by decide) (hts _ m_846) (fun _ h9 => h9) rfl d_Mo_find_107 ?_
                    refine wn_icmp_ge (by omega) (by omega) (tgt := 134) hx hb d_Mo_find_110 (by decide) ?_ ?_
                    · intro h110
                      have hw1 : cd_r 72 wf1 (fb_c L) := ⟨by rw [fb_len]; omega, by omega, fun j hj => hs j (by rw [fb_len] at hj; omega)⟩
                      have hrw := hrd (bz_1 h75)
                      refine lv_iconst (v := nI 0) hx hb d_Mo_find_134 (by decide) ?_
                      refine lv_istore_n (lv' := [(3, .int (nI 0)), (0, .ref mo), (2, .int (nI 0))]) hx hb d_Mo_find_135 rfl hl (by decide) rfl (fun ls hl => ?_)
                      have L136 : ∀ (nG : Nat) (c i : Nat) (H : Heap) (locs : List Loc) (ls : Array Slot), pl - i = nG → (i ≤ pl) → (c = cn_t (fun p => bw_p G pl (fb_c L) p) i) →  va_P D vwCl [(mo, .inr (8, [.int (nI 0), .int (nI L.length), .ref ta, .int (nI np), .ref aN, .ref aS, .ref aC, .int (nI tot), .ref aB, .int (bz_c rd), .int (nI rt), .int (nI pl), .ref aR, .ref aO, .int (nI ((fb_c L).length)), .ref aW, .int (bz_c mp), .int (nI rn), .int (nI rs), .int (bz_c gd), .ref aD, .int (nI nh), .ref a1, .ref a2, .ref a3, .ref a4, .int (nI td), .ref aL, .int (nI J.length), .ref aY, .int (nI ms), .ref aM, .int (nI ip), .int (nI it), .int ir, .int (nI il), .ref bN, .ref bS, .ref bC, .ref bB, .ref bR, .ref bO, .ref aU])), (ta, .inl (cA 1, 72, .inl tf)), (aR, .inl (cA 0, 66, .inl rw)), (aW, .inl (cA 0, 72, .inl wf1))] H → va_D A [(mo, .inr (8, [.int (nI 0), .int (nI L.length), .ref ta, .int (nI np), .ref aN, .ref aS, .ref aC, .int (nI tot), .ref aB, .int (bz_c rd), .int (nI rt), .int (nI pl), .ref aR, .ref aO, .int (nI ((fb_c L).length)), .ref aW, .int (bz_c mp), .int (nI rn), .int (nI rs), .int (bz_c gd), .ref aD, .int (nI nh), .ref a1, .ref a2, .ref a3, .ref a4, .int (nI td), .ref aL, .int (nI J.length), .ref aY, .int (nI ms), .ref aM, .int (nI ip), .int (nI it), .int ir, .int (nI il), .ref bN, .ref bS, .ref bC, .ref bB, .ref bR, .ref bO, .ref aU])), (ta, .inl (cA 1, 72, .inl tf)), (aR, .inl (cA 0, 66, .inl rw)), (aW, .inl (cA 0, 72, .inl wf1))] → va_S A sG.heap H locs → lv_has ls 4 [(0, .ref mo), (2, .int (nI c)), (3, .int (nI i))] → W pG l eG (rm_d 3) sG mG argsG belowG methG cG H locs 0 0 Q (F0 mG 136 ls []) := by
                        intro nG
                        induction nG using Nat.strongRecOn with
                        | ind nG ih136 =>
                          intro c i H locs ls hn136 hi hcn hP hD hS hl
                          have hcl := cn_le (fun p => bw_p G pl (fb_c L) p) i
                          rw [← hcn] at hcl
                          refine lv_iload_n hx hb d_Mo_find_136 rfl (lv_at hl 2 rfl) ?_
                          refine lv_aload_n hx hb d_Mo_find_137 rfl (lv_at hl 0 rfl) ?_
                          refine va_get (C := RX8) (T := TX8) (N := 43) hx hb hts inX8 hown hK hP 0 rfl rfl 11 (by decide) (hts _ m_856) (fun _ h9 => h9) rfl d_Mo_find_138 ?_
                          refine wn_icmp_ge (by omega) (by omega) (tgt := 166) hx hb d_Mo_find_141 (by decide) ?_ ?_
                          · intro h141
                            refine lv_aload_n hx hb d_Mo_find_166 rfl (lv_at hl 0 rfl) ?_
                            refine lv_iconst (v := nI (([] : List Int32).length)) hx hb d_Mo_find_167 rfl ?_
                            refine va_put (D := D) (ci := 8) (v := .int (nI (([] : List Int32).length))) (ty := .int) (C := RX8) (T := TX8) (N := 43) hx hb hts inX8 tyX8 tyX8_ok nmX8 hown hK hP hD hS 0 rfl rfl 1 (by decide) (hts _ m_846) (fun _ h9 => h9) rfl (by decide +kernel) rfl rfl (Nat.le_of_ble_eq_true rfl) d_Mo_find_168 (fun H locs hP hD hS => ?_)
                            have hP : va_P D vwCl [(mo, .inr (8, [.int (nI 0), .int (nI (([] : List Int32).length)), .ref ta, .int (nI np), .ref aN, .ref aS, .ref aC, .int (nI tot), .ref aB, .int (bz_c rd), .int (nI rt), .int (nI pl), .ref aR, .ref aO, .int (nI ((fb_c L).length)), .ref aW, .int (bz_c mp), .int (nI rn), .int (nI rs), .int (bz_c gd), .ref aD, .int (nI nh), .ref a1, .ref a2, .ref a3, .ref a4, .int (nI td), .ref aL, .int (nI J.length), .ref aY, .int (nI ms), .ref aM, .int (nI ip), .int (nI it), .int ir, .int (nI il), .ref bN, .ref bS, .ref bC, .ref bB, .ref bR, .ref bO, .ref aU])), (ta, .inl (cA 1, 72, .inl tf)), (aR, .inl (cA 0, 66, .inl rw)), (aW, .inl (cA 0, 72, .inl wf1))] H := hP
                            have hD : va_D A [(mo, .inr (8, [.int (nI 0), .int (nI (([] : List Int32).length)), .ref ta, .int (nI np), .ref aN, .ref aS, .ref aC, .int (nI tot), .ref aB, .int (bz_c rd), .int (nI rt), .int (nI pl), .ref aR, .ref aO, .int (nI ((fb_c L).length)), .ref aW, .int (bz_c mp), .int (nI rn), .int (nI rs), .int (bz_c gd), .ref aD, .int (nI nh), .ref a1, .ref a2, .ref a3, .ref a4, .int (nI td), .ref aL, .int (nI J.length), .ref aY, .int (nI ms), .ref aM, .int (nI ip), .int (nI it), .int ir, .int (nI il), .ref bN, .ref bS, .ref bC, .ref bB, .ref bR, .ref bO, .ref aU])), (ta, .inl (cA 1, 72, .inl tf)), (aR, .inl (cA 0, 66, .inl rw)), (aW, .inl (cA 0, 72, .inl wf1))] := hD
                            refine lv_iload_n hx hb d_Mo_find_171 rfl (lv_at hl 1 rfl) ?_
                            exact hret (nI c) (nI 0, fb_c L, wf1) _ _ _ 172 d_Mo_find_172 (by first | exact ⟨cd_clear hc, hw1, Or.inr (Or.inr ⟨rfl, hfd, bz_1 h75, rfl, by rw [hcn, show i = pl by omega]⟩)⟩ | exact ⟨cd_clear hc, hw, Or.inl ⟨rfl, hfd, rfl⟩⟩ | exact ⟨cd_clear hc, hw, Or.inr (Or.inl ⟨rfl, hfd, bz_0 h75, rfl⟩)⟩) hP hD hS
                          · intro h141
                            refine lv_aload_n hx hb d_Mo_find_144 rfl (lv_at hl 0 rfl) ?_
                            refine lv_iload_n hx hb d_Mo_find_145 rfl (lv_at hl 2 rfl) ?_
                            refine ck_cV (C := "ReadMapperModel") (ci := 8) (rest := []) (wr := [(ta, .inl (cA 1, 72, .inl tf))]) (ws2 := fun u => [(mo, .inr (8, [.int (nI 0), .int (nI L.length), .ref ta, .int (nI np), .ref aN, .ref aS, .ref aC, .int (nI tot), .ref aB, .int (bz_c rd), .int (nI rt), .int (nI pl), .ref aR, .ref aO, .int (nI ((fb_c L).length)), .ref aW, .int (bz_c mp), .int (nI rn), .int (nI rs), .int (bz_c gd), .ref aD, .int (nI nh), .ref a1, .ref a2, .ref a3, .ref a4, .int (nI td), .ref aL, .int (nI J.length), .ref aY, .int (nI ms), .ref aM, .int (nI ip), .int (nI it), .int ir, .int (nI il), .ref bN, .ref bS, .ref bC, .ref bB, .ref bR, .ref bO, .ref aU])), (ta, .inl (cA 1, 72, .inl tf)), (aR, .inl (cA 0, 66, .inl rw)), (aW, .inl (cA 0, 72, .inl wf1))]) (c_Mo_beginsWith l D cA K mo ta aN aS aC aB aR aO aW aD a1 a2 a3 a4 aL aY aM bN bS bC bB bR bO aU rd mp gd (nI 0) ir np tot rt pl rn rs nh td ms ip it il L J rw wf1 G (fb_c L) i (by first | assumption | omega) hrw hw1 (by first | assumption | omega)) hx hb hml hown hts hK hE hA hP hD hS k_Mo_beginsWith m_1055 (by decide) 0 rfl rfl rfl hl.1 rfl (Nat.le_of_ble_eq_true rfl) d_Mo_find_146  [0, 2, 3] [1] [1, 0, 2, 3] rfl rfl (by decide) (fun _ => rfl) (fun r146 u146 H locs hq146 hP hD hS => ?_)
                            try dsimp only at hq146
                            have hP : va_P D vwCl [(mo, .inr (8, [.int (nI 0), .int (nI L.length), .ref ta, .int (nI np), .ref aN, .ref aS, .ref aC, .int (nI tot), .ref aB, .int (bz_c rd), .int (nI rt), .int (nI pl), .ref aR, .ref aO, .int (nI ((fb_c L).length)), .ref aW, .int (bz_c mp), .int (nI rn), .int (nI rs), .int (bz_c gd), .ref aD, .int (nI nh), .ref a1, .ref a2, .ref a3, .ref a4, .int (nI td), .ref aL, .int (nI J.length), .ref aY, .int (nI ms), .ref aM, .int (nI ip), .int (nI it), .int ir, .int (nI il), .ref bN, .ref bS, .ref bC, .ref bB, .ref bR, .ref bO, .ref aU])), (ta, .inl (cA 1, 72, .inl tf)), (aR, .inl (cA 0, 66, .inl rw)), (aW, .inl (cA 0, 72, .inl wf1))] H := hP
                            have hD : va_D A [(mo, .inr (8, [.int (nI 0), .int (nI L.length), .ref ta, .int (nI np), .ref aN, .ref aS, .ref aC, .int (nI tot), .ref aB, .int (bz_c rd), .int (nI rt), .int (nI pl), .ref aR, .ref aO, .int (nI ((fb_c L).length)), .ref aW, .int (bz_c mp), .int (nI rn), .int (nI rs), .int (bz_c gd), .ref aD, .int (nI nh), .ref a1, .ref a2, .ref a3, .ref a4, .int (nI td), .ref aL, .int (nI J.length), .ref aY, .int (nI ms), .ref aM, .int (nI ip), .int (nI it), .int ir, .int (nI il), .ref bN, .ref bS, .ref bC, .ref bB, .ref bR, .ref bO, .ref aU])), (ta, .inl (cA 1, 72, .inl tf)), (aR, .inl (cA 0, 66, .inl rw)), (aW, .inl (cA 0, 72, .inl wf1))] := hD
                            rcases hq146 with ⟨rfl, hq146⟩ | ⟨rfl, hq146⟩
                            ·
                              refine lv_if_eq (tgt := 158) hx hb d_Mo_find_149 (by decide) (fun h9 => absurd h9 (by decide)) (fun _ => ?_)
                              refine lv_iload_n hx hb d_Mo_find_152 rfl (lv_at hl 1 rfl) ?_
                              refine lv_iconst (v := nI 1) hx hb d_Mo_find_153 (by decide) ?_
                              refine wn_iadd hx hb d_Mo_find_154 ?_
                              refine lv_goto (tgt := 159) hx hb d_Mo_find_155 (by decide) ?_
                              refine lv_istore_n (lv' := [(2, .int (nI (c + 1))), (0, .ref mo), (3, .int (nI i))]) hx hb d_Mo_find_159 rfl hl (by decide) rfl (fun ls hl => ?_)
                              refine lv_iinc (k := 2) (v := nI (i + 1)) (lv' := [(3, .int (nI (i + 1))), (2, .int (nI (c + 1))), (0, .ref mo)]) hx hb d_Mo_find_160 hl rfl (wi_inc1 _) (by decide) rfl (fun ls hl => ?_)
                              refine lv_goto (tgt := 136) hx hb d_Mo_find_163 (by decide) ?_
                              exact ih136 _ (by omega) (c + 1) (i + 1) _ _ _ rfl (by first | assumption | omega) (by first | exact lo_y hcn hq146 | exact lo_n hcn hq146) hP hD hS (lv_sub hl [2, 1, 0] rfl)
                            ·
                              refine lv_if_eq (tgt := 158) hx hb d_Mo_find_149 (by decide) (fun _ => ?_) (fun h9 => absurd h9 (by decide))
                              refine lv_iload_n hx hb d_Mo_find_158 rfl (lv_at hl 1 rfl) ?_
                              refine lv_istore_n (lv' := [(2, .int (nI c)), (0, .ref mo), (3, .int (nI i))]) hx hb d_Mo_find_159 rfl hl (by decide) rfl (fun ls hl => ?_)
                              refine lv_iinc (k := 2) (v := nI (i + 1)) (lv' := [(3, .int (nI (i + 1))), (2, .int (nI c)), (0, .ref mo)]) hx hb d_Mo_find_160 hl rfl (wi_inc1 _) (by decide) rfl (fun ls hl => ?_)
                              refine lv_goto (tgt := 136) hx hb d_Mo_find_163 (by decide) ?_
                              exact ih136 _ (by omega) c (i + 1) _ _ _ rfl (by first | assumption | omega) (by first | exact lo_y hcn hq146 | exact lo_n hcn hq146) hP hD hS (lv_sub hl [2, 1, 0] rfl)
                      exact L136 _ 0 0 _ _ _ rfl (by first | assumption | omega) rfl hP hD hS (lv_sub hl [1, 2, 0] rfl)
                    · intro h110
                      refine lv_aload_n hx hb d_Mo_find_113 rfl (lv_at hl 0 rfl) ?_
                      refine va_get (C := RX8) (T := TX8) (N := 43) hx hb hts inX8 hown hK hP 0 rfl rfl 15 (by decide) (hts _ m_860) (fun _ h9 => h9) rfl d_Mo_find_114 ?_
                      refine lv_iload_n hx hb d_Mo_find_117 rfl (lv_at hl 2 rfl) ?_
                      refine lv_aload_n hx hb d_Mo_find_118 rfl (lv_at hl 0 rfl) ?_
                      refine va_get (C := RX8) (T := TX8) (N := 43) hx hb hts inX8 hown hK hP 0 rfl rfl 2 (by decide) (hts _ m_847) (fun _ h9 => h9) rfl d_Mo_find_119 ?_
                      refine lv_iload_n hx hb d_Mo_find_122 rfl (lv_at hl 2 rfl) ?_
                      refine wn_cald hx hb hK hP 1 1 rfl rfl (by omega) (by omega) d_Mo_find_123 ?_
                      refine wn_eq (y := L.getD i 0) (hc.2.2 i (by omega)) ?_
                      refine ck_cS (rest := [.int (nI i), .ref aW]) (wr := [(mo, .inr (8, [.int (nI 0), .int (nI L.length), .ref ta, .int (nI np), .ref aN, .ref aS, .ref aC, .int (nI tot), .ref aB, .int (bz_c rd), .int (nI rt), .int (nI pl), .ref aR, .ref aO, .int (nI ((fb_c L).length)), .ref aW, .int (bz_c mp), .int (nI rn), .int (nI rs), .int (bz_c gd), .ref aD, .int (nI nh), .ref a1, .ref a2, .ref a3, .ref a4, .int (nI td), .ref aL, .int (nI J.length), .ref aY, .int (nI ms), .ref aM, .int (nI ip), .int (nI it), .int ir, .int (nI il), .ref bN, .ref bS, .ref bC, .ref bB, .ref bR, .ref bO, .ref aU])), (ta, .inl (cA 1, 72, .inl tf)), (aR, .inl (cA 0, 66, .inl rw)), (aW, .inl (cA 0, 72, .inl wf1))]) (ws2 := fun u => [(mo, .inr (8, [.int (nI 0), .int (nI L.length), .ref ta, .int (nI np), .ref aN, .ref aS, .ref aC, .int (nI tot), .ref aB, .int (bz_c rd), .int (nI rt), .int (nI pl), .ref aR, .ref aO, .int (nI ((fb_c L).length)), .ref aW, .int (bz_c mp), .int (nI rn), .int (nI rs), .int (bz_c gd), .ref aD, .int (nI nh), .ref a1, .ref a2, .ref a3, .ref a4, .int (nI td), .ref aL, .int (nI J.length), .ref aY, .int (nI ms), .ref aM, .int (nI ip), .int (nI it), .int ir, .int (nI il), .ref bN, .ref bS, .ref bC, .ref bB, .ref bR, .ref bO, .ref aU])), (ta, .inl (cA 1, 72, .inl tf)), (aR, .inl (cA 0, 66, .inl rw)), (aW, .inl (cA 0, 72, .inl wf1))]) (c_Mo_symbol l D cA K (L.getD i 0) ) hx hb hml hown hts hK hE hA hP hD hS k_Mo_symbol m_1000 (by decide) rfl hl.1 rfl (Nat.le_of_ble_eq_true rfl) d_Mo_find_124 [] [0, 1, 2, 3] [0, 1, 2, 3] rfl rfl (by decide) (fun _ => rfl) (fun r124 u124 H locs hq124 hP hD hS => ?_)
                      try dsimp only at hq124
                      have hP : va_P D vwCl [(mo, .inr (8, [.int (nI 0), .int (nI L.length), .ref ta, .int (nI np), .ref aN, .ref aS, .ref aC, .int (nI tot), .ref aB, .int (bz_c rd), .int (nI rt), .int (nI pl), .ref aR, .ref aO, .int (nI ((fb_c L).length)), .ref aW, .int (bz_c mp), .int (nI rn), .int (nI rs), .int (bz_c gd), .ref aD, .int (nI nh), .ref a1, .ref a2, .ref a3, .ref a4, .int (nI td), .ref aL, .int (nI J.length), .ref aY, .int (nI ms), .ref aM, .int (nI ip), .int (nI it), .int ir, .int (nI il), .ref bN, .ref bS, .ref bC, .ref bB, .ref bR, .ref bO, .ref aU])), (ta, .inl (cA 1, 72, .inl tf)), (aR, .inl (cA 0, 66, .inl rw)), (aW, .inl (cA 0, 72, .inl wf1))] H := hP
                      have hD : va_D A [(mo, .inr (8, [.int (nI 0), .int (nI L.length), .ref ta, .int (nI np), .ref aN, .ref aS, .ref aC, .int (nI tot), .ref aB, .int (bz_c rd), .int (nI rt), .int (nI pl), .ref aR, .ref aO, .int (nI ((fb_c L).length)), .ref aW, .int (bz_c mp), .int (nI rn), .int (nI rs), .int (bz_c gd), .ref aD, .int (nI nh), .ref a1, .ref a2, .ref a3, .ref a4, .int (nI td), .ref aL, .int (nI J.length), .ref aY, .int (nI ms), .ref aM, .int (nI ip), .int (nI it), .int ir, .int (nI il), .ref bN, .ref bS, .ref bC, .ref bB, .ref bR, .ref bO, .ref aU])), (ta, .inl (cA 1, 72, .inl tf)), (aR, .inl (cA 0, 66, .inl rw)), (aW, .inl (cA 0, 72, .inl wf1))] := hD
                      subst r124
                      refine wn_eq (y := (fb_c L).getD i 0) (fb_get (by omega)).symm ?_
                      refine wn_iast hx hb hK hP hD hS 3 0 rfl rfl (by omega) (by omega) d_Mo_find_127 (fun H locs hP hD hS => ?_)
                      have hP : va_P D vwCl [(mo, .inr (8, [.int (nI 0), .int (nI L.length), .ref ta, .int (nI np), .ref aN, .ref aS, .ref aC, .int (nI tot), .ref aB, .int (bz_c rd), .int (nI rt), .int (nI pl), .ref aR, .ref aO, .int (nI ((fb_c L).length)), .ref aW, .int (bz_c mp), .int (nI rn), .int (nI rs), .int (bz_c gd), .ref aD, .int (nI nh), .ref a1, .ref a2, .ref a3, .ref a4, .int (nI td), .ref aL, .int (nI J.length), .ref aY, .int (nI ms), .ref aM, .int (nI ip), .int (nI it), .int ir, .int (nI il), .ref bN, .ref bS, .ref bC, .ref bB, .ref bR, .ref bO, .ref aU])), (ta, .inl (cA 1, 72, .inl tf)), (aR, .inl (cA 0, 66, .inl rw)), (aW, .inl (cA 0, 72, .inl (upd wf1 i ((fb_c L).getD i 0))))] H := hP
                      have hD : va_D A [(mo, .inr (8, [.int (nI 0), .int (nI L.length), .ref ta, .int (nI np), .ref aN, .ref aS, .ref aC, .int (nI tot), .ref aB, .int (bz_c rd), .int (nI rt), .int (nI pl), .ref aR, .ref aO, .int (nI ((fb_c L).length)), .ref aW, .int (bz_c mp), .int (nI rn), .int (nI rs), .int (bz_c gd), .ref aD, .int (nI nh), .ref a1, .ref a2, .ref a3, .ref a4, .int (nI td), .ref aL, .int (nI J.length), .ref aY, .int (nI ms), .ref aM, .int (nI ip), .int (nI it), .int ir, .int (nI il), .ref bN, .ref bS, .ref bC, .ref bB, .ref bR, .ref bO, .ref aU])), (ta, .inl (cA 1, 72, .inl tf)), (aR, .inl (cA 0, 66, .inl rw)), (aW, .inl (cA 0, 72, .inl (upd wf1 i ((fb_c L).getD i 0))))] := hD
                      refine lv_iinc (k := 2) (v := nI (i + 1)) (lv' := [(3, .int (nI (i + 1))), (0, .ref mo), (2, .int (nI 0))]) hx hb d_Mo_find_128 hl rfl (wi_inc1 _) (by decide) rfl (fun ls hl => ?_)
                      refine lv_goto (tgt := 105) hx hb d_Mo_find_131 (by decide) ?_
                      exact ih105 _ (by omega) (i + 1) (upd wf1 i ((fb_c L).getD i 0)) _ _ _ rfl (by first | assumption | omega) (up_s hs rfl) hP hD hS (lv_sub hl [1, 2, 0] rfl)
                exact L105 _ 0 wf _ _ _ rfl (by first | assumption | omega) (fun j hj => absurd hj (Nat.not_lt_zero j)) hP hD hS (lv_sub hl [2, 1, 0] rfl)
              · intro h75
                refine lv_iconst (v := nI 2) hx hb d_Mo_find_78 (by decide) ?_
                refine lv_goto (tgt := 83) hx hb d_Mo_find_79 (by decide) ?_
                refine va_put (D := D) (ci := 8) (v := .int (nI 2)) (ty := .int) (C := RX8) (T := TX8) (N := 43) hx hb hts inX8 tyX8 tyX8_ok nmX8 hown hK hP hD hS 0 rfl rfl 0 (by decide) (hts _ m_845) (fun _ h9 => h9) rfl (by decide +kernel) rfl rfl (Nat.le_of_ble_eq_true rfl) d_Mo_find_83 (fun H locs hP hD hS => ?_)
                have hP : va_P D vwCl [(mo, .inr (8, [.int (nI 2), .int (nI L.length), .ref ta, .int (nI np), .ref aN, .ref aS, .ref aC, .int (nI tot), .ref aB, .int (bz_c rd), .int (nI rt), .int (nI pl), .ref aR, .ref aO, .int (nI Wd.length), .ref aW, .int (bz_c mp), .int (nI rn), .int (nI rs), .int (bz_c gd), .ref aD, .int (nI nh), .ref a1, .ref a2, .ref a3, .ref a4, .int (nI td), .ref aL, .int (nI J.length), .ref aY, .int (nI ms), .ref aM, .int (nI ip), .int (nI it), .int ir, .int (nI il), .ref bN, .ref bS, .ref bC, .ref bB, .ref bR, .ref bO, .ref aU])), (ta, .inl (cA 1, 72, .inl tf)), (aR, .inl (cA 0, 66, .inl rw)), (aW, .inl (cA 0, 72, .inl wf))] H := hP
                have hD : va_D A [(mo, .inr (8, [.int (nI 2), .int (nI L.length), .ref ta, .int (nI np), .ref aN, .ref aS, .ref aC, .int (nI tot), .ref aB, .int (bz_c rd), .int (nI rt), .int (nI pl), .ref aR, .ref aO, .int (nI Wd.length), .ref aW, .int (bz_c mp), .int (nI rn), .int (nI rs), .int (bz_c gd), .ref aD, .int (nI nh), .ref a1, .ref a2, .ref a3, .ref a4, .int (nI td), .ref aL, .int (nI J.length), .ref aY, .int (nI ms), .ref aM, .int (nI ip), .int (nI it), .int ir, .int (nI il), .ref bN, .ref bS, .ref bC, .ref bB, .ref bR, .ref bO, .ref aU])), (ta, .inl (cA 1, 72, .inl tf)), (aR, .inl (cA 0, 66, .inl rw)), (aW, .inl (cA 0, 72, .inl wf))] := hD
                refine lv_iconst (v := nI 0) hx hb d_Mo_find_86 (by decide) ?_
                refine lv_istore_n (lv' := [(2, .int (nI 0)), (0, .ref mo), (1, .int (bz_c g))]) hx hb d_Mo_find_87 rfl hl (by decide) rfl (fun ls hl => ?_)
                refine lv_aload_n hx hb d_Mo_find_88 rfl (lv_at hl 1 rfl) ?_
                refine va_get (C := RX8) (T := TX8) (N := 43) hx hb hts inX8 hown hK hP 0 rfl rfl 0 (by decide) (hts _ m_845) (fun _ h9 => h9) rfl d_Mo_find_89 ?_
                refine lv_if_ne (tgt := 166) hx hb d_Mo_find_92 (by decide) (fun _ => ?_) (fun h9 => absurd h9 (by decide))
                refine lv_aload_n hx hb d_Mo_find_166 rfl (lv_at hl 1 rfl) ?_
                refine lv_iconst (v := nI (([] : List Int32).length)) hx hb d_Mo_find_167 rfl ?_
                refine va_put (D := D) (ci := 8) (v := .int (nI (([] : List Int32).length))) (ty := .int) (C := RX8) (T := TX8) (N := 43) hx hb hts inX8 tyX8 tyX8_ok nmX8 hown hK hP hD hS 0 rfl rfl 1 (by decide) (hts _ m_846) (fun _ h9 => h9) rfl (by decide +kernel) rfl rfl (Nat.le_of_ble_eq_true rfl) d_Mo_find_168 (fun H locs hP hD hS => ?_)
                have hP : va_P D vwCl [(mo, .inr (8, [.int (nI 2), .int (nI (([] : List Int32).length)), .ref ta, .int (nI np), .ref aN, .ref aS, .ref aC, .int (nI tot), .ref aB, .int (bz_c rd), .int (nI rt), .int (nI pl), .ref aR, .ref aO, .int (nI Wd.length), .ref aW, .int (bz_c mp), .int (nI rn), .int (nI rs), .int (bz_c gd), .ref aD, .int (nI nh), .ref a1, .ref a2, .ref a3, .ref a4, .int (nI td), .ref aL, .int (nI J.length), .ref aY, .int (nI ms), .ref aM, .int (nI ip), .int (nI it), .int ir, .int (nI il), .ref bN, .ref bS, .ref bC, .ref bB, .ref bR, .ref bO, .ref aU])), (ta, .inl (cA 1, 72, .inl tf)), (aR, .inl (cA 0, 66, .inl rw)), (aW, .inl (cA 0, 72, .inl wf))] H := hP
                have hD : va_D A [(mo, .inr (8, [.int (nI 2), .int (nI (([] : List Int32).length)), .ref ta, .int (nI np), .ref aN, .ref aS, .ref aC, .int (nI tot), .ref aB, .int (bz_c rd), .int (nI rt), .int (nI pl), .ref aR, .ref aO, .int (nI Wd.length), .ref aW, .int (bz_c mp), .int (nI rn), .int (nI rs), .int (bz_c gd), .ref aD, .int (nI nh), .ref a1, .ref a2, .ref a3, .ref a4, .int (nI td), .ref aL, .int (nI J.length), .ref aY, .int (nI ms), .ref aM, .int (nI ip), .int (nI it), .int ir, .int (nI il), .ref bN, .ref bS, .ref bC, .ref bB, .ref bR, .ref bO, .ref aU])), (ta, .inl (cA 1, 72, .inl tf)), (aR, .inl (cA 0, 66, .inl rw)), (aW, .inl (cA 0, 72, .inl wf))] := hD
                refine lv_iload_n hx hb d_Mo_find_171 rfl (lv_at hl 0 rfl) ?_
                exact hret (nI 0) (nI 2, Wd, wf) _ _ _ 172 d_Mo_find_172 (by first | exact ⟨cd_clear hc, hw1, Or.inr (Or.inr ⟨rfl, hfd, bz_1 h75, rfl, by rw [hcn, show i = pl by omega]⟩)⟩ | exact ⟨cd_clear hc, hw, Or.inl ⟨rfl, hfd, rfl⟩⟩ | exact ⟨cd_clear hc, hw, Or.inr (Or.inl ⟨rfl, hfd, bz_0 h75, rfl⟩)⟩) hP hD hS
            · intro h64
              have hfd := fd_x hl0 (show k = L.length by omega) hg (bz_0 h64)
              refine lv_iconst (v := nI 1) hx hb d_Mo_find_67 (by decide) ?_
              refine lv_goto (tgt := 83) hx hb d_Mo_find_68 (by decide) ?_
              refine va_put (D := D) (ci := 8) (v := .int (nI 1)) (ty := .int) (C := RX8) (T := TX8) (N := 43) hx hb hts inX8 tyX8 tyX8_ok nmX8 hown hK hP hD hS 0 rfl rfl 0 (by decide) (hts _ m_845) (fun _ h9 => h9) rfl (by decide +kernel) rfl rfl (Nat.le_of_ble_eq_true rfl) d_Mo_find_83 (fun H locs hP hD hS => ?_)
              have hP : va_P D vwCl [(mo, .inr (8, [.int (nI 1), .int (nI L.length), .ref ta, .int (nI np), .ref aN, .ref aS, .ref aC, .int (nI tot), .ref aB, .int (bz_c rd), .int (nI rt), .int (nI pl), .ref aR, .ref aO, .int (nI Wd.length), .ref aW, .int (bz_c mp), .int (nI rn), .int (nI rs), .int (bz_c gd), .ref aD, .int (nI nh), .ref a1, .ref a2, .ref a3, .ref a4, .int (nI td), .ref aL, .int (nI J.length), .ref aY, .int (nI ms), .ref aM, .int (nI ip), .int (nI it), .int ir, .int (nI il), .ref bN, .ref bS, .ref bC, .ref bB, .ref bR, .ref bO, .ref aU])), (ta, .inl (cA 1, 72, .inl tf)), (aR, .inl (cA 0, 66, .inl rw)), (aW, .inl (cA 0, 72, .inl wf))] H := hP
              have hD : va_D A [(mo, .inr (8, [.int (nI 1), .int (nI L.length), .ref ta, .int (nI np), .ref aN, .ref aS, .ref aC, .int (nI tot), .ref aB, .int (bz_c rd), .int (nI rt), .int (nI pl), .ref aR, .ref aO, .int (nI Wd.length), .ref aW, .int (bz_c mp), .int (nI rn), .int (nI rs), .int (bz_c gd), .ref aD, .int (nI nh), .ref a1, .ref a2, .ref a3, .ref a4, .int (nI td), .ref aL, .int (nI J.length), .ref aY, .int (nI ms), .ref aM, .int (nI ip), .int (nI it), .int ir, .int (nI il), .ref bN, .ref bS, .ref bC, .ref bB, .ref bR, .ref bO, .ref aU])), (ta, .inl (cA 1, 72, .inl tf)), (aR, .inl (cA 0, 66, .inl rw)), (aW, .inl (cA 0, 72, .inl wf))] := hD
              refine lv_iconst (v := nI 0) hx hb d_Mo_find_86 (by decide) ?_
              refine lv_istore_n (lv' := [(2, .int (nI 0)), (0, .ref mo), (1, .int (bz_c g))]) hx hb d_Mo_find_87 rfl hl (by decide) rfl (fun ls hl => ?_)
              refine lv_aload_n hx hb d_Mo_find_88 rfl (lv_at hl 1 rfl) ?_
              refine va_get (C := RX8) (T := TX8) (N := 43) hx hb hts inX8 hown hK hP 0 rfl rfl 0 (by decide) (hts _ m_845) (fun _ h9 => h9) rfl d_Mo_find_89 ?_
              refine lv_if_ne (tgt := 166) hx hb d_Mo_find_92 (by decide) (fun _ => ?_) (fun h9 => absurd h9 (by decide))
              refine lv_aload_n hx hb d_Mo_find_166 rfl (lv_at hl 1 rfl) ?_
              refine lv_iconst (v := nI (([] : List Int32).length)) hx hb d_Mo_find_167 rfl ?_
              refine va_put (D := D) (ci := 8) (v := .int (nI (([] : List Int32).length))) (ty := .int) (C := RX8) (T := TX8) (N := 43) hx hb hts inX8 tyX8 tyX8_ok nmX8 hown hK hP hD hS 0 rfl rfl 1 (by decide) (hts _ m_846) (fun _ h9 => h9) rfl (by decide +kernel) rfl rfl (Nat.le_of_ble_eq_true rfl) d_Mo_find_168 (fun H locs hP hD hS => ?_)
              have hP : va_P D vwCl [(mo, .inr (8, [.int (nI 1), .int (nI (([] : List Int32).length)), .ref ta, .int (nI np), .ref aN, .ref aS, .ref aC, .int (nI tot), .ref aB, .int (bz_c rd), .int (nI rt), .int (nI pl), .ref aR, .ref aO, .int (nI Wd.length), .ref aW, .int (bz_c mp), .int (nI rn), .int (nI rs), .int (bz_c gd), .ref aD, .int (nI nh), .ref a1, .ref a2, .ref a3, .ref a4, .int (nI td), .ref aL, .int (nI J.length), .ref aY, .int (nI ms), .ref aM, .int (nI ip), .int (nI it), .int ir, .int (nI il), .ref bN, .ref bS, .ref bC, .ref bB, .ref bR, .ref bO, .ref aU])), (ta, .inl (cA 1, 72, .inl tf)), (aR, .inl (cA 0, 66, .inl rw)), (aW, .inl (cA 0, 72, .inl wf))] H := hP
              have hD : va_D A [(mo, .inr (8, [.int (nI 1), .int (nI (([] : List Int32).length)), .ref ta, .int (nI np), .ref aN, .ref aS, .ref aC, .int (nI tot), .ref aB, .int (bz_c rd), .int (nI rt), .int (nI pl), .ref aR, .ref aO, .int (nI Wd.length), .ref aW, .int (bz_c mp), .int (nI rn), .int (nI rs), .int (bz_c gd), .ref aD, .int (nI nh), .ref a1, .ref a2, .ref a3, .ref a4, .int (nI td), .ref aL, .int (nI J.length), .ref aY, .int (nI ms), .ref aM, .int (nI ip), .int (nI it), .int ir, .int (nI il), .ref bN, .ref bS, .ref bC, .ref bB, .ref bR, .ref bO, .ref aU])), (ta, .inl (cA 1, 72, .inl tf)), (aR, .inl (cA 0, 66, .inl rw)), (aW, .inl (cA 0, 72, .inl wf))] := hD
              refine lv_iload_n hx hb d_Mo_find_171 rfl (lv_at hl 0 rfl) ?_
              exact hret (nI 0) (nI 1, Wd, wf) _ _ _ 172 d_Mo_find_172 (by first | exact ⟨cd_clear hc, hw1, Or.inr (Or.inr ⟨rfl, hfd, bz_1 h75, rfl, by rw [hcn, show i = pl by omega]⟩)⟩ | exact ⟨cd_clear hc, hw, Or.inl ⟨rfl, hfd, rfl⟩⟩ | exact ⟨cd_clear hc, hw, Or.inr (Or.inl ⟨rfl, hfd, bz_0 h75, rfl⟩)⟩) hP hD hS
          · intro h32
            refine lv_iload_n hx hb d_Mo_find_35 rfl (lv_at hl 1 rfl) ?_
            refine lv_if_eq (tgt := 54) hx hb d_Mo_find_36 (by decide) ?_ ?_
            · intro h36
              refine lv_iconst (v := nI 0) hx hb d_Mo_find_54 (by decide) ?_
              refine lv_istore_n (lv' := [(1, .int (nI 0)), (0, .ref mo), (2, .int (nI k))]) hx hb d_Mo_find_55 rfl hl (by decide) rfl (fun ls hl => ?_)
              refine lv_iinc (k := 2) (v := nI (k + 1)) (lv' := [(2, .int (nI (k + 1))), (1, .int (nI 0)), (0, .ref mo)]) hx hb d_Mo_find_56 hl rfl (wi_inc1 _) (by decide) rfl (fun ls hl => ?_)
              refine lv_goto (tgt := 27) hx hb d_Mo_find_59 (by decide) ?_
              exact ih27 _ (by omega) (k + 1) _ _ _ _ rfl (by first | assumption | omega) (by first | exact fg_3 hg h36 | exact fg_4 h47 | exact fg_5 hg h36 h47) hP hD hS (lv_sub hl [2, 1, 0] rfl)
            · intro h36
              refine lv_aload_n hx hb d_Mo_find_39 rfl (lv_at hl 0 rfl) ?_
              refine va_get (C := RX8) (T := TX8) (N := 43) hx hb hts inX8 hown hK hP 0 rfl rfl 2 (by decide) (hts _ m_847) (fun _ h9 => h9) rfl d_Mo_find_40 ?_
              refine lv_iload_n hx hb d_Mo_find_43 rfl (lv_at hl 2 rfl) ?_
              refine wn_cald hx hb hK hP 1 1 rfl rfl (by omega) (by omega) d_Mo_find_44 ?_
              refine wn_eq (y := L.getD k 0) (hc.2.2 k (by omega)) ?_
              refine lv_bipush (v := 78) hx hb d_Mo_find_45 (by decide) ?_
              refine lv_icmp_eq (tgt := 54) hx hb d_Mo_find_47 (by decide) ?_ ?_
              · intro h47
                refine lv_iconst (v := nI 0) hx hb d_Mo_find_54 (by decide) ?_
                refine lv_istore_n (lv' := [(1, .int (nI 0)), (0, .ref mo), (2, .int (nI k))]) hx hb d_Mo_find_55 rfl hl (by decide) rfl (fun ls hl => ?_)
                refine lv_iinc (k := 2) (v := nI (k + 1)) (lv' := [(2, .int (nI (k + 1))), (1, .int (nI 0)), (0, .ref mo)]) hx hb d_Mo_find_56 hl rfl (wi_inc1 _) (by decide) rfl (fun ls hl => ?_)
                refine lv_goto (tgt := 27) hx hb d_Mo_find_59 (by decide) ?_
                exact ih27 _ (by omega) (k + 1) _ _ _ _ rfl (by first | assumption | omega) (by first | exact fg_3 hg h36 | exact fg_4 h47 | exact fg_5 hg h36 h47) hP hD hS (lv_sub hl [2, 1, 0] rfl)
              · intro h47
                refine lv_iconst (v := nI 1) hx hb d_Mo_find_50 (by decide) ?_
                refine lv_goto (tgt := 55) hx hb d_Mo_find_51 (by decide) ?_
                refine lv_istore_n (lv' := [(1, .int (nI 1)), (0, .ref mo), (2, .int (nI k))]) hx hb d_Mo_find_55 rfl hl (by decide) rfl (fun ls hl => ?_)
                refine lv_iinc (k := 2) (v := nI (k + 1)) (lv' := [(2, .int (nI (k + 1))), (1, .int (nI 1)), (0, .ref mo)]) hx hb d_Mo_find_56 hl rfl (wi_inc1 _) (by decide) rfl (fun ls hl => ?_)
                refine lv_goto (tgt := 27) hx hb d_Mo_find_59 (by decide) ?_
                exact ih27 _ (by omega) (k + 1) _ _ _ _ rfl (by first | assumption | omega) (by first | exact fg_3 hg h36 | exact fg_4 h47 | exact fg_5 hg h36 h47) hP hD hS (lv_sub hl [2, 1, 0] rfl)
      exact L27 _ 0 true _ _ _ rfl (by first | assumption | omega) (by first | exact fg_1 (by omega) (h16 ▸ hq9) | exact fg_2 (fun y => h16 (nb_un hq9 y.2.1)) | exact fg_2 (fun y => by have y1 := y.1; omega)) hP hD hS (lv_sub hl [2, 1, 0] rfl)
theorem k_Mo_find : cf_V y_Mo_find b_Mo_find 4 (some .int) "ReadMapperModel" 0 := ⟨⟨m_1052, m_1053, m_9, m_1054⟩, by decide +kernel⟩
set_option maxHeartbeats 4000000 in
set_option maxRecDepth 100000 in
theorem c_Mo_first (l : Launch) (D : va_G) (cA : Nat → ClassId) (K : Nat → Nat) (mo ta aN aS aC aB aR aO aW aD a1 a2 a3 a4 aL aY aM bN bS bC bB bR bO aU : Nat) (rd mp gd : Bool) (zt ir : Int32) (np tot rt pl rn rs nh td ms ip it il : Nat) (L J : List Int32) (rw : Nat → Int32) (of : Nat → Int32) (wf : Nat → Int32) (G : Nat → Int32) (so : Nat → Nat) (Wd : List Int32) (hpl : pl ≤ 65) (hw : cd_r 72 wf Wd) (hrd : rd = true → (∀ z, z < pl → rw z = G z) ∧ ∀ j, j < pl → of j = nI (so j) ∧ so j < pl) : ck_I l y_Mo_first (Cond.code y_Mo_first b_Mo_first 2 (some .int) :: w_all) 2 D cA K [.ref mo] [(mo, .inr (8, [.int zt, .int (nI L.length), .ref ta, .int (nI np), .ref aN, .ref aS, .ref aC, .int (nI tot), .ref aB, .int (bz_c rd), .int (nI rt), .int (nI pl), .ref aR, .ref aO, .int (nI Wd.length), .ref aW, .int (bz_c mp), .int (nI rn), .int (nI rs), .int (bz_c gd), .ref aD, .int (nI nh), .ref a1, .ref a2, .ref a3, .ref a4, .int (nI td), .ref aL, .int (nI J.length), .ref aY, .int (nI ms), .ref aM, .int (nI ip), .int (nI it), .int ir, .int (nI il), .ref bN, .ref bS, .ref bC, .ref bB, .ref bR, .ref bO, .ref aU])), (aR, .inl (cA 0, 66, .inl rw)), (aO, .inl (cA 0, 66, .inl of)), (aW, .inl (cA 0, 72, .inl wf))] (fun (r : Int32) (u : Unit) => ((Wd = [] ∨ rd = false) ∧ r = -1) ∨ (¬ Wd = [] ∧ rd = true ∧ ((∃ k, r = nI k ∧ k < pl ∧ bw_p G pl Wd (so k) ∧ ∀ j, j < k → ¬ bw_p G pl Wd (so j)) ∨ (r = -1 ∧ ∀ j, j < pl → ¬ bw_p G pl Wd (so j))))) (fun u => [(mo, .inr (8, [.int (nI 0), .int (nI L.length), .ref ta, .int (nI np), .ref aN, .ref aS, .ref aC, .int (nI tot), .ref aB, .int (bz_c rd), .int (nI rt), .int (nI pl), .ref aR, .ref aO, .int (nI Wd.length), .ref aW, .int (bz_c mp), .int (nI rn), .int (nI rs), .int (bz_c gd), .ref aD, .int (nI nh), .ref a1, .ref a2, .ref a3, .ref a4, .int (nI td), .ref aL, .int (nI J.length), .ref aY, .int (nI ms), .ref aM, .int (nI ip), .int (nI it), .int ir, .int (nI il), .ref bN, .ref bS, .ref bC, .ref bB, .ref bR, .ref bO, .ref aU])), (aR, .inl (cA 0, 66, .inl rw)), (aO, .inl (cA 0, 66, .inl of)), (aW, .inl (cA 0, 72, .inl wf))]) := by
  refine ck_mkI (by decide) (fun _ _ _ => rfl) (Nat.le_of_ble_eq_true rfl) ?_
  intro pG eG sG mG argsG belowG methG cG Q A H locs ls hx hb hml hown hts hK hE hA hP hD hS hl hret
  have hl : lv_has ls 2 [(0, .ref mo)] := hl
  have hl1 := cd_len hw
  refine lv_aload_n hx hb d_Mo_first_0 rfl (lv_at hl 0 rfl) ?_
  refine lv_iconst (v := nI 0) hx hb d_Mo_first_1 (by decide) ?_
  refine va_put (D := D) (ci := 8) (v := .int (nI 0)) (ty := .int) (C := RX8) (T := TX8) (N := 43) hx hb hts inX8 tyX8 tyX8_ok nmX8 hown hK hP hD hS 0 rfl rfl 0 (by decide) (hts _ m_845) (fun _ h9 => h9) rfl (by decide +kernel) rfl rfl (Nat.le_of_ble_eq_true rfl) d_Mo_first_2 (fun H locs hP hD hS => ?_)
  have hP : va_P D vwCl [(mo, .inr (8, [.int (nI 0), .int (nI L.length), .ref ta, .int (nI np), .ref aN, .ref aS, .ref aC, .int (nI tot), .ref aB, .int (bz_c rd), .int (nI rt), .int (nI pl), .ref aR, .ref aO, .int (nI Wd.length), .ref aW, .int (bz_c mp), .int (nI rn), .int (nI rs), .int (bz_c gd), .ref aD, .int (nI nh), .ref a1, .ref a2, .ref a3, .ref a4, .int (nI td), .ref aL, .int (nI J.length), .ref aY, .int (nI ms), .ref aM, .int (nI ip), .int (nI it), .int ir, .int (nI il), .ref bN, .ref bS, .ref bC, .ref bB, .ref bR, .ref bO, .ref aU])), (aR, .inl (cA 0, 66, .inl rw)), (aO, .inl (cA 0, 66, .inl of)), (aW, .inl (cA 0, 72, .inl wf))] H := hP
  have hD : va_D A [(mo, .inr (8, [.int (nI 0), .int (nI L.length), .ref ta, .int (nI np), .ref aN, .ref aS, .ref aC, .int (nI tot), .ref aB, .int (bz_c rd), .int (nI rt), .int (nI pl), .ref aR, .ref aO, .int (nI Wd.length), .ref aW, .int (bz_c mp), .int (nI rn), .int (nI rs), .int (bz_c gd), .ref aD, .int (nI nh), .ref a1, .ref a2, .ref a3, .ref a4, .int (nI td), .ref aL, .int (nI J.length), .ref aY, .int (nI ms), .ref aM, .int (nI ip), .int (nI it), .int ir, .int (nI il), .ref bN, .ref bS, .ref bC, .ref bB, .ref bR, .ref bO, .ref aU])), (aR, .inl (cA 0, 66, .inl rw)), (aO, .inl (cA 0, 66, .inl of)), (aW, .inl (cA 0, 72, .inl wf))] := hD
  refine lv_iconst (v := nI 0) hx hb d_Mo_first_5 (by decide) ?_
  refine lv_istore_n (lv' := [(1, .int (nI 0)), (0, .ref mo)]) hx hb d_Mo_first_6 rfl hl (by decide) rfl (fun ls hl => ?_)
  have L7 : ∀ (nG : Nat) (i : Nat) (H : Heap) (locs : List Loc) (ls : Array Slot), pl - i = nG → (i ≤ pl) → (∀ j, j < i → ¬ bw_p G pl Wd (so j)) →  va_P D vwCl [(mo, .inr (8, [.int (nI 0), .int (nI L.length), .ref ta, .int (nI np), .ref aN, .ref aS, .ref aC, .int (nI tot), .ref aB, .int (bz_c rd), .int (nI rt), .int (nI pl), .ref aR, .ref aO, .int (nI Wd.length), .ref aW, .int (bz_c mp), .int (nI rn), .int (nI rs), .int (bz_c gd), .ref aD, .int (nI nh), .ref a1, .ref a2, .ref a3, .ref a4, .int (nI td), .ref aL, .int (nI J.length), .ref aY, .int (nI ms), .ref aM, .int (nI ip), .int (nI it), .int ir, .int (nI il), .ref bN, .ref bS, .ref bC, .ref bB, .ref bR, .ref bO, .ref aU])), (aR, .inl (cA 0, 66, .inl rw)), (aO, .inl (cA 0, 66, .inl of)), (aW, .inl (cA 0, 72, .inl wf))] H → va_D A [(mo, .inr (8, [.int (nI 0), .int (nI L.length), .ref ta, .int (nI np), .ref aN, .ref aS, .ref aC, .int (nI tot), .ref aB, .int (bz_c rd), .int (nI rt), .int (nI pl), .ref aR, .ref aO, .int (nI Wd.length), .ref aW, .int (bz_c mp), .int (nI rn), .int (nI rs), .int (bz_c gd), .ref aD, .int (nI nh), .ref a1, .ref a2, .ref a3, .ref a4, .int (nI td), .ref aL, .int (nI J.length), .ref aY, .int (nI ms), .ref aM, .int (nI ip), .int (nI it), .int ir, .int (nI il), .ref bN, .ref bS, .ref bC, .ref bB, .ref bR, .ref bO, .ref aU])), (aR, .inl (cA 0, 66, .inl rw)), (aO, .inl (cA 0, 66, .inl of)), (aW, .inl (cA 0, 72, .inl wf))] → va_S A sG.heap H locs → lv_has ls 2 [(0, .ref mo), (1, .int (nI i))] → W pG l eG (rm_d 2) sG mG argsG belowG methG cG H locs 0 0 Q (F0 mG 7 ls []) := by
    intro nG
    induction nG using Nat.strongRecOn with
    | ind nG ih7 =>
      intro i H locs ls hn7 hi hs hP hD hS hl
      refine lv_iload_n hx hb d_Mo_first_7 rfl (lv_at hl 1 rfl) ?_
      refine lv_aload_n hx hb d_Mo_first_8 rfl (lv_at hl 0 rfl) ?_
      refine va_get (C := RX8) (T := TX8) (N := 43) hx hb hts inX8 hown hK hP 0 rfl rfl 11 (by decide) (hts _ m_856) (fun _ h9 => h9) rfl d_Mo_first_9 ?_
      refine wn_icmp_ge (by omega) (by omega) (tgt := 50) hx hb d_Mo_first_12 (by decide) ?_ ?_
      · intro h12
        refine lv_iconst (v := (-1)) hx hb d_Mo_first_50 (by decide) ?_
        exact hret (-1) () _ _ _ 51 d_Mo_first_51 (by first | exact Or.inl ⟨Or.inr (bz_0 h19), rfl⟩ | exact Or.inl ⟨Or.inl (List.eq_nil_of_length_eq_zero (by omega)), rfl⟩ | exact fi_e rd Wd (fun j hj => hs j (by omega))) hP hD hS
      · intro h12
        refine lv_aload_n hx hb d_Mo_first_15 rfl (lv_at hl 0 rfl) ?_
        refine va_get (C := RX8) (T := TX8) (N := 43) hx hb hts inX8 hown hK hP 0 rfl rfl 9 (by decide) (hts _ m_854) (fun _ h9 => h9) rfl d_Mo_first_16 ?_
        refine lv_if_eq (tgt := 50) hx hb d_Mo_first_19 (by decide) ?_ ?_
        · intro h19
          refine lv_iconst (v := (-1)) hx hb d_Mo_first_50 (by decide) ?_
          exact hret (-1) () _ _ _ 51 d_Mo_first_51 (by first | exact Or.inl ⟨Or.inr (bz_0 h19), rfl⟩ | exact Or.inl ⟨Or.inl (List.eq_nil_of_length_eq_zero (by omega)), rfl⟩ | exact fi_e rd Wd (fun j hj => hs j (by omega))) hP hD hS
        · intro h19
          refine lv_aload_n hx hb d_Mo_first_22 rfl (lv_at hl 0 rfl) ?_
          refine va_get (C := RX8) (T := TX8) (N := 43) hx hb hts inX8 hown hK hP 0 rfl rfl 14 (by decide) (hts _ m_859) (fun _ h9 => h9) rfl d_Mo_first_23 ?_
          refine wn_if_le (by omega) (tgt := 50) hx hb d_Mo_first_26 (by decide) ?_ ?_
          · intro h26
            refine lv_iconst (v := (-1)) hx hb d_Mo_first_50 (by decide) ?_
            exact hret (-1) () _ _ _ 51 d_Mo_first_51 (by first | exact Or.inl ⟨Or.inr (bz_0 h19), rfl⟩ | exact Or.inl ⟨Or.inl (List.eq_nil_of_length_eq_zero (by omega)), rfl⟩ | exact fi_e rd Wd (fun j hj => hs j (by omega))) hP hD hS
          · intro h26
            obtain ⟨hrw, hso⟩ := hrd (bz_1 h19)
            have hsi := hso i (by omega)
            refine lv_aload_n hx hb d_Mo_first_29 rfl (lv_at hl 0 rfl) ?_
            refine lv_aload_n hx hb d_Mo_first_30 rfl (lv_at hl 0 rfl) ?_
            refine va_get (C := RX8) (T := TX8) (N := 43) hx hb hts inX8 hown hK hP 0 rfl rfl 13 (by decide) (hts _ m_858) (fun _ h9 => h9) rfl d_Mo_first_31 ?_
            refine lv_iload_n hx hb d_Mo_first_34 rfl (lv_at hl 1 rfl) ?_
            refine wn_iald hx hb hK hP 2 0 rfl rfl (by omega) (by omega) d_Mo_first_35 ?_
            refine wn_eq (y := nI (so i)) hsi.1 ?_
            refine ck_cV (C := "ReadMapperModel") (ci := 8) (rest := []) (wr := [(aO, .inl (cA 0, 66, .inl of))]) (ws2 := fun u => [(mo, .inr (8, [.int (nI 0), .int (nI L.length), .ref ta, .int (nI np), .ref aN, .ref aS, .ref aC, .int (nI tot), .ref aB, .int (bz_c rd), .int (nI rt), .int (nI pl), .ref aR, .ref aO, .int (nI Wd.length), .ref aW, .int (bz_c mp), .int (nI rn), .int (nI rs), .int (bz_c gd), .ref aD, .int (nI nh), .ref a1, .ref a2, .ref a3, .ref a4, .int (nI td), .ref aL, .int (nI J.length), .ref aY, .int (nI ms), .ref aM, .int (nI ip), .int (nI it), .int ir, .int (nI il), .ref bN, .ref bS, .ref bC, .ref bB, .ref bR, .ref bO, .ref aU])), (aR, .inl (cA 0, 66, .inl rw)), (aO, .inl (cA 0, 66, .inl of)), (aW, .inl (cA 0, 72, .inl wf))]) (c_Mo_beginsWith l D cA K mo ta aN aS aC aB aR aO aW aD a1 a2 a3 a4 aL aY aM bN bS bC bB bR bO aU rd mp gd (nI 0) ir np tot rt pl rn rs nh td ms ip it il L J rw wf G Wd (so i) (by first | assumption | omega) hrw (by first | assumption | omega) hsi.2) hx hb hml hown hts hK hE hA hP hD hS k_Mo_beginsWith m_1055 (by decide) 0 rfl rfl rfl hl.1 rfl (Nat.le_of_ble_eq_true rfl) d_Mo_first_36  [0, 1, 3] [2] [1, 2, 0, 3] rfl rfl (by decide) (fun _ => rfl) (fun r36 u36 H locs hq36 hP hD hS => ?_)
            try dsimp only at hq36
            have hP : va_P D vwCl [(mo, .inr (8, [.int (nI 0), .int (nI L.length), .ref ta, .int (nI np), .ref aN, .ref aS, .ref aC, .int (nI tot), .ref aB, .int (bz_c rd), .int (nI rt), .int (nI pl), .ref aR, .ref aO, .int (nI Wd.length), .ref aW, .int (bz_c mp), .int (nI rn), .int (nI rs), .int (bz_c gd), .ref aD, .int (nI nh), .ref a1, .ref a2, .ref a3, .ref a4, .int (nI td), .ref aL, .int (nI J.length), .ref aY, .int (nI ms), .ref aM, .int (nI ip), .int (nI it), .int ir, .int (nI il), .ref bN, .ref bS, .ref bC, .ref bB, .ref bR, .ref bO, .ref aU])), (aR, .inl (cA 0, 66, .inl rw)), (aO, .inl (cA 0, 66, .inl of)), (aW, .inl (cA 0, 72, .inl wf))] H := hP
            have hD : va_D A [(mo, .inr (8, [.int (nI 0), .int (nI L.length), .ref ta, .int (nI np), .ref aN, .ref aS, .ref aC, .int (nI tot), .ref aB, .int (bz_c rd), .int (nI rt), .int (nI pl), .ref aR, .ref aO, .int (nI Wd.length), .ref aW, .int (bz_c mp), .int (nI rn), .int (nI rs), .int (bz_c gd), .ref aD, .int (nI nh), .ref a1, .ref a2, .ref a3, .ref a4, .int (nI td), .ref aL, .int (nI J.length), .ref aY, .int (nI ms), .ref aM, .int (nI ip), .int (nI it), .int ir, .int (nI il), .ref bN, .ref bS, .ref bC, .ref bB, .ref bR, .ref bO, .ref aU])), (aR, .inl (cA 0, 66, .inl rw)), (aO, .inl (cA 0, 66, .inl of)), (aW, .inl (cA 0, 72, .inl wf))] := hD
            rcases hq36 with ⟨rfl, hq36⟩ | ⟨rfl, hq36⟩
            ·
              refine lv_if_eq (tgt := 44) hx hb d_Mo_first_39 (by decide) (fun h9 => absurd h9 (by decide)) (fun _ => ?_)
              refine lv_iload_n hx hb d_Mo_first_42 rfl (lv_at hl 1 rfl) ?_
              exact hret (nI i) () _ _ _ 43 d_Mo_first_43 (Or.inr ⟨fun e => absurd h26 (by rw [e]; exact Nat.lt_irrefl 0), bz_1 h19, Or.inl ⟨i, rfl, by omega, hq36, hs⟩⟩) hP hD hS
            ·
              refine lv_if_eq (tgt := 44) hx hb d_Mo_first_39 (by decide) (fun _ => ?_) (fun h9 => absurd h9 (by decide))
              refine lv_iinc (k := 1) (v := nI (i + 1)) (lv' := [(1, .int (nI (i + 1))), (0, .ref mo)]) hx hb d_Mo_first_44 hl rfl (wi_inc1 _) (by decide) rfl (fun ls hl => ?_)
              refine lv_goto (tgt := 7) hx hb d_Mo_first_47 (by decide) ?_
              exact ih7 _ (by omega) (i + 1) _ _ _ rfl (by first | assumption | omega) (lt_s hs hq36) hP hD hS (lv_sub hl [1, 0] rfl)
  exact L7 _ 0 _ _ _ rfl (by first | assumption | omega) (fun j hj => absurd hj (Nat.not_lt_zero j)) hP hD hS (lv_sub hl [1, 0] rfl)
theorem k_Mo_first : cf_V y_Mo_first b_Mo_first 2 (some .int) "ReadMapperModel" 0 := ⟨⟨m_1060, m_1061, m_9, m_1062⟩, by decide +kernel⟩
