/-! the law's cases that may throw: class and reference answer alike -/
theorem lw_cmp {x y : Int64} (h : x = y) : lg_cmp x y = 0 := by subst h; simp [lg_cmp]
theorem xq_1 : ¬ some x_ia = some x_is := by decide
section
variable {np pl mpl rt mrt tot : Nat} {NM BS : Nat → List Int32} {st ln rw nf sz bc bf sf tr mrw of1 : Nat → Int32} {so : Nat → Nat} {rd : Bool}
theorem t_suffix {i r zt r' : Int32} {ou : Nat → Int64} (h5 : lw_5 np NM BS pl st ln rw nf sz bc bf tot) (h6 : lw_6 rd np rt mrt pl mpl rw sf tr mrw of1 so)
    (hA : ∃ (o9 : Option String) (r9 : Int32), ((o9 = some x_is ∧ rd = false) ∨ (o9 = some x_ix ∧ rd = true ∧ ¬ (¬ i < 0 ∧ ¬ nI pl ≤ i)) ∨ (o9 = none ∧ rd = true ∧ (¬ i < 0 ∧ ¬ nI pl ≤ i) ∧ r9 = px_c pl sf i)) ∧ (o9 = none → r = 0 ∧ ou 0 = r9.toInt64) ∧ (o9 = some x_is → r = 1) ∧ (o9 = some x_ix → r = 2))
    (hB : (zt = 1 ∧ rd = false) ∨ (zt = 2 ∧ rd = true ∧ ¬ (¬ i < 0 ∧ ¬ nI mpl ≤ i)) ∨ (zt = 0 ∧ rd = true ∧ (¬ i < 0 ∧ ¬ nI mpl ≤ i) ∧ r' = px_c mpl of1 i)) : r = zt ∧ (r = 0 → ou 0 = r'.toInt64) := by
  obtain ⟨o9, r9, hA, k0, k1, k2⟩ := hA
  have ne : ¬ (1 : Int32) = 0 := by decide
  have ne2 : ¬ (2 : Int32) = 0 := by decide
  by_cases z : rd = true
  · have zf : ¬ rd = false := by rw [z]; decide
    obtain ⟨a, b, c, d, e, f, g, h, k, t⟩ := h6.2 z
    rw [d] at hB
    rcases hA with ⟨_, a2⟩ | ⟨a1, _, a3⟩ | ⟨a1, _, a3, a4⟩
    · exact absurd a2 zf
    · rcases hB with ⟨_, b2⟩ | ⟨b1, _, b3⟩ | ⟨b1, _, b3, b4⟩
      · exact absurd b2 zf
      · exact ⟨by rw [k2 a1, b1], fun y => absurd ((k2 a1).symm.trans y) ne2⟩
      · exact absurd b3 a3
    · rcases hB with ⟨_, b2⟩ | ⟨b1, _, b3⟩ | ⟨b1, _, b3, b4⟩
      · exact absurd b2 zf
      · exact absurd a3 b3
      · refine ⟨by rw [(k0 a1).1, b1], fun _ => ?_⟩
        rw [(k0 a1).2, a4, b4, px_cg (lw_pl h5) (fun j hj => (g j hj).1.trans (h j hj).1.symm)]
  · have zf : rd = false := by cases rd <;> first | rfl | exact absurd rfl z
    rcases hA with ⟨a1, _⟩ | ⟨_, a2, _⟩ | ⟨_, a2, _⟩
    · rcases hB with ⟨b1, _⟩ | ⟨_, b2, _⟩ | ⟨_, b2, _⟩
      · exact ⟨by rw [k1 a1, b1], fun y => absurd ((k1 a1).symm.trans y) ne⟩
      · exact absurd b2 z
      · exact absurd b2 z
    · exact absurd a2 z
    · exact absurd a2 z
theorem lw_5g (h5 : lw_5 np NM BS pl st ln rw nf sz bc bf tot) : np ≤ 5 ∧ tot ≤ 60 ∧ tt_c (bl_c BS) np ≤ 60 ∧ (∀ p, p < np → bc p = nI (bl_c BS p)) ∧ ly_p np (bl_c BS) (fun p t => bf (tt_c (bl_c BS) p + t)) rw ∧ pl = tot + np := by
  obtain ⟨a, b, c, d, e, f, g⟩ := h5
  refine ⟨a.1, by rw [f]; exact a.2.1, a.2.1, fun p hp => (e.2 p hp).1, ly_cB d (fun p hp t ht => ((e.2 p hp).2 t ht).symm), by rw [b, f]; rfl⟩
theorem lw_5k (h5 : lw_5 np NM BS pl st ln rw nf sz bc bf tot) (hn : ¬ np = 0) : 0 < pl ∧ pl ≤ 65 ∧ rw_k (ky_c rw) pl := by
  have h := gr_k (by omega) h5.1 h5.2.2.2.1
  rw [← h5.2.1] at h
  exact ⟨h.1.1, lw_pl h5, h.1⟩
theorem lw_5b (h5 : lw_5 np NM BS pl st ln rw nf sz bc bf tot) (hn : ¬ np = 0) : (1 ≤ np ∧ np ≤ 5) ∧ (tot = tt_c (bl_c BS) np) ∧ (tot ≤ 60) ∧ (∀ p, p < np → bc p = nI (bl_c BS p)) ∧ (ly_p np (bl_c BS) (fun p t => bf (tt_c (bl_c BS) p + t)) rw) ∧ (rw_k (ky_c rw) (tot + np)) := by
  have g := lw_5g h5
  have k := lw_5k h5 hn
  exact ⟨⟨by omega, g.1⟩, h5.2.2.2.2.2.1, g.2.1, g.2.2.2.1, g.2.2.2.2.1, g.2.2.2.2.2 ▸ k.2.2⟩
/-- build -/
theorem t_build {x r zt r' rd2 fo fo2 mpc : Int32} {mp rdm mpm gd : Bool} {rt2 rtm pl2 sg2 nh2 : Nat} {sf2 tr2 rwm ofm wf h1f h2f h3f h4f g1 g2 g3 g4 df : Nat → Int32} {ou : Nat → Int64} {Wd RN RF RB RQ RL : List Int32} {XC XM : List (Nat × Nat × Nat × Nat)} {bst qn mrn mrs kk : Nat}
    (h5 : lw_5 np NM BS pl st ln rw nf sz bc bf tot) (h6 : lw_6 rd np rt mrt pl mpl rw sf tr mrw of1 so) (h7 : lw_7 wf Wd fo rd pl rw so) (h8 : lw_8 h1f h2f h3f h4f XC g1 g2 g3 g4 XM) (h9 : lw_9 mp rd XC XM rw BS np RN RF RB RQ bst qn df RL mrn mrs gd kk)
    (hA : ∃ (o9 : Option String) (r9 : Int32), ((o9 = some x_is ∧ (rd = true ∨ np = 0) ∧ rd2 = bz_c rd ∧ fo2 = fo ∧ mpc = bz_c mp ∧ rt2 = rt ∧ sf2 = sf ∧ tr2 = tr) ∨ (o9 = none ∧ rd = false ∧ ¬ np = 0 ∧ rd2 = bz_c true ∧ fo2 = -1 ∧ mpc = bz_c false ∧ rt2 = 1 + r7_c x ∧ ar_p rw sf2 tr2 pl ∧ r9 = nI pl)) ∧ (o9 = none → r = 0 ∧ ou 0 = r9.toInt64) ∧ (o9 = some x_is → r = 1))
    (hB : (zt = 1 ∧ (rd = true ∨ np = 0) ∧ rdm = rd ∧ rtm = mrt ∧ pl2 = mpl ∧ sg2 = Wd.length ∧ mpm = mp ∧ nh2 = XM.length ∧ rwm = mrw ∧ ofm = of1) ∨ (zt = 0 ∧ rd = false ∧ ¬ np = 0 ∧ rdm = true ∧ rtm = 1 + r7_c x ∧ pl2 = tot + np ∧ sg2 = 0 ∧ mpm = false ∧ nh2 = 0 ∧ ((∀ z, z < tot + np → rwm z = rw z) ∧ ∀ j, j < tot + np → ofm (rk_a (ky_c rw) (tot + np) j) = nI j) ∧ r' = nI (tot + np))) :
    (r = zt ∧ (r = 0 → ou 0 = r'.toInt64)) ∧ ∃ so2 Wd2 XM2, rd2 = bz_c rdm ∧ mpc = bz_c mpm ∧ sg2 = List.length (α := Int32) Wd2 ∧ nh2 = List.length (α := Nat × Nat × Nat × Nat) XM2 ∧ lw_6 rdm np rt2 rtm pl pl2 rw sf2 tr2 rwm ofm so2 ∧ lw_7 wf Wd2 fo2 rdm pl rw so2 ∧ lw_8 h1f h2f h3f h4f XC g1 g2 g3 g4 XM2 ∧ lw_9 mpm rdm XC XM2 rw BS np RN RF RB RQ bst qn df RL mrn mrs gd kk := by
  obtain ⟨o9, r9, hA, k0, k1⟩ := hA
  rcases hA with ⟨a1, a2, a3, a4, a5, a6, a7, a8⟩ | ⟨a1, a2, a3, a4, a5, a6, a7, a8, a9⟩
  · rcases hB with ⟨b1, b2, b3, b4, b5, b6, b7, b8, b9, b10⟩ | ⟨b1, b2, b3, _⟩
    · subst a4; subst a6; subst a7; subst a8; subst b3; subst b4; subst b5; subst b7; subst b9; subst b10
      exact ⟨⟨by rw [k1 a1, b1], fun y => absurd ((k1 a1).symm.trans y) (by decide)⟩, so, Wd, XM, a3, a5, b6, b8, h6, h7, h8, h9⟩
    · rcases a2 with a2 | a2
      · rw [b2] at a2; exact absurd a2 (by decide)
      · exact absurd a2 b3
  · rcases hB with ⟨b1, b2, _⟩ | ⟨b1, b2, b3, b4, b5, b6, b7, b8, b9, b10, b11⟩
    · rcases b2 with b2 | b2
      · rw [a2] at b2; exact absurd b2 (by decide)
      · exact absurd b2 a3
    · have g := lw_5g h5
      have k := lw_5k h5 a3
      rw [← g.2.2.2.2.2] at b6 b10 b11
      obtain ⟨so2, s1, s2, s3⟩ := ar_so k.2.2 a8
      have s4 : ∀ j, j < pl → ofm j = nI (so2 j) ∧ so2 j < pl := fun j hj => by
        obtain ⟨i, hi, e⟩ := ij_onto (rk_ij k.2.2) j hj
        have := b10.2 i hi
        rw [e] at this
        refine ⟨?_, (s1 j hj).2⟩
        rw [this, ← e, s2 i hi]
      subst a7; subst b5; subst b4; subst b6; subst b8; subst a5
      refine ⟨⟨by rw [(k0 a1).1, b1], fun _ => by rw [(k0 a1).2, a9, b11]⟩, so2, [], [], a4, a6, b7, b9, ⟨k.2.1, fun _ => ⟨by omega, ⟨by have := r7_lt x; omega, by have := r7_lt x; omega⟩, rfl, rfl, k.2.2, b10.1, s1, s4, s2, s3⟩⟩, ⟨cd_clear h7.1, Or.inl ⟨rfl, rfl⟩⟩, ⟨h8.1, cd_clear h8.2.1, cd_clear h8.2.2.1, cd_clear h8.2.2.2.1, cd_clear h8.2.2.2.2⟩, lw_9f⟩
/-- find -/
theorem t_find {r zt r' fo fo2 : Int32} {cf tf fb2 wf wf2 tnf wlf duf mnf tbf : Nat → Int32} {ou : Nat → Int64} {L TB TB2 Wd W2 TN WLl LD MN : List Int32} (h5 : lw_5 np NM BS pl st ln rw nf sz bc bf tot) (h6 : lw_6 rd np rt mrt pl mpl rw sf tr mrw of1 so) (h7 : lw_7 wf Wd fo rd pl rw so) (h2 : lw_2 tnf tbf wlf duf mnf TN TB WLl LD MN)
    (hA : ∃ (o9 : Option String) (r9 : Int32), (cd_r 72 cf [] ∧ cd_r 72 fb2 TB2 ∧ ((o9 = some x_ia ∧ ¬ fd_ok L ∧ fo2 = fo) ∨ (o9 = some x_is ∧ fd_ok L ∧ rd = false ∧ fo2 = fo) ∨ (o9 = none ∧ fd_ok L ∧ rd = true ∧ r9 = nI (cn_t (fun i => bw_p rw pl (fb_c L) (so i)) pl) ∧ ((∃ k, fo2 = nI k ∧ k < pl ∧ bw_p rw pl (fb_c L) (so k) ∧ ∀ j, j < k → ¬ bw_p rw pl (fb_c L) (so j)) ∨ (fo2 = -1 ∧ ∀ j, j < pl → ¬ bw_p rw pl (fb_c L) (so j)))))) ∧ (o9 = none → r = 0 ∧ ou 0 = r9.toInt64) ∧ (o9 = some x_ia → r = 1) ∧ (o9 = some x_is → r = 2))
    (hB : cd_r 72 tf [] ∧ cd_r 72 wf2 W2 ∧ ((zt = 1 ∧ ¬ fd_ok L ∧ W2 = Wd) ∨ (zt = 2 ∧ fd_ok L ∧ rd = false ∧ W2 = Wd) ∨ (zt = 0 ∧ fd_ok L ∧ rd = true ∧ W2 = fb_c L ∧ r' = nI (cn_t (fun p => bw_p rw mpl (fb_c L) p) mpl)))) :
    (r = zt ∧ (r = 0 → ou 0 = r'.toInt64)) ∧ lw_1 cf tf [] ∧ lw_2 tnf fb2 wlf duf mnf TN TB2 WLl LD MN ∧ lw_7 wf2 W2 fo2 rd pl rw so := by
  obtain ⟨o9, r9, ⟨c1, c2, hA⟩, k0, k1, k2⟩ := hA
  obtain ⟨d1, d2, hB⟩ := hB
  have n1 : lw_1 cf tf [] := ⟨c1, d1, tx_0⟩
  have n2 : lw_2 tnf fb2 wlf duf mnf TN TB2 WLl LD MN := ⟨h2.1, c2, h2.2.2⟩
  rcases hA with ⟨a1, a2, a3⟩ | ⟨a1, a2, a3, a4⟩ | ⟨a1, a2, a3, a4, a5⟩
  · rcases hB with ⟨b1, b2, b3⟩ | ⟨b1, b2, b3, b4⟩ | ⟨b1, b2, _⟩
    · subst a3; subst b3
      exact ⟨⟨by rw [k1 a1, b1], fun y => absurd ((k1 a1).symm.trans y) (by decide)⟩, n1, n2, d2, h7.2⟩
    · exact absurd b2 a2
    · exact absurd b2 a2
  · rcases hB with ⟨b1, b2, b3⟩ | ⟨b1, b2, b3, b4⟩ | ⟨b1, b2, b3, _⟩
    · exact absurd a2 b2
    · subst a4; subst b4
      exact ⟨⟨by rw [k2 a1, b1], fun y => absurd ((k2 a1).symm.trans y) (by decide)⟩, n1, n2, d2, h7.2⟩
    · rw [a3] at b3; exact absurd b3 (by decide)
  · rcases hB with ⟨b1, b2, b3⟩ | ⟨b1, b2, b3, b4⟩ | ⟨b1, b2, b3, b4, b5⟩
    · exact absurd a2 b2
    · rw [a3] at b3; exact absurd b3 (by decide)
    · obtain ⟨x1, x2, x3, x4, x5, x6, x7, x8, x9, x10⟩ := h6.2 a3
      rw [x4] at b5
      subst b4
      refine ⟨⟨by rw [(k0 a1).1, b1], fun _ => by rw [(k0 a1).2, a4, b5, fi_cn x5 x9]⟩, n1, n2, d2, Or.inr ⟨fun e => ?_, a3, a5⟩⟩
      have := congrArg List.length e
      rw [fb_len] at this
      have l0 := a2.1.1
      have e0 : ([] : List Int32).length = 0 := rfl
      omega
/-- store -/
theorem t_store {r zt r' : Int32} {imf yf f2 yf2 : Nat → Int32} {ou : Nat → Int64} {J L2 J2 : List Int32} (h5 : lw_5 np NM BS pl st ln rw nf sz bc bf tot) (h6 : lw_6 rd np rt mrt pl mpl rw sf tr mrw of1 so) (h10 : lw_10 imf yf J)
    (hA : ∃ (o9 : Option String) (r9 : Int32), ((o9 = some x_is ∧ rd = false ∧ cd_r 189 f2 L2 ∧ L2 = J) ∨ (o9 = none ∧ rd = true ∧ cd_r 189 f2 L2 ∧ L2 = ic_c np NM ln rt tr so pl ∧ r9 = nI L2.length)) ∧ (o9 = none → r = 0 ∧ ou 0 = r9.toInt64) ∧ (o9 = some x_is → r = 1))
    (hB : cd_r 200 yf2 J2 ∧ ((zt = 1 ∧ rd = false ∧ J2 = J) ∨ (zt = 0 ∧ rd = true ∧ J2 = ic_c np NM bc mrt (bf_c mrw so) so mpl ∧ r' = nI J2.length))) : (r = zt ∧ (r = 0 → ou 0 = r'.toInt64)) ∧ L2 = J2 ∧ lw_10 f2 yf2 L2 := by
  obtain ⟨o9, r9, hA, k0, k1⟩ := hA
  obtain ⟨d1, hB⟩ := hB
  rcases hA with ⟨a1, a2, a3, a4⟩ | ⟨a1, a2, a3, a4, a5⟩
  · rcases hB with ⟨b1, b2, b3⟩ | ⟨b1, b2, _⟩
    · refine ⟨⟨by rw [k1 a1, b1], fun y => absurd ((k1 a1).symm.trans y) (by decide)⟩, by rw [a4, b3], a3, by rw [a4, ← b3]; exact d1, by rw [a4]; exact h10.2.2⟩
    · rw [a2] at b2; exact absurd b2 (by decide)
  · rcases hB with ⟨b1, b2, b3⟩ | ⟨b1, b2, b3, b4⟩
    · rw [a2] at b2; exact absurd b2 (by decide)
    · obtain ⟨x1, x2, x3, x4, x5, x6, x7, x8, x9, x10⟩ := h6.2 a2
      rw [x3, x4] at b3
      have e : L2 = J2 := by
        rw [a4, b3]
        refine ic_cg (fun _ _ => rfl) (fun p hp => ?_) (fun i hi => ?_) (fun _ _ => rfl)
        · rw [(h5.2.2.1 p hp).2, (h5.2.2.2.2.1.2 p hp).1]
        · exact lw_tr h5 h6 a2 i hi
      refine ⟨⟨by rw [(k0 a1).1, b1], fun _ => by rw [(k0 a1).2, a5, b4, e]⟩, e, a3, by rw [e]; exact d1, ?_⟩
      have e2 : L2 = ic_c np NM (ln_c BS) rt (bf_c rw so) so pl := a4.trans (ic_cg (fun _ _ => rfl) (fun p hp => (h5.2.2.1 p hp).2) x10 (fun _ _ => rfl))
      rw [e2]
      exact ic_by h5.1 x2.2 (fun j hj => by rw [h5.2.1] at hj x9; exact bf_by x1 h5.1 h5.2.2.2.1 x9 hj) (fun j hj => by have := (x7 j hj).2; have := lw_pl h5; omega)
end
