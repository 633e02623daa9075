/-! the law's cases piece, map, load, record, letter -/
theorem rq_pr {np : Nat} {NM BS : Nat → List Int32} {nf sz bc bf nf2 sz2 bc2 bf2 : Nat → Int32} (h : rq_p np NM BS nf sz bc bf) (hn : np ≤ 5) (ht : tt_c (bl_c BS) np ≤ 60) (h1 : ∀ j, j < 64 → bf2 j = bf j) (h2 : ∀ j, j < 40 → nf2 j = nf j) (h3 : ∀ j, j < 5 → sz2 j = sz j) (h4 : ∀ j, j < 5 → bc2 j = bc j) : rq_p np NM BS nf2 sz2 bc2 bf2 := by
  refine ⟨fun p hp => ?_, fun p hp => ?_⟩
  · obtain ⟨a, b, c⟩ := h.1 p hp
    exact ⟨a, by rw [h3 p (by omega)]; exact b, fun j hj => by rw [h2 _ (by omega)]; exact c j hj⟩
  · obtain ⟨a, b⟩ := h.2 p hp
    refine ⟨by rw [h4 p (by omega)]; exact a, fun t ht2 => ?_⟩
    have m : tt_c (bl_c BS) (p + 1) ≤ tt_c (bl_c BS) np := tt_mono _ hp
    have e : tt_c (bl_c BS) (p + 1) = tt_c (bl_c BS) p + (BS p).length := rfl
    rw [h1 _ (by omega)]
    exact b t ht2
theorem cp_s5 {x : Int32} (h : s5_p x) : s5_p (cp_c x) := by
  rcases h with h | h | h | h | h
  · subst h; exact Or.inr (Or.inr (Or.inr (Or.inr rfl)))
  · subst h; exact Or.inr (Or.inr (Or.inl rfl))
  · subst h; exact Or.inr (Or.inl rfl)
  · subst h; exact Or.inr (Or.inr (Or.inr (Or.inl rfl)))
  · subst h; exact Or.inl rfl
theorem t_piece {np pl mpl rt mrt tot : Nat} {NM BS : Nat → List Int32} {st ln rw nf sz bc bf sf tr mrw of1 : Nat → Int32} {so : Nat → Nat} {rd mp gd : Bool} {r zt r' fo : Int32} {cf tf fn2 fb2 st2 ln2 rw2 nf2 sz2 bc2 bf2 tnf tbf wlf duf mnf wf df : Nat → Int32} {cnf2 : Nat → Nat → Int32} {NM2 NM2m BS2 : Nat → List Int32} {num2 pl2 np2 tot2 bst qn mrn mrs kk : Nat} {g : Nat → Option Nat} {na : Nat → Nat} {cnf : Nat → Nat → Int32} {ou : Nat → Int64} {L TN TB TN2 TB2 WLl LD MN Wd RN RF RB RQ RL : List Int32} {XC XM : List (Nat × Nat × Nat × Nat)}
    (h2 : lw_2 tnf tbf wlf duf mnf TN TB WLl LD MN) (h3 : lw_3 g na cnf NM) (h5 : lw_5 np NM BS pl st ln rw nf sz bc bf tot) (h6 : lw_6 rd np rt mrt pl mpl rw sf tr mrw of1 so) (h7 : lw_7 wf Wd fo rd pl rw so) (h9 : lw_9 mp rd XC XM rw BS np RN RF RB RQ bst qn df RL mrn mrs gd kk)
    (hA : ∃ (o9 : Option String) (r9 : Int32), ((cd_r 72 cf [] ∧ cd_r 8 fn2 TN2 ∧ cd_r 72 fb2 TB2 ∧ (∀ i, i < 5 → cd_r 8 (cnf2 i) (NM2 i))) ∧ ((o9 = some x_ia ∧ (∀ k, nx_p L 58 0 k → ¬ pc_ok L k ∨ ∃ j, j < np ∧ NM j = sl_p L 0 k) ∧ num2 = np ∧ pl2 = pl ∧ st2 = st ∧ ln2 = ln ∧ rw2 = rw ∧ NM2 = NM) ∨ (∃ k, nx_p L 58 0 k ∧ pc_ok L k ∧ (∀ j, j < np → ¬ NM j = sl_p L 0 k) ∧ ((o9 = some x_is ∧ (rd = true ∨ ¬ (np < 5 ∧ (pb_c L k).length ≤ 60 - (pl - np))) ∧ num2 = np ∧ pl2 = pl ∧ st2 = st ∧ ln2 = ln ∧ rw2 = rw ∧ NM2 = NM) ∨ (o9 = none ∧ rd = false ∧ (np < 5 ∧ (pb_c L k).length ≤ 60 - (pl - np)) ∧ r9 = nI np ∧ num2 = np + 1 ∧ pl2 = pl + ((pb_c L k).length + 1) ∧ st2 = upd st np (nI pl) ∧ ln2 = upd ln np (nI (pb_c L k).length) ∧ NM2 = va_up NM np (sl_p L 0 k) ∧ ad_p rw rw2 pl (pb_c L k)))))) ∧ (o9 = none → r = 0 ∧ ou 0 = r9.toInt64) ∧ (o9 = some x_ia → r = 1) ∧ (o9 = some x_is → r = 2))
    (hB : cd_r 72 tf [] ∧ (∀ z, z < 40 → ch_p (nf2 z)) ∧ rq_p np2 NM2m BS2 nf2 sz2 bc2 bf2 ∧ tot2 = tt_c (bl_c BS2) np2 ∧ tot2 ≤ 60 ∧ ((zt = 1 ∧ (∀ k, nx_p L 58 0 k → ¬ pc_ok L k ∨ ∃ j, j < np ∧ NM j = sl_p L 0 k) ∧ np2 = np ∧ NM2m = NM ∧ BS2 = BS) ∨ (∃ k, nx_p L 58 0 k ∧ pc_ok L k ∧ (∀ j, j < np → ¬ NM j = sl_p L 0 k) ∧ ((zt = 2 ∧ (rd = true ∨ ¬ (np < 5 ∧ (pb_c L k).length ≤ 60 - tot)) ∧ np2 = np ∧ NM2m = NM ∧ BS2 = BS) ∨ (zt = 0 ∧ rd = false ∧ (np < 5 ∧ (pb_c L k).length ≤ 60 - tot) ∧ r' = nI np ∧ np2 = np + 1 ∧ NM2m = va_up NM np (sl_p L 0 k) ∧ BS2 = va_up BS np (pb_c L k)))))) :
    (r = zt ∧ (r = 0 → ou 0 = r'.toInt64)) ∧ np2 = num2 ∧ lw_1 cf tf [] ∧ lw_2 fn2 fb2 wlf duf mnf TN2 TB2 WLl LD MN ∧ lw_3 g na cnf2 NM2 ∧ lw_5 num2 NM2 BS2 pl2 st2 ln2 rw2 nf2 sz2 bc2 bf2 tot2 ∧ lw_6 rd num2 rt mrt pl2 mpl rw2 sf tr mrw of1 so ∧ lw_7 wf Wd fo rd pl2 rw2 so ∧ lw_9 mp rd XC XM rw2 BS2 num2 RN RF RB RQ bst qn df RL mrn mrs gd kk := by
  obtain ⟨o9, r9, ⟨⟨c1, c2, c3, c4⟩, hA⟩, k0, k1, k2⟩ := hA
  obtain ⟨d1, d2, d3, d4, d5, hB⟩ := hB
  have n1 : lw_1 cf tf [] := ⟨c1, d1, tx_0⟩
  have n2 : lw_2 fn2 fb2 wlf duf mnf TN2 TB2 WLl LD MN := ⟨c2, c3, h2.2.2⟩
  have n3 : lw_3 g na cnf2 NM2 := ⟨h3.1, c4⟩
  have g5 := lw_5g h5
  have eT : pl - np = tot := by omega
  rw [eT] at hA
  have keep : num2 = np → pl2 = pl → st2 = st → ln2 = ln → rw2 = rw → NM2 = NM → np2 = np → NM2m = NM → BS2 = BS → (np2 = num2 ∧ lw_1 cf tf [] ∧ lw_2 fn2 fb2 wlf duf mnf TN2 TB2 WLl LD MN ∧ lw_3 g na cnf2 NM2 ∧ lw_5 num2 NM2 BS2 pl2 st2 ln2 rw2 nf2 sz2 bc2 bf2 tot2 ∧ lw_6 rd num2 rt mrt pl2 mpl rw2 sf tr mrw of1 so ∧ lw_7 wf Wd fo rd pl2 rw2 so ∧ lw_9 mp rd XC XM rw2 BS2 num2 RN RF RB RQ bst qn df RL mrn mrs gd kk) := by
    intro q1 q2 q3 q4 q5 q6 q7 q8 q9
    subst q1; subst q2; subst q3; subst q4; subst q5; subst q6; subst q7; subst q8; subst q9
    exact ⟨rfl, n1, n2, n3, ⟨h5.1, h5.2.1, h5.2.2.1, h5.2.2.2.1, d3, d4, d2⟩, h6, h7, h9⟩
  rcases hA with ⟨a1, a2, a3, a4, a5, a6, a7, a8⟩ | ⟨k, a1, a2, a3, hA⟩
  · rcases hB with ⟨b1, b2, b3, b4, b5⟩ | ⟨k', b1, b2, b3, _⟩
    · exact ⟨⟨by rw [k1 a1, b1], fun y => absurd ((k1 a1).symm.trans y) (by decide)⟩, keep a3 a4 a5 a6 a7 a8 b3 b4 b5⟩
    · rcases a2 k' b1 with z | ⟨j, j1, j2⟩
      · exact absurd b2 z
      · exact absurd j2 (b3 j j1)
  · rcases hB with ⟨b1, b2, b3, b4, b5⟩ | ⟨k', b1, b2, b3, hB⟩
    · rcases b2 k a1 with z | ⟨j, j1, j2⟩
      · exact absurd a2 z
      · exact absurd j2 (a3 j j1)
    · have ek : k = k' := nx_un a1 b1
      subst ek
      rcases hA with ⟨x1, x2, x3, x4, x5, x6, x7, x8⟩ | ⟨x1, x2, x3, x4, x5, x6, x7, x8, x9, x10⟩
      · rcases hB with ⟨y1, y2, y3, y4, y5⟩ | ⟨y1, y2, y3, _⟩
        · exact ⟨⟨by rw [k2 x1, y1], fun y => absurd ((k2 x1).symm.trans y) (by decide)⟩, keep x3 x4 x5 x6 x7 x8 y3 y4 y5⟩
        · rcases x2 with x2 | x2
          · rw [y2] at x2; exact absurd x2 (by decide)
          · exact absurd y3 x2
      · rcases hB with ⟨y1, y2, _⟩ | ⟨y1, y2, y3, y4, y5, y6, y7⟩
        · rcases y2 with y2 | y2
          · rw [x2] at y2; exact absurd y2 (by decide)
          · exact absurd x3 y2
        · subst x5; subst x6; subst x7; subst x8; subst x9; subst y5; subst y6; subst y7; subst x2
          have ew : Wd = [] ∧ fo = -1 := by
            rcases h7.2 with z | z
            · exact z
            · exact absurd z.2.1 (by decide)
          have em : mp = false := by
            cases mp with
            | false => rfl
            | true => exact absurd (h9.2 rfl).1 (by decide)
          refine ⟨⟨by rw [(k0 x1).1, y1], fun _ => by rw [(k0 x1).2, x4, y4]⟩, rfl, n1, n2, n3, ⟨vq_add h5.1 a2 a3 x3.1 (by rw [← h5.2.2.2.2.2.1]; exact x3.2), ?_, ?_, ?_, d3, d4, d2⟩, ⟨h6.1, fun z => absurd z (by decide)⟩, ⟨h7.1, Or.inl ew⟩, ⟨h9.1, fun z => absurd (z.symm.trans em) (by decide)⟩⟩
          · rw [pl_add, h5.2.1]
          · rw [h5.2.1]; exact sl_add h5.2.2.1
          · exact gq_add h5.2.2.2.1 (h5.2.1 ▸ x10)
/-- the record's text: what the class needs of the hits -/
theorem lw_rr {mp rd : Bool} {XC XM : List (Nat × Nat × Nat × Nat)} {rw st ln nf sz bc bf h1f h2f h3f h4f g1 g2 g3 g4 : Nat → Int32} {BS NM : Nat → List Int32} {np pl tot : Nat} {RN RF RB RQ : List Int32} {bst qn : Nat} {df : Nat → Int32} {RL : List Int32} {mrn mrs : Nat} {gd : Bool} {kk : Nat} (h5 : lw_5 np NM BS pl st ln rw nf sz bc bf tot) (h8 : lw_8 h1f h2f h3f h4f XC g1 g2 g3 g4 XM) (h9 : lw_9 mp rd XC XM rw BS np RN RF RB RQ bst qn df RL mrn mrs gd kk) (z : mp = true) : rr_p st rw (fun p => tt_c (bl_c BS) p + p) RF RB XC bst qn := by
  obtain ⟨z1, z2, z3, z4, z5, ⟨f1, f2, f3, f4, f5⟩, z7, ⟨r1, r2, r3⟩, z9, z10, z11⟩ := h9.2 z
  have hl : RF.length = mrs := os_len f1 f2
  have lb : RB.length = RF.length := by rw [r2, tb_len]; omega
  have s5b : ∀ i, i < RB.length → s5_p (RB.getD i 0) := fun i hi => by
    rw [r2, tb_g (by omega)]
    exact cp_s5 (z7 _ (by omega))
  have hx := h8.1.2.2.2.1
  rw [hx_len4] at hx
  refine ⟨lb, z7, s5b, ?_, z10, fun k hk => ?_⟩
  · rw [z9]
    have := be_le (fun j => (hm_c XM).getD j 0) XM.length
    rw [z2] at hx
    rcases this with y | y
    · omega
    · rw [y]; exact Nat.zero_le _
  · have y := mem_gd (P := hz_p rw (bl_c BS) RF RB kk np) (X := XC) (by rw [z2, z3]; exact hn_ok (Nat.le_refl _)) hk
    obtain ⟨y1, y2, y3, y4, y5⟩ := y
    have g := h5.1
    have mt : tt_c (bl_c BS) ((XC.getD k (0, 0, 0, 0)).1 + 1) ≤ tt_c (bl_c BS) np := tt_mono _ y1
    have et : tt_c (bl_c BS) ((XC.getD k (0, 0, 0, 0)).1 + 1) = tt_c (bl_c BS) (XC.getD k (0, 0, 0, 0)).1 + bl_c BS (XC.getD k (0, 0, 0, 0)).1 := rfl
    have g1 := g.1
    have g2 := g.2.1
    refine ⟨by omega, (h5.2.2.1 _ y1).1, y2.1, by omega, y3, by omega, by show tt_c (bl_c BS) (XC.getD k (0, 0, 0, 0)).1 + (XC.getD k (0, 0, 0, 0)).1 + ((XC.getD k (0, 0, 0, 0)).2.1 - 1) + RF.length ≤ 65; omega, fun i hi => ?_, fun e => ?_, fun e => ?_⟩
    · have a := (h5.2.2.2.1 _ y1).1 (((XC.getD k (0, 0, 0, 0)).2.1 - 1) + i) (by omega)
      show s5_p (rw (tt_c (bl_c BS) (XC.getD k (0, 0, 0, 0)).1 + (XC.getD k (0, 0, 0, 0)).1 + ((XC.getD k (0, 0, 0, 0)).2.1 - 1) + i))
      rw [Nat.add_assoc _ ((XC.getD k (0, 0, 0, 0)).2.1 - 1) i, a]
      exact (g.2.2.1 _ y1).2.2 _ (by show _ < bl_c BS _; omega)
    · rw [if_pos e] at y5
      exact Nat.le_trans y5 z4
    · rw [if_neg (by omega)] at y5
      exact Nat.le_trans y5 z4
theorem lw_mr {mp rd : Bool} {XC XM : List (Nat × Nat × Nat × Nat)} {rw st ln nf sz bc bf : Nat → Int32} {BS NM : Nat → List Int32} {np pl tot : Nat} {RN RF RB RQ : List Int32} {bst qn : Nat} {df : Nat → Int32} {RL : List Int32} {mrn mrs : Nat} {gd : Bool} {kk : Nat} (h5 : lw_5 np NM BS pl st ln rw nf sz bc bf tot) (h9 : lw_9 mp rd XC XM rw BS np RN RF RB RQ bst qn df RL mrn mrs gd kk) (z : mp = true) :
    (cd_r 72 df RL) ∧ (RF = (sl_p RL (mrn + 1) (mrn + 1 + mrs)).map sy_c) ∧ (mrn + 1 + mrs ≤ RL.length) ∧ (1 ≤ mrs ∧ mrs ≤ 20) ∧ (gd = true → RL.length = mrn + mrs + 2 + mrs) ∧ (∀ j, j < RL.length → ch_p (RL.getD j 0)) ∧ (np ≤ 5) ∧ (tt_c (bl_c BS) np ≤ 60) ∧ (∀ p, p < np → bc p = nI (bl_c BS p)) ∧ (ly_p np (bl_c BS) (fun p t => bf (tt_c (bl_c BS) p + t)) rw) ∧ (nm_p np NM nf sz) ∧ (∀ p, p < np → ∀ i, i < (NM p).length → ch_p ((NM p).getD i 0)) ∧ (nI qn = qy_c (at_c (hm_c XM) (nI (be_c (fun j => (hm_c XM).getD j 0) XM.length))) XM) ∧ (qn < 100) ∧ (mrn ≤ 8) ∧ (∀ k, k < XM.length → rx_p np (bl_c BS) mrs (XM.getD k (0, 0, 0, 0))) := by
  obtain ⟨z1, z2, z3, z4, z5, ⟨f1, f2, f3, f4, f5⟩, z7, ⟨r1, r2, r3⟩, z9, z10, z11⟩ := h9.2 z
  have g := lw_5g h5
  have hl : RF.length = mrs := os_len f1 f2
  refine ⟨z5.1, f1, f2, f3, f5, tx_g z5.2, g.1, g.2.2.1, g.2.2.2.1, g.2.2.2.2.1, h5.2.2.2.2.1.1, fun p hp i hi => nm_ch ((h5.1.2.2.1 p hp).1.2.2 i hi), z11, z10, f4, fun k hk => ?_⟩
  have y := mem_gd (P := hz_p rw (bl_c BS) RF RB kk np) (X := XM) (by rw [z3]; exact hn_ok (Nat.le_refl _)) hk
  obtain ⟨y1, y2, y3, y4, y5⟩ := y
  exact ⟨y1, by rw [hl] at y2; exact y2, y3, Nat.le_trans y4 z4⟩
theorem lw_rl {mp rd : Bool} {XC XM : List (Nat × Nat × Nat × Nat)} {rw : Nat → Int32} {BS NM : Nat → List Int32} {np : Nat} {RN RF RB RQ : List Int32} {bst qn : Nat} {df : Nat → Int32} {RL : List Int32} {mrn mrs : Nat} {gd : Bool} {kk : Nat} {sp : Nat → Nat} {j : Int32} (h9 : lw_9 mp rd XC XM rw BS np RN RF RB RQ bst qn df RL mrn mrs gd kk) (z : mp = true) : rl_c RN RF RB RQ XC bst qn NM rw sp j = rl_c (sl_p RL 0 mrn) RF (tb_c RF 0) (rq_c RL gd mrn mrs) XM (be_c (fun j => (hm_c XM).getD j 0) XM.length) qn NM rw sp j := by
  obtain ⟨z1, z2, z3, z4, z5, z6, z7, ⟨r1, r2, r3⟩, z9, z10, z11⟩ := h9.2 z
  rw [r1, r2, r3, z2, z9]
theorem t_record {mp rd : Bool} {XC XM : List (Nat × Nat × Nat × Nat)} {rw : Nat → Int32} {BS NM : Nat → List Int32} {np : Nat} {RN RF RB RQ : List Int32} {bst qn : Nat} {df f9 lf2 : Nat → Int32} {RL L9 T2 : List Int32} {mrn mrs : Nat} {gd : Bool} {kk : Nat} {sp : Nat → Nat} {j r r' : Int32} (h9 : lw_9 mp rd XC XM rw BS np RN RF RB RQ bst qn df RL mrn mrs gd kk)
    (hA : cd_r 128 f9 L9 ∧ ((wr_p mp XC j ∧ r = nI (rl_c RN RF RB RQ XC bst qn NM rw sp j).length) ∨ (¬ wr_p mp XC j ∧ r = -1))) (hB : cd_r 240 lf2 T2 ∧ ((wr_p mp XM j ∧ r' = nI (rl_c (sl_p RL 0 mrn) RF (tb_c RF 0) (rq_c RL gd mrn mrs) XM (be_c (fun j => (hm_c XM).getD j 0) XM.length) qn NM rw sp j).length) ∨ (¬ wr_p mp XM j ∧ r' = -1))) : r = r' := by
  have e : mp = true → XC = XM := fun z => (h9.2 z).2.1
  rcases hA.2 with ⟨a1, a2⟩ | ⟨a1, a2⟩
  · rcases hB.2 with ⟨b1, b2⟩ | ⟨b1, b2⟩
    · rw [a2, b2, lw_rl h9 a1.1]
    · rw [e a1.1] at a1; exact absurd a1 b1
  · rcases hB.2 with ⟨b1, b2⟩ | ⟨b1, b2⟩
    · rw [← e b1.1] at b1; exact absurd b1 a1
    · rw [a2, b2]
theorem t_letter {mp rd : Bool} {XC XM : List (Nat × Nat × Nat × Nat)} {rw : Nat → Int32} {BS NM : Nat → List Int32} {np : Nat} {RN RF RB RQ : List Int32} {bst qn : Nat} {df f9 lf2 : Nat → Int32} {RL L9 T2 : List Int32} {mrn mrs : Nat} {gd : Bool} {kk : Nat} {sp : Nat → Nat} {j c r r' : Int32} (h9 : lw_9 mp rd XC XM rw BS np RN RF RB RQ bst qn df RL mrn mrs gd kk)
    (hA : cd_r 128 f9 L9 ∧ ((wr_p mp XC j ∧ r = at_c (rl_c RN RF RB RQ XC bst qn NM rw sp j) c) ∨ (¬ wr_p mp XC j ∧ r = -1))) (hB : cd_r 240 lf2 T2 ∧ ((wr_p mp XM j ∧ r' = at_c (rl_c (sl_p RL 0 mrn) RF (tb_c RF 0) (rq_c RL gd mrn mrs) XM (be_c (fun j => (hm_c XM).getD j 0) XM.length) qn NM rw sp j) c) ∨ (¬ wr_p mp XM j ∧ r' = -1))) : r = r' := by
  have e : mp = true → XC = XM := fun z => (h9.2 z).2.1
  rcases hA.2 with ⟨a1, a2⟩ | ⟨a1, a2⟩
  · rcases hB.2 with ⟨b1, b2⟩ | ⟨b1, b2⟩
    · rw [a2, b2, lw_rl h9 a1.1]
    · rw [e a1.1] at a1; exact absurd a1 b1
  · rcases hB.2 with ⟨b1, b2⟩ | ⟨b1, b2⟩
    · rw [← e b1.1] at b1; exact absurd b1 a1
    · rw [a2, b2]
theorem pr_un {L : List Int32} {k e k' e' : Nat} (h : pr_ok L k e) (h' : pr_ok L k' e') : k = k' ∧ e = e' := by
  have a := nl_un (Or.inl (pr_nl h)) (pr_nl h')
  subst a
  exact ⟨rfl, nb_un (pr_nb h) (pr_nb h')⟩
/-- map -/
theorem t_map {np pl tot ra ra9 y1 y2 b2 bst qn mrn mrs kk rnm rsm : Nat} {NM BS : Nat → List Int32} {st ln rw nf sz bc bf cf tf fn2 ff2 fb2 fq2 c1f c2f c3f c4f m1f m2f m3f m4f df dfm : Nat → Int32} {rd mp gd mpm gdm : Bool} {r zt r' kx mpc q2 : Int32} {ou : Nat → Int64} {L RN RF RB RQ RN2 RF2 RB2 RQ2 RL : List Int32} {XC XM X2 X2m : List (Nat × Nat × Nat × Nat)}
    (h1 : lw_1 cf tf L) (h5 : lw_5 np NM BS pl st ln rw nf sz bc bf tot) (h9 : lw_9 mp rd XC XM rw BS np RN RF RB RQ bst qn df RL mrn mrs gd kk)
    (hA : ∃ (o9 : Option String) (r9 : Int32), ((cd_r 72 cf [] ∧ cd_r 8 fn2 RN2 ∧ cd_r 20 ff2 RF2 ∧ cd_r 20 fb2 RB2 ∧ cd_r 20 fq2 RQ2 ∧ cd_r 120 c1f (hp_c X2) ∧ cd_r 120 c2f (hl_c X2) ∧ cd_r 120 c3f (hs_c X2) ∧ cd_r 120 c4f (hm_c X2)) ∧ ((o9 = some x_ia ∧ ¬ ((∃ k e, pr_ok L k e) ∧ ¬ kx < 0 ∧ kx ≤ nI 3) ∧ y1 = ra ∧ y2 = ra9 ∧ mpc = bz_c mp ∧ X2 = XC ∧ b2 = bst ∧ q2 = nI qn) ∨ (o9 = some x_is ∧ ((∃ k e, pr_ok L k e) ∧ ¬ kx < 0 ∧ kx ≤ nI 3) ∧ rd = false ∧ y1 = ra ∧ y2 = ra9 ∧ mpc = bz_c mp ∧ X2 = XC ∧ b2 = bst ∧ q2 = nI qn) ∨ (o9 = none ∧ ((∃ k e, pr_ok L k e) ∧ ¬ kx < 0 ∧ kx ≤ nI 3) ∧ rd = true ∧ y1 = ra9 ∧ y2 = ra ∧ mpc = bz_c true ∧ ∃ k e kk, pr_ok L k e ∧ kk ≤ 3 ∧ kx = nI kk ∧ RN2 = sl_p L 0 k ∧ RF2 = (sl_p L (k + 1) e).map sy_c ∧ RB2 = tb_c RF2 0 ∧ ((e = L.length ∧ RQ2 = []) ∨ (e < L.length ∧ RQ2 = sl_p L (e + 1) L.length)) ∧ X2 = hn_c rw (bl_c BS) RF2 RB2 kk np ∧ b2 = be_c (fun j => (hm_c X2).getD j 0) X2.length ∧ q2 = qy_c (at_c (hm_c X2) (nI b2)) X2 ∧ r9 = nI X2.length))) ∧ (o9 = none → r = 0 ∧ ou 0 = r9.toInt64) ∧ (o9 = some x_ia → r = 1) ∧ (o9 = some x_is → r = 2))
    (hB : cd_r 72 tf [] ∧ (cd_r 128 m1f (hp_c X2m) ∧ cd_r 128 m2f (hl_c X2m) ∧ cd_r 128 m3f (hs_c X2m) ∧ cd_r 128 m4f (hm_c X2m)) ∧ ((zt = 1 ∧ ¬ ((∃ k e, pr_ok L k e) ∧ ¬ kx < 0 ∧ kx ≤ nI 3) ∧ rnm = mrn ∧ rsm = mrs ∧ gdm = gd ∧ mpm = mp ∧ dfm = df ∧ X2m = XM) ∨ (zt = 2 ∧ ((∃ k e, pr_ok L k e) ∧ ¬ kx < 0 ∧ kx ≤ nI 3) ∧ rd = false ∧ rnm = mrn ∧ rsm = mrs ∧ gdm = gd ∧ mpm = mp ∧ dfm = df ∧ X2m = XM) ∨ (zt = 0 ∧ ((∃ k e, pr_ok L k e) ∧ ¬ kx < 0 ∧ kx ≤ nI 3) ∧ rd = true ∧ mpm = true ∧ ∃ k e kk, pr_ok L k e ∧ kk ≤ 3 ∧ kx = nI kk ∧ rnm = k ∧ k + 1 + rsm = e ∧ ((gdm = true ∧ e < L.length) ∨ (gdm = false ∧ e = L.length)) ∧ cd_r 72 dfm L ∧ X2m = hn_c rw (bl_c BS) ((sl_p L (k + 1) e).map sy_c) (tb_c ((sl_p L (k + 1) e).map sy_c) 0) kk np ∧ r' = nI X2m.length))) :
    (r = zt ∧ (r = 0 → ou 0 = r'.toInt64)) ∧ lw_1 cf tf [] ∧ lw_4 fn2 ff2 fb2 fq2 RN2 RF2 RB2 RQ2 ∧ lw_8 c1f c2f c3f c4f X2 m1f m2f m3f m4f X2m ∧ ((y1 = ra ∧ y2 = ra9 ∧ mpc = bz_c mpm ∧ q2 = nI qn ∧ lw_9 mpm rd X2 X2m rw BS np RN RF RB RQ b2 qn dfm RL rnm rsm gdm kk) ∨ (y1 = ra9 ∧ y2 = ra ∧ mpc = bz_c mpm ∧ ∃ qn2 kk2, q2 = nI qn2 ∧ lw_9 mpm rd X2 X2m rw BS np RN2 RF2 RB2 RQ2 b2 qn2 dfm L rnm rsm gdm kk2)) := by
  obtain ⟨o9, r9, ⟨⟨c1, c2, c3, c4, c5, c6, c7, c8, c9⟩, hA⟩, k0, k1, k2⟩ := hA
  obtain ⟨d1, d2, hB⟩ := hB
  have n1 : lw_1 cf tf [] := ⟨c1, d1, tx_0⟩
  have n4 : lw_4 fn2 ff2 fb2 fq2 RN2 RF2 RB2 RQ2 := ⟨c2, c3, c4, c5⟩
  have n8 : lw_8 c1f c2f c3f c4f X2 m1f m2f m3f m4f X2m := ⟨⟨c6, c7, c8, c9⟩, d2⟩
  have keep : X2 = XC → b2 = bst → rnm = mrn → rsm = mrs → gdm = gd → mpm = mp → dfm = df → X2m = XM → lw_9 mpm rd X2 X2m rw BS np RN RF RB RQ b2 qn dfm RL rnm rsm gdm kk := by
    intro q1 q2 q3 q4 q5 q6 q7 q8
    subst q1; subst q2; subst q3; subst q4; subst q5; subst q6; subst q7; subst q8
    exact h9
  rcases hA with ⟨a1, a2, a3, a4, a5, a6, a7, a8⟩ | ⟨a1, a2, a2', a3, a4, a5, a6, a7, a8⟩ | ⟨a1, a2, a3, a4, a5, a6, k, e, kk2, p1, p2, p3, p4, p5, p6, p7, p8, p9, p10, p11⟩
  · rcases hB with ⟨b1, b2, b3, b4, b5, b6, b7, b8⟩ | ⟨b1, b2, _⟩ | ⟨b1, b2, _⟩
    · exact ⟨⟨by rw [k1 a1, b1], fun y => absurd ((k1 a1).symm.trans y) (by decide)⟩, n1, n4, n8, Or.inl ⟨a3, a4, by rw [a5, b6], a8, keep a6 a7 b3 b4 b5 b6 b7 b8⟩⟩
    · exact absurd b2 a2
    · exact absurd b2 a2
  · rcases hB with ⟨b1, b2, _⟩ | ⟨b1, b2, b2', b3, b4, b5, b6, b7, b8⟩ | ⟨b1, b2, b3, _⟩
    · exact absurd a2 b2
    · exact ⟨⟨by rw [k2 a1, b1], fun y => absurd ((k2 a1).symm.trans y) (by decide)⟩, n1, n4, n8, Or.inl ⟨a3, a4, by rw [a5, b6], a8, keep a6 a7 b3 b4 b5 b6 b7 b8⟩⟩
    · rw [a2'] at b3; exact absurd b3 (by decide)
  · rcases hB with ⟨b1, bq, _⟩ | ⟨b1, bq, b3, _⟩ | ⟨b1, bq, b3, b4, k', e', kk', s1, s2, s3, s4, s5, s6, s7, s8, s9⟩
    · exact absurd a2 bq
    · rw [a3] at b3; exact absurd b3 (by decide)
    · obtain ⟨ek, ee⟩ := pr_un p1 s1
      subst ek; subst ee
      have ekk : kk2 = kk' := nI_inj (by omega) (by omega) (p3.symm.trans s3)
      subst ekk
      have eX : X2 = X2m := by rw [p8, s8, p6, p5]
      have pb := pr_b h1.1.1 p1
      have hxl := c9.1
      rw [hx_len4] at hxl
      obtain ⟨qn2, q1, q3⟩ := qy_n (at_c (hm_c X2) (nI b2)) (X := X2) (by omega)
      subst s4
      have eF : RF2 = (sl_p L (rnm + 1) (rnm + 1 + rsm)).map sy_c := by rw [p5, s5]
      have hs5 : ∀ i, i < RF2.length → s5_p (RF2.getD i 0) := by rw [p5]; exact s5_all p1.2.2.2.1
      have hgd : gdm = true → L.length = rnm + rsm + 2 + rsm := fun z => by
        rcases s6 with ⟨_, t⟩ | ⟨t, _⟩
        · rcases p1.2.2.2.2 with u | u
          · omega
          · have := u.1; omega
        · rw [z] at t; exact absurd t (by decide)
      have hRQ : RQ2 = rq_c L gdm rnm rsm := by
        unfold rq_c
        rcases s6 with ⟨t1, t2⟩ | ⟨t1, t2⟩
        · rw [if_pos t1]
          rcases p7 with ⟨u1, _⟩ | ⟨_, u2⟩
          · omega
          · rw [u2, show rnm + rsm + 2 = e + 1 by omega]
        · rw [if_neg (by rw [t1]; decide)]
          rcases p7 with ⟨_, u2⟩ | ⟨u1, _⟩
          · exact u2
          · omega
      refine ⟨⟨by rw [(k0 a1).1, b1], fun _ => by rw [(k0 a1).2, p11, s9, eX]⟩, n1, n4, n8, Or.inr ⟨a4, a5, by rw [a6, b4], qn2, kk2, by rw [p10, q3], ⟨fun z => by rw [b4] at z; exact absurd z (by decide), fun _ => ⟨a3, eX, by rw [← eX]; exact p8, p2, ⟨s7, h1.2.2⟩, ⟨eF, by omega, by omega, pb.2.2.2.2, hgd⟩, hs5, ⟨p4, p6, hRQ⟩, by rw [← eX]; exact p9, q1, by rw [← q3, p9, eX]⟩⟩⟩⟩
