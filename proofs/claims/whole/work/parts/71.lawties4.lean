/-! the law's case load -/
theorem ar_tr {rw sf tr : Nat → Int32} {pl : Nat} {so : Nat → Nat} (hk : rw_k (ky_c rw) pl) (h : ar_p rw sf tr pl) (hi : iv_p rw pl so) : ∀ j, j < pl → tr j = bf_c rw so j := fun j hj => by
  obtain ⟨i, h1, e⟩ := ij_onto (rk_ij hk) j hj
  have a := (h i h1).2
  rw [e] at a
  unfold bf_c
  rw [a, ← e, hi i h1]
theorem tt_cg {q q' : Nat → Nat} {n : Nat} (h : ∀ p, p < n → q p = q' p) : tt_c q n = tt_c q' n := by
  induction n with
  | zero => rfl
  | succ n ih =>
    show tt_c q n + q n = tt_c q' n + q' n
    rw [ih (fun p hp => h p (by omega)), h n (by omega)]
theorem rq_cg {np : Nat} {NM BS NM' BS' : Nat → List Int32} {nf sz bc bf : Nat → Int32} (h : rq_p np NM BS nf sz bc bf) (he : ∀ p, p < np → NM p = NM' p ∧ BS p = BS' p) : rq_p np NM' BS' nf sz bc bf := by
  refine ⟨fun p hp => ?_, fun p hp => ?_⟩
  · rw [← (he p hp).1]; exact h.1 p hp
  · rw [← (he p hp).2, ← tt_cg (q := bl_c BS) (q' := bl_c BS') (fun i hi => by show (BS i).length = (BS' i).length; rw [(he i (by omega)).2])]; exact h.2 p hp
theorem t_load {np pl mpl rt mrt tot ia ia9 y1 y2 num2 pl2 rt2 np2m tot2 rt2m pl2m sg2 nh2 bst qn mrn mrs kk : Nat} {NM BS NM2 : Nat → List Int32} {st ln rw nf sz bc bf sf tr mrw of1 fm2 fd2 st2 ln2 rw2 sf2 tr2 nf2 sz2 bc2 bf2 rwm ofm wf tnf tbf wlf duf mnf h1f h2f h3f h4f g1 g2 g3 g4 df : Nat → Int32} {cnf2 : Nat → Nat → Int32} {so : Nat → Nat} {rd mp gd rdm mpm : Bool} {r zt r' fo fo2 rd2 mpc : Int32} {ou : Nat → Int64} {J MN2 LD2 TN TB WLl LD MN Wd RN RF RB RQ RL : List Int32} {XC XM : List (Nat × Nat × Nat × Nat)} {g9 : Nat → Option Nat} {na9 : Nat → Nat} {cnf9 : Nat → Nat → Int32} {NM9 : Nat → List Int32}
    (h2 : lw_2 tnf tbf wlf duf mnf TN TB WLl LD MN) (h3 : lw_3 g9 na9 cnf9 NM9) (h5 : lw_5 np NM BS pl st ln rw nf sz bc bf tot) (h6 : lw_6 rd np rt mrt pl mpl rw sf tr mrw of1 so) (h7 : lw_7 wf Wd fo rd pl rw so) (h8 : lw_8 h1f h2f h3f h4f XC g1 g2 g3 g4 XM) (h9 : lw_9 mp rd XC XM rw BS np RN RF RB RQ bst qn df RL mrn mrs gd kk)
    (hA : ∃ (o9 : Option String) (r9 : Int32), ((cd_r 8 fm2 MN2 ∧ (∀ j, j < 5 → cd_r 8 (cnf2 j) (NM2 j)) ∧ cd_r 189 fd2 LD2) ∧ ((o9 = some x_uo ∧ ¬ (8 ≤ J.length ∧ hd_p J) ∧ y1 = ia ∧ y2 = ia9 ∧ rd2 = bz_c rd ∧ fo2 = fo ∧ mpc = bz_c mp) ∨ (o9 = some x_is ∧ (8 ≤ J.length ∧ hd_p J) ∧ (rb_ok J → ns_p J) ∧ y1 = ia ∧ y2 = ia9 ∧ rd2 = bz_c rd ∧ fo2 = fo ∧ mpc = bz_c mp) ∨ (o9 = none ∧ (8 ≤ J.length ∧ hd_p J) ∧ rb_s J num2 pl2 NM2 st2 ln2 rw2 sf2 tr2 rt2 ∧ (∃ sa, (∀ j, j < pl2 → sf2 j = nI (sa j) ∧ sa j < pl2) ∧ J = ic_c num2 NM2 ln2 rt2 tr2 sa pl2) ∧ y1 = ia9 ∧ y2 = ia ∧ rd2 = bz_c true ∧ fo2 = -1 ∧ mpc = bz_c false ∧ r9 = nI pl2))) ∧ (o9 = none → r = 0 ∧ ou 0 = r9.toInt64) ∧ (o9 = some x_uo → r = 1) ∧ (o9 = some x_is → r = 2))
    (hB : (∀ z, z < 40 → ch_p (nf2 z)) ∧ ((zt = 1 ∧ ¬ (8 ≤ J.length ∧ hd_p J) ∧ rdm = rd ∧ np2m = np ∧ tot2 = tot ∧ rt2m = mrt ∧ pl2m = mpl ∧ sg2 = Wd.length ∧ mpm = mp ∧ nh2 = XM.length ∧ (∀ j, j < 66 → rwm j = mrw j) ∧ (∀ j, j < 66 → ofm j = of1 j) ∧ (∀ j, j < 64 → bf2 j = bf j) ∧ (∀ j, j < 40 → nf2 j = nf j) ∧ (∀ j, j < 5 → sz2 j = sz j) ∧ ∀ j, j < 5 → bc2 j = bc j) ∨ (zt = 2 ∧ (8 ≤ J.length ∧ hd_p J) ∧ (∀ (np : Nat) (NM BS : Nat → List Int32) (rt : Nat) (G : Nat → Int32) (so : Nat → Nat), ¬ ci_p J np NM BS rt G so) ∧ rdm = rd ∧ np2m = np ∧ tot2 = tot ∧ rt2m = mrt ∧ pl2m = mpl ∧ sg2 = Wd.length ∧ mpm = mp ∧ nh2 = XM.length ∧ (∀ j, j < 66 → rwm j = mrw j) ∧ (∀ j, j < 66 → ofm j = of1 j) ∧ (∀ j, j < 64 → bf2 j = bf j) ∧ (∀ j, j < 40 → nf2 j = nf j) ∧ (∀ j, j < 5 → sz2 j = sz j) ∧ ∀ j, j < 5 → bc2 j = bc j) ∨ (zt = 0 ∧ (8 ≤ J.length ∧ hd_p J) ∧ (∃ (NM BS : Nat → List Int32) (rt : Nat) (G : Nat → Int32) (so : Nat → Nat), ci_p J np2m NM BS rt G so ∧ nI rt2m = nI rt ∧ tot2 = tt_c (bl_c BS) np2m ∧ pl2m = tot2 + np2m ∧ rq_p np2m NM BS nf2 sz2 bc2 bf2 ∧ (∀ z, z < pl2m → rwm z = G z) ∧ ∀ j, j < pl2m → ofm j = nI (so j) ∧ so j < pl2m) ∧ rdm = true ∧ sg2 = 0 ∧ mpm = false ∧ nh2 = 0 ∧ r' = nI pl2m))) :
    (r = zt ∧ (r = 0 → ou 0 = r'.toInt64)) ∧ lw_2 tnf tbf wlf fd2 fm2 TN TB WLl LD2 MN2 ∧ lw_3 g9 na9 cnf2 NM2 ∧ ((y1 = ia ∧ y2 = ia9 ∧ rd2 = bz_c rdm ∧ fo2 = fo ∧ mpc = bz_c mpm ∧ np2m = np ∧ sg2 = Wd.length ∧ nh2 = XM.length ∧ lw_5 np NM BS pl st ln rw nf2 sz2 bc2 bf2 tot2 ∧ lw_6 rdm np rt rt2m pl pl2m rw sf tr rwm ofm so ∧ lw_7 wf Wd fo rdm pl rw so ∧ lw_9 mpm rdm XC XM rw BS np RN RF RB RQ bst qn df RL mrn mrs gd kk) ∨
      (y1 = ia9 ∧ y2 = ia ∧ rd2 = bz_c rdm ∧ fo2 = -1 ∧ mpc = bz_c mpm ∧ np2m = num2 ∧ sg2 = ([] : List Int32).length ∧ nh2 = ([] : List (Nat × Nat × Nat × Nat)).length ∧ nI rt2m = nI rt2 ∧ ∃ BS2 so2, lw_5 num2 NM2 BS2 pl2 st2 ln2 rw2 nf2 sz2 bc2 bf2 tot2 ∧ lw_6 rdm num2 rt2 rt2 pl2 pl2m rw2 sf2 tr2 rwm ofm so2 ∧ lw_7 wf [] (-1) rdm pl2 rw2 so2 ∧ lw_8 h1f h2f h3f h4f XC g1 g2 g3 g4 [] ∧ lw_9 mpm rdm XC [] rw2 BS2 num2 RN RF RB RQ bst qn df RL mrn mrs gd kk)) := by
  obtain ⟨o9, r9, ⟨⟨c1, c2, c3⟩, hA⟩, k0, k1, k2⟩ := hA
  obtain ⟨d1, hB⟩ := hB
  have n2 : lw_2 tnf tbf wlf fd2 fm2 TN TB WLl LD2 MN2 := ⟨h2.1, h2.2.1, h2.2.2.1, c3, c1⟩
  have n3 : lw_3 g9 na9 cnf2 NM2 := ⟨h3.1, c2⟩
  have hl := lw_pl h5
  have keep : rdm = rd → np2m = np → tot2 = tot → rt2m = mrt → pl2m = mpl → sg2 = Wd.length → mpm = mp → nh2 = XM.length → (∀ j, j < 66 → rwm j = mrw j) → (∀ j, j < 66 → ofm j = of1 j) → (∀ j, j < 64 → bf2 j = bf j) → (∀ j, j < 40 → nf2 j = nf j) → (∀ j, j < 5 → sz2 j = sz j) → (∀ j, j < 5 → bc2 j = bc j) → y1 = ia → y2 = ia9 → rd2 = bz_c rd → fo2 = fo → mpc = bz_c mp → (y1 = ia ∧ y2 = ia9 ∧ rd2 = bz_c rdm ∧ fo2 = fo ∧ mpc = bz_c mpm ∧ np2m = np ∧ sg2 = Wd.length ∧ nh2 = XM.length ∧ lw_5 np NM BS pl st ln rw nf2 sz2 bc2 bf2 tot2 ∧ lw_6 rdm np rt rt2m pl pl2m rw sf tr rwm ofm so ∧ lw_7 wf Wd fo rdm pl rw so ∧ lw_9 mpm rdm XC XM rw BS np RN RF RB RQ bst qn df RL mrn mrs gd kk) := by
    intro q1 q2 q3 q4 q5 q6 q7 q8 q9 q10 q11 q12 q13 q14 q15 q16 q17 q18 q19
    subst q1; subst q3; subst q4; subst q5; subst q7
    refine ⟨q15, q16, q17, q18, q19, q2, q6, q8, ⟨h5.1, h5.2.1, h5.2.2.1, h5.2.2.2.1, rq_pr h5.2.2.2.2.1 h5.1.1 h5.1.2.1 q11 q12 q13 q14, h5.2.2.2.2.2.1, d1⟩, ⟨h6.1, fun z => ?_⟩, h7, h9⟩
    obtain ⟨x1, x2, x3, x4, x5, x6, x7, x8, x9, x10⟩ := h6.2 z
    exact ⟨x1, x2, x3, x4, x5, fun y hy => (q9 y (by omega)).trans (x6 y hy), x7, fun j hj => ⟨(q10 j (by omega)).trans (x8 j hj).1, (x8 j hj).2⟩, x9, x10⟩
  rcases hA with ⟨a1, a2, a3, a4, a5, a6, a7⟩ | ⟨a1, a2, a2', a3, a4, a5, a6, a7⟩ | ⟨a1, a2, a3, ⟨sa, a4, a4'⟩, a5, a6, a7, a8, a9, a10⟩
  · rcases hB with ⟨b1, b2, b3, b4, b5, b6, b7, b8, b9, b10, b11, b12, b13, b14, b15, b16⟩ | ⟨b1, b2, _⟩ | ⟨b1, b2, _⟩
    · exact ⟨⟨by rw [k1 a1, b1], fun y => absurd ((k1 a1).symm.trans y) (by decide)⟩, n2, n3, Or.inl (keep b3 b4 b5 b6 b7 b8 b9 b10 b11 b12 b13 b14 b15 b16 a3 a4 a5 a6 a7)⟩
    · exact absurd b2 a2
    · exact absurd b2 a2
  · rcases hB with ⟨b1, b2, _⟩ | ⟨b1, b2, b2', b3, b4, b5, b6, b7, b8, b9, b10, b11, b12, b13, b14, b15, b16⟩ | ⟨b1, b2, ⟨NMr, BSr, rtr, Gr, sor, z, _⟩, _⟩
    · exact absurd a2 b2
    · exact ⟨⟨by rw [k2 a1, b1], fun y => absurd ((k2 a1).symm.trans y) (by decide)⟩, n2, n3, Or.inl (keep b3 b4 b5 b6 b7 b8 b9 b10 b11 b12 b13 b14 b15 b16 a3 a4 a5 a6 a7)⟩
    · exact absurd (a2' (cz_ok z)) (cz_ns z)
  · obtain ⟨BS2, so2, z, z2, z3, z4⟩ := cl_ci a3 a4 a4'
    rcases hB with ⟨b1, b2, _⟩ | ⟨b1, b2, b2', _⟩ | ⟨b1, b2, ⟨NMr, BSr, rtr, Gr, sor, w1, w2, w3, w4, w5, w6, w7⟩, b3, b4, b5, b6, b7⟩
    · exact absurd a2 b2
    · exact absurd z (b2' _ _ _ _ _ _)
    · obtain ⟨u1, u2, u3, u4, u5⟩ := ci_uq z w1
      subst u1; subst u2
      have ep : pl2m = pl2 := by rw [w4, w3, z3, u3]; rfl
      have hk := (cz_k z).1
      rw [← z3] at hk u5
      have hG : ∀ y, y < pl2 → rwm y = rw2 y := fun y hy => (w6 y (by omega)).trans (u5 y hy).symm
      have hiv : iv_p rw2 pl2 so2 := z3 ▸ z.2.2.2.2.1
      have hivr : iv_p Gr pl2 sor := by rw [z3, u3]; exact w1.2.2.2.2.1
      have hso : ∀ j, j < pl2 → so2 j = sor j := fun j hj => iv_un hk u5 hiv hivr hj
      have l65 : pl2 ≤ 65 := by rw [z3]; exact pl_lb z.2.1
      refine ⟨⟨by rw [(k0 a1).1, b1], fun _ => by rw [(k0 a1).2, a10, b7, ep]⟩, n2, n3, Or.inr ⟨a5, a6, by rw [a7, b3], a8, by rw [a9, b5], rfl, b4, b6, w2, BS2, so2, ⟨z.2.1, z3, z2, z.2.2.2.1, rq_cg w5 (fun p hp => ⟨(u4 p hp).1.symm, (u4 p hp).2.symm⟩), ?_, d1⟩, ⟨by omega, fun _ => ⟨z.1, z.2.2.1, rfl, ep, hk, hG, z4, fun j hj => ?_, hiv, ar_tr hk a3.2.2.2.2.2 hiv⟩⟩, ⟨cd_clear h7.1, Or.inl ⟨rfl, rfl⟩⟩, ⟨h8.1, cd_clear h8.2.1, cd_clear h8.2.2.1, cd_clear h8.2.2.2.1, cd_clear h8.2.2.2.2⟩, ?_⟩⟩
      · rw [w3]
        exact tt_cg (fun i hi => by show (BSr i).length = (BS2 i).length; rw [(u4 i hi).2])
      · rw [hso j hj]; exact ⟨(w7 j (by omega)).1, by have := (w7 j (by omega)).2; omega⟩
      · rw [b5]; exact lw_9f
