/-! the class takes just the images of pieces, as the reference does -/
section
variable {J : List Int32} {np rt : Nat} {NM BS : Nat → List Int32} {G : Nat → Int32} {so : Nat → Nat}
theorem cz_pl (h : ci_p J np NM BS rt G so) : pz_c J = pl_c np BS := by
  unfold pz_c pl_c
  rw [ci_3 h, ci_tt h (Nat.le_refl _)]
theorem cz_rt (h : ci_p J np NM BS rt G so) : rz_c J = rt := by
  unfold rz_c
  rw [ci_3 h]
  unfold bn_c
  rw [(ci_t h).1, nI_clamp (by have := h.2.2.1; omega)]
theorem cz_tz (h : ci_p J np NM BS rt G so) {j : Nat} (hj : j < pl_c np BS) : tz_c J j = bf_c G so j := by
  unfold tz_c
  rw [ci_3 h]
  exact (ci_t h).2.1 j hj
theorem cz_k (h : ci_p J np NM BS rt G so) : rw_k (ky_c G) (pl_c np BS) ∧ ∀ p, p < pl_c np BS → G p ≤ 6 := gr_k h.1 h.2.1 h.2.2.2.1
theorem cz_tr (h : ci_p J np NM BS rt G so) {p : Nat} (hp : p < pl_c np BS) : tz_c J (rk_a (ky_c G) (pl_c np BS) p) = if p = 0 then 0 else G (p - 1) := by
  rw [cz_tz h ((rk_ij (cz_k h).1).1 p hp)]
  unfold bf_c
  rw [h.2.2.2.2.1 p hp]
theorem cz_td (h : ci_p J np NM BS rt G so) : tn_d (ky_c G) (fun j => (tz_c J j).toInt) (pl_c np BS) := fun p hp => by
  show (tz_c J (rk_a (ky_c G) (pl_c np BS) p)).toInt = _
  rw [cz_tr h hp]
  split <;> rfl
theorem cz_it (h : ci_p J np NM BS rt G so) {k : Nat} (hk : k < pl_c np BS) : it_c (tz_c J) (pl_c np BS) k = rk_a (ky_c G) (pl_c np BS) (pl_c np BS - 1 - k) := by
  induction k with
  | zero => exact (tn_0 (cz_k h).1).symm
  | succ k ih =>
    show lf_c (tz_c J) (pl_c np BS) (it_c (tz_c J) (pl_c np BS) k) = _
    rw [ih (by omega)]
    obtain ⟨p, hp⟩ : ∃ p, p + 1 = pl_c np BS - 1 - k := ⟨pl_c np BS - 1 - k - 1, by omega⟩
    rw [← hp, show pl_c np BS - 1 - (k + 1) = p by omega]
    rw [← tn_lf (cz_k h).1 (cz_td h) (show p + 1 < pl_c np BS by omega)]
    unfold lf_c
    have e : tz_c J (rk_a (ky_c G) (pl_c np BS) (p + 1)) = G p := by
      rw [cz_tr h (by omega), if_neg (by omega)]; rfl
    refine cn_congr (fun j _ => ?_)
    rw [e]
    show (tz_c J j < G p ∨ _) ↔ ((tz_c J j).toInt < (G p).toInt ∨ ((tz_c J j).toInt = (G p).toInt ∧ _))
    rw [Int32.lt_iff_toInt_lt, Int32.toInt_inj]
theorem cz_sx (h : ci_p J np NM BS rt G so) {p : Nat} (hp : p + 1 < pl_c np BS) : sx_c (tz_c J) (pl_c np BS) p = G p := by
  unfold sx_c
  rw [cz_it h (by omega), show pl_c np BS - 1 - (pl_c np BS - 2 - p) = p + 1 by omega, cz_tr h (by omega), if_neg (by omega)]; rfl
/-- what stands at a place of the row: a base or a mark, by the layout alone -/
theorem cz_v (h : ci_p J np NM BS rt G so) {w : Nat → Int32} (hw : ly_p np (bl_c BS) (fun _ _ => 5) w) {p : Nat} (hp : p + 1 < pl_c np BS) : (w p = 5 ∧ 1 < G p) ∨ (w p = 1 ∧ G p = 1) := by
  obtain ⟨i, hi, z⟩ := ly_at (q := bl_c BS) (n := np) (p := p) (by unfold pl_c at hp; omega)
  rcases z with ⟨t, ht, e⟩ | e
  · refine Or.inl ⟨by rw [e]; exact (hw i hi).1 t ht, ?_⟩
    rw [e, (h.2.2.2.1 i hi).1 t ht]
    have := s5_v ((h.2.1.2.2.1 i hi).2.2 t ht)
    show (1 : Int32) < (BS i).getD t 0
    exact Int32.lt_iff_toInt_lt.mpr (by have e1 : (1 : Int32).toInt = 1 := rfl; omega)
  · have hin : i + 1 < np := by
      rcases Nat.lt_or_ge (i + 1) np with z | z
      · exact z
      · have e2 : i + 1 = np := by omega
        subst e2
        have : tt_c (bl_c BS) (i + 1) = tt_c (bl_c BS) i + bl_c BS i := rfl
        unfold pl_c at hp
        omega
    refine Or.inr ⟨?_, ?_⟩
    · rw [e, (hw i hi).2, if_pos hin]
    · rw [e, (h.2.2.2.1 i hi).2, if_pos hin]
theorem cz_ly (h : ci_p J np NM BS rt G so) {w : Nat → Int32} {B : Nat → Nat → Int32} (hw : ly_p (bn_c J 3) (qz_c J) B w) : ly_p np (bl_c BS) B w := fun p hp => by
  rw [ci_3 h] at hw
  have a := hw p hp
  rw [ci_tt h (Nat.le_of_lt hp), (ci_nz h hp).2.2] at a
  exact a
theorem cz_lz (h : ci_p J np NM BS rt G so) {w : Nat → Int32} {B : Nat → Nat → Int32} (hw : ly_p np (bl_c BS) B w) : ly_p (bn_c J 3) (qz_c J) B w := fun p hp => by
  rw [ci_3 h] at hp
  have a := hw p hp
  rw [ci_tt h (Nat.le_of_lt hp), (ci_nz h hp).2.2, ci_3 h]
  exact a
theorem cz_ok (h : ci_p J np NM BS rt G so) : rb_ok J := by
  obtain ⟨w, hw⟩ := ly_ex np (bl_c BS) (fun _ _ => 5)
  refine ⟨w, tz_c J, ci_rp h, by rw [cz_rt h]; exact h.2.2.1.1, by rw [cz_rt h]; exact h.2.2.1.2, fun j hj => ?_, cz_lz h hw, fun _ _ => rfl, fun p hp => ?_⟩
  · rw [cz_pl h] at hj
    rw [cz_tz h hj]
    obtain ⟨i, hi, e⟩ := ij_onto (rk_ij (cz_k h).1) j hj
    have a := cz_tr h hi
    rw [cz_tz h ((rk_ij (cz_k h).1).1 i hi), e] at a
    rw [a]
    split
    · exact ⟨by decide, by decide⟩
    · have b := (cz_k h).2 (i - 1) (by omega)
      have c := (cz_k h).1.2.2 (i - 1) (by omega)
      have d : ky_c G (i - 1) = (G (i - 1)).toInt := rfl
      refine ⟨fun z => ?_, ?_⟩
      · have z1 := Int32.lt_iff_toInt_lt.mp z
        have z3 : (0 : Int32).toInt = 0 := rfl
        omega
      · exact Int32.lt_of_le_of_lt b (by decide)
  · rw [cz_pl h] at hp ⊢
    unfold so_p
    rw [cz_sx h hp]
    rcases cz_v h hw hp with ⟨a, b⟩ | ⟨a, b⟩
    · exact Or.inl ⟨b, by rw [a]; decide⟩
    · exact Or.inr (by rw [a, b])
theorem cz_rw (h : ci_p J np NM BS rt G so) {w tr rw2 : Nat → Int32} (hb : rb_p J w tr) (h2 : ∀ p, p < pz_c J → rw2 p = if p + 1 < pz_c J then sv_c (sx_c tr (pz_c J) p) (w p) else w p) {p : Nat} (hp : p < pl_c np BS) : rw2 p = G p := by
  obtain ⟨_, _, _, _, hly, htr, _⟩ := hb
  have hw := cz_ly h hly
  rw [cz_pl h] at h2 htr
  have hpos := (cz_k h).1.1
  rw [h2 p hp]
  rcases Nat.lt_or_ge (p + 1) (pl_c np BS) with z | z
  · rw [if_pos z, sx_cg htr hpos, cz_sx h z]
    unfold sv_c
    rcases cz_v h hw z with ⟨a, b⟩ | ⟨a, b⟩
    · rw [if_pos ⟨b, by rw [a]; decide⟩]
    · rw [if_neg (fun y => by rw [b] at y; exact absurd y.1 (by decide)), a, b]
  · rw [if_neg (by omega)]
    have e : p = pl_c np BS - 1 := by omega
    have l1 : w (tt_c (bl_c BS) np + np - 1) = 0 := ly_last hw (by have := h.1; omega)
    have l2 : G (tt_c (bl_c BS) np + np - 1) = 0 := ly_last h.2.2.2.1 (by have := h.1; omega)
    rw [e]
    unfold pl_c
    rw [l1, l2]
theorem cz_ns (h : ci_p J np NM BS rt G so) : ¬ ns_p J := by
  rintro ⟨num, pl, NM', st, ln, rw2, sf, tr2, rt', sa, ⟨e1, e2, hpz, e3, ⟨w, tr, hb, h2⟩, har⟩, hsa, hne⟩
  apply hne
  rw [ci_3 h] at e1 hpz
  rw [cz_pl h] at e2
  rw [cz_rt h] at e3
  subst e1; subst e2; subst e3
  have hG : ∀ p, p < pl_c num BS → rw2 p = G p := fun p hp => cz_rw h hb h2 hp
  have hk : rw_k (ky_c rw2) (pl_c num BS) := rw_cg (fun p hp => (hG p hp).symm) (cz_k h).1
  have hl := pl_lb h.2.1
  have hiv : iv_p rw2 (pl_c num BS) sa := iv_of hl hk (fun j hj => (har j hj).1) hsa
  have hso : ∀ i, i < pl_c num BS → so i = sa i := fun i hi => iv_un (cz_k h).1 (fun p hp => (hG p hp).symm) h.2.2.2.2.1 hiv hi
  refine h.2.2.2.2.2.trans (ic_cg (fun p hp => ?_) (fun p hp => ?_) (fun i hi => ?_) hso)
  · rw [(hpz p hp).1, (ci_nz h hp).2.1]
  · rw [(hpz p hp).2.2, (ci_nz h hp).2.2]; rfl
  · obtain ⟨j, hj, e⟩ := ij_onto (rk_ij hk) i hi
    have a := (har j hj).2
    rw [e] at a
    rw [bf_cg (fun p hp => (hG p hp).symm) (hso i hi) (iv_lt (cz_k h).1 h.2.2.2.2.1 hi), a]
    unfold bf_c
    rw [← e, hiv j hj]
/-- two readings of one image are the same -/
theorem ci_uq {np' rt' : Nat} {NM' BS' : Nat → List Int32} {G' : Nat → Int32} {so' : Nat → Nat} (h : ci_p J np NM BS rt G so) (h' : ci_p J np' NM' BS' rt' G' so') : np = np' ∧ rt = rt' ∧ pl_c np BS = pl_c np' BS' ∧ (∀ p, p < np → NM p = NM' p ∧ BS p = BS' p) ∧ ∀ p, p < pl_c np BS → G p = G' p := by
  have e1 : np = np' := by rw [← ci_3 h, ci_3 h']
  have e2 : rt = rt' := by rw [← cz_rt h, cz_rt h']
  have e3 : pl_c np BS = pl_c np' BS' := by rw [← cz_pl h, cz_pl h']
  subst e1
  have hG : ∀ p, p < pl_c np BS → G p = G' p := fun p hp => by
    rcases Nat.lt_or_ge (p + 1) (pl_c np BS) with z | z
    · rw [← cz_sx h z, e3]; exact cz_sx h' (e3 ▸ z)
    · have e : p = pl_c np BS - 1 := by omega
      have l1 : G (tt_c (bl_c BS) np + np - 1) = 0 := ly_last h.2.2.2.1 (by have := h.1; omega)
      have l2 : G' (tt_c (bl_c BS') np + np - 1) = 0 := ly_last h'.2.2.2.1 (by have := h.1; omega)
      rw [e]
      have a : G (pl_c np BS - 1) = 0 := l1
      have b : G' (pl_c np BS' - 1) = 0 := l2
      rw [a, e3, b]
  refine ⟨rfl, e2, e3, fun p hp => ⟨by rw [← (ci_nz h hp).2.1, (ci_nz h' hp).2.1], ?_⟩, hG⟩
  have el : (BS p).length = (BS' p).length := by rw [← (ci_nz h hp).2.2, (ci_nz h' hp).2.2]
  have et : tt_c (bl_c BS) p = tt_c (bl_c BS') p := by rw [← ci_tt h (Nat.le_of_lt hp), ci_tt h' (Nat.le_of_lt hp)]
  refine li_ext el (fun t ht => ?_)
  have a := (h.2.2.2.1 p hp).1 t ht
  have b := (h'.2.2.2.1 p hp).1 t (by show t < (BS' p).length; omega)
  have c := ti_in (q := bl_c BS) hp ht
  have a2 : G (tt_c (bl_c BS) p + p + t) = (BS p).getD t 0 := a
  have b2 : G' (tt_c (bl_c BS') p + p + t) = (BS' p).getD t 0 := b
  rw [← a2, ← b2, ← et]
  exact hG _ (by unfold pl_c; omega)
end
/-- what the class has taken is such an image -/
theorem cl_ci {J : List Int32} {num pl rt : Nat} {NM : Nat → List Int32} {st ln rw2 sf tr : Nat → Int32} {sa : Nat → Nat} (h : rb_s J num pl NM st ln rw2 sf tr rt) (hsa : ∀ j, j < pl → sf j = nI (sa j) ∧ sa j < pl) (e : J = ic_c num NM ln rt tr sa pl) :
    ∃ BS so, ci_p J num NM BS rt rw2 so ∧ sl_q num BS st ln ∧ pl = pl_c num BS ∧ (∀ j, j < pl → sf j = nI (so j) ∧ so j < pl) := by
  have hb := rb_b h
  obtain ⟨e1, e2, hpz, e3, ⟨w, t0, hrb, h2⟩, har⟩ := h
  obtain ⟨hrp, hr1, hr8, h7, hly, htr, hso⟩ := id hrb
  have e2' : pl = tt_c (qz_c J) num + num := by rw [e2, e1]; rfl
  rw [← e1] at hly hpz
  rw [← e2] at h2 h7 htr hso
  have hrj : ∀ j, j < num → rj_p J j := fun j hj => hrp.2.2 j (by omega)
  obtain ⟨BS, hBS⟩ : ∃ z, z = fun p => tk_c (fun t => rw2 (tt_c (qz_c J) p + p + t)) (qz_c J p) := ⟨_, rfl⟩
  have hbl : bl_c BS = qz_c J := by subst hBS; funext p; exact tk_len _ _
  have hlen : ∀ p, (BS p).length = qz_c J p := fun p => congrFun hbl p
  have hget : ∀ p t, t < qz_c J p → (BS p).getD t 0 = rw2 (tt_c (qz_c J) p + p + t) := fun p t ht => by
    rw [hBS]
    show (tk_c _ _).getD t 0 = _
    rw [tk_get ht]
  have hpl : pl = pl_c num BS := by unfold pl_c; rw [hbl]; exact e2'
  have hbase : ∀ p, p < num → ∀ t, t < qz_c J p → s5_p (rw2 (tt_c (qz_c J) p + p + t)) := fun p hp t ht => by
    have hi := ti_in (q := qz_c J) hp ht
    have hin : tt_c (qz_c J) p + p + t + 1 < pl := by
      have a : tt_c (qz_c J) (p + 1) ≤ tt_c (qz_c J) num := tt_mono _ hp
      have c : tt_c (qz_c J) (p + 1) = tt_c (qz_c J) p + qz_c J p := rfl
      omega
    rw [h2 _ (by omega), if_pos hin]
    unfold sv_c
    rw [show w (tt_c (qz_c J) p + p + t) = 5 from (hly p hp).1 t ht]
    have hx : s7_p (sx_c t0 pl (tt_c (qz_c J) p + p + t)) := by
      unfold sx_c
      have a := it_lt t0 (show 0 < pl by omega) (pl - 2 - (tt_c (qz_c J) p + p + t))
      rw [htr _ a]
      exact h7 _ a
    split
    · rename_i y
      refine ti_s5 ⟨rfl, fun z => ?_⟩ ?_
      · have y1 := Int32.lt_iff_toInt_lt.mp y.1
        have z1 := Int32.lt_iff_toInt_lt.mp z
        have c1 : (1 : Int32).toInt = 1 := rfl
        have c2 : (2 : Int32).toInt = 2 := rfl
        omega
      · have z1 := Int32.lt_iff_toInt_lt.mp hx.2
        have c1 : (nI 7).toInt = 7 := rfl
        exact Int32.le_iff_toInt_le.mpr (by have c2 : (6 : Int32).toInt = 6 := rfl; omega)
    · exact Or.inr (Or.inr (Or.inr (Or.inl rfl)))
  have hgr : gr_p num BS rw2 := by
    unfold gr_p
    rw [hbl]
    intro p hp
    refine ⟨fun t ht => (hget p t ht).symm, ?_⟩
    have a : tt_c (qz_c J) (p + 1) ≤ tt_c (qz_c J) num := tt_mono _ hp
    have c : tt_c (qz_c J) (p + 1) = tt_c (qz_c J) p + qz_c J p := rfl
    have m := (hly p hp).2
    rw [h2 _ (by omega)]
    rcases Nat.lt_or_ge (p + 1) num with z | z
    · rw [if_pos z] at m ⊢
      rw [m]
      split
      · unfold sv_c
        rw [if_neg (fun y => absurd y.2 (by decide))]
      · rfl
    · rw [if_neg (show ¬ p + 1 < num by omega)] at m ⊢
      have e4 : p + 1 = num := by omega
      have e5 : pl = tt_c (qz_c J) p + qz_c J p + (p + 1) := by rw [e2', ← e4]; rfl
      rw [if_neg (by omega), m]
  have hvq : vq_p num NM BS := by
    refine ⟨hb.2.1, by rw [hbl]; exact tt_le hrj, fun p hp => ⟨?_, ?_, fun t ht => ?_⟩, fun i j hi hj => ?_⟩
    · rw [(hpz p hp).1]
      obtain ⟨⟨a, b, c, d⟩, _⟩ := hrj p hp
      have e : (nz_c J p).length = bn_c J (po_c J p) := by unfold nz_c; rw [sl_len c]; omega
      refine ⟨by omega, by omega, fun j hj => ?_⟩
      unfold nz_c
      rw [sl_get (by omega)]
      exact d _ (by omega) (by omega)
    · rw [hlen]; exact (hrj p hp).2.2.1
    · rw [hlen] at ht
      rw [hget p t ht]
      exact hbase p hp t ht
    · rw [(hpz i (by omega)).1, (hpz j hj).1]
      exact (hrj j hj).2.1 i hi
  have hk : rw_k (ky_c rw2) pl := hb.2.2.2.2.2.2
  obtain ⟨so, hs1, hs2, hs3⟩ := ar_so hk har
  have hl := pl_lb hvq
  have hss : ∀ j, j < pl → sa j = so j := fun j hj => nI_inj (by have := (hsa j hj).2; omega) (by have := (hs1 j hj).2; omega) ((hsa j hj).1.symm.trans (hs1 j hj).1)
  refine ⟨BS, so, ⟨hb.1, hvq, ⟨hb.2.2.2.2.1, hb.2.2.2.2.2.1⟩, hgr, hpl ▸ hs2, ?_⟩, fun j hj => ⟨?_, ?_⟩, hpl, hs1⟩
  · rw [← hpl]
    refine e.trans (ic_cg (fun _ _ => rfl) (fun p hp => ?_) hs3 hss)
    rw [(hpz p hp).2.2]
    show nI (qz_c J p) = nI (BS p).length
    rw [hlen]
  · rw [hbl]; exact (hpz j hj).2.1
  · rw [hlen]; exact (hpz j hj).2.2
