/-! the image of some pieces, and what is read out of it -/
/-- some pieces: their names and their bases -/
def vq_p (np : Nat) (NM BS : Nat → List Int32) : Prop := np ≤ 5 ∧ tt_c (bl_c BS) np ≤ 60 ∧ (∀ p, p < np → (1 ≤ (NM p).length ∧ (NM p).length ≤ 8 ∧ ∀ j, j < (NM p).length → nm_c ((NM p).getD j 0)) ∧ 1 ≤ (BS p).length ∧ ∀ t, t < (BS p).length → s5_p ((BS p).getD t 0)) ∧ ∀ i j, i < j → j < np → ¬ NM i = NM j
def gr_p (np : Nat) (BS : Nat → List Int32) (G : Nat → Int32) : Prop := ly_p np (bl_c BS) (fun p t => (BS p).getD t 0) G
def pl_c (np : Nat) (BS : Nat → List Int32) : Nat := tt_c (bl_c BS) np + np
/-- so gives where the ending of a rank begins -/
def iv_p (G : Nat → Int32) (pl : Nat) (so : Nat → Nat) : Prop := ∀ j, j < pl → so (rk_a (ky_c G) pl j) = j
def ln_c (BS : Nat → List Int32) : Nat → Int32 := fun p => nI (BS p).length
def ci_p (J : List Int32) (np : Nat) (NM BS : Nat → List Int32) (rt : Nat) (G : Nat → Int32) (so : Nat → Nat) : Prop := 1 ≤ np ∧ vq_p np NM BS ∧ (1 ≤ rt ∧ rt ≤ 8) ∧ gr_p np BS G ∧ iv_p G (pl_c np BS) so ∧ J = ic_c np NM (ln_c BS) rt (bf_c G so) so (pl_c np BS)
theorem ap_lt {A B : List Int32} {j : Nat} (h : j < A.length) : (A ++ B).getD j 0 = A.getD j 0 := by
  simp [List.getD_eq_getElem?_getD, List.getElem?_append_left h]
theorem ap_ge {A B : List Int32} {j : Nat} : (A ++ B).getD (A.length + j) 0 = B.getD j 0 := by
  simp [List.getD_eq_getElem?_getD, List.getElem?_append_right (Nat.le_add_right A.length j)]
theorem s5_v {x : Int32} (h : s5_p x) : 2 ≤ x.toInt ∧ x.toInt ≤ 6 := by
  rcases h with h | h | h | h | h <;> (subst h; decide)
theorem pl_lb {np : Nat} {NM BS : Nat → List Int32} (h : vq_p np NM BS) : pl_c np BS ≤ 65 := by
  have a := h.1
  have b := h.2.1
  unfold pl_c; omega
theorem gr_k {np : Nat} {NM BS : Nat → List Int32} {G : Nat → Int32} (hn : 1 ≤ np) (h : vq_p np NM BS) (hG : gr_p np BS G) : rw_k (ky_c G) (pl_c np BS) ∧ ∀ p, p < pl_c np BS → G p ≤ 6 := by
  have key : ∀ p, p + 1 < pl_c np BS → 0 < (G p).toInt ∧ (G p).toInt ≤ 6 := fun p hp => by
    rcases ly_val hG hp with ⟨i, t, hi, ht, _, e⟩ | e
    · have := s5_v ((h.2.2.1 i hi).2.2 t ht)
      rw [e]
      show 0 < ((BS i).getD t 0).toInt ∧ ((BS i).getD t 0).toInt ≤ 6
      omega
    · rw [e]; decide
  have last : G (pl_c np BS - 1) = 0 := ly_last hG (by omega)
  refine ⟨⟨by unfold pl_c; omega, by show (G (pl_c np BS - 1)).toInt = 0; rw [last]; rfl, fun i hi => (key i hi).1⟩, fun p hp => ?_⟩
  rcases Nat.lt_or_ge (p + 1) (pl_c np BS) with z | z
  · exact Int32.le_iff_toInt_le.mpr (key p z).2
  · rw [show p = pl_c np BS - 1 by omega, last]; decide
theorem iv_lt {G : Nat → Int32} {pl : Nat} {so : Nat → Nat} (hk : rw_k (ky_c G) pl) (h : iv_p G pl so) {j : Nat} (hj : j < pl) : so j < pl := by
  obtain ⟨i, hi, e⟩ := ij_onto (rk_ij hk) j hj
  rw [← e, h i hi]; exact hi
theorem el_cg {k k' : Nat → Int} {n : Nat} (h : ∀ i, i < n → k i = k' i) {p q : Nat} : el_t k n p q ↔ el_t k' n p q := by
  constructor
  · rintro ⟨j, a, b, c, d⟩
    exact ⟨j, a, b, fun i hi => by rw [← h _ (by omega), ← h _ (by omega)]; exact c i hi, by rw [← h _ a, ← h _ b]; exact d⟩
  · rintro ⟨j, a, b, c, d⟩
    exact ⟨j, a, b, fun i hi => by rw [h _ (by omega), h _ (by omega)]; exact c i hi, by rw [h _ a, h _ b]; exact d⟩
theorem rk_cg {G G' : Nat → Int32} {n : Nat} (h : ∀ p, p < n → G p = G' p) (j : Nat) : rk_a (ky_c G) n j = rk_a (ky_c G') n j := by
  unfold rk_a rk_m
  refine cn_congr (fun i _ => ?_)
  rw [el_cg (k := ky_c G) (k' := ky_c G') (fun i hi => by show (G i).toInt = (G' i).toInt; rw [h i hi])]
theorem rw_cg {G G' : Nat → Int32} {n : Nat} (h : ∀ p, p < n → G p = G' p) (hk : rw_k (ky_c G) n) : rw_k (ky_c G') n := by
  have e : ∀ p, p < n → ky_c G p = ky_c G' p := fun p hp => by show (G p).toInt = (G' p).toInt; rw [h p hp]
  exact ⟨hk.1, by rw [← e _ (by have := hk.1; omega)]; exact hk.2.1, fun i hi => by rw [← e _ (by omega)]; exact hk.2.2 i hi⟩
theorem iv_un {G G' : Nat → Int32} {pl : Nat} {so so' : Nat → Nat} (hk : rw_k (ky_c G) pl) (hG : ∀ p, p < pl → G p = G' p) (h : iv_p G pl so) (h' : iv_p G' pl so') {j : Nat} (hj : j < pl) : so j = so' j := by
  obtain ⟨i, hi, e⟩ := ij_onto (rk_ij hk) j hj
  have e2 : rk_a (ky_c G) pl i = rk_a (ky_c G') pl i := rk_cg hG i
  rw [← e, h i hi, e2, h' i hi]
theorem dp_sp {NM : Nat → List Int32} {ln : Nat → Int32} {p n : Nat} (h : p < n) : ∃ R, dp_c NM ln n = dp_c NM ln p ++ ((([nI (NM p).length] ++ NM p) ++ [ln p]) ++ R) := by
  induction n with
  | zero => omega
  | succ n ih =>
    rcases Nat.lt_or_ge p n with z | z
    · obtain ⟨R, e⟩ := ih z
      refine ⟨R ++ ([nI (NM n).length] ++ NM n ++ [ln n]), ?_⟩
      show dp_c NM ln n ++ _ = _
      rw [e]
      simp only [List.append_assoc]
    · have e : p = n := by omega
      subst e
      exact ⟨[], by rw [List.append_nil]; rfl⟩
theorem ic_sp (np : Nat) (NM : Nat → List Int32) (ln : Nat → Int32) (rt : Nat) (tr : Nat → Int32) (so : Nat → Nat) (pl : Nat) : ic_c np NM ln rt tr so pl = (([70, 77, 1] ++ [nI np]) ++ dp_c NM ln np) ++ ([nI rt] ++ (tk_c tr pl ++ (sm_c so rt pl ++ s4_c (su_c (im_c np NM ln rt tr so pl) (im_c np NM ln rt tr so pl).length)))) := by
  show im_c np NM ln rt tr so pl ++ _ = _
  show ((((([70, 77, 1] ++ [nI np]) ++ dp_c NM ln np) ++ [nI rt]) ++ tk_c tr pl) ++ sm_c so rt pl) ++ _ = _
  simp only [List.append_assoc]
theorem dp_le3 {np : Nat} {NM BS : Nat → List Int32} {ln : Nat → Int32} (h : vq_p np NM BS) {n : Nat} (hn : n ≤ np) : (dp_c NM ln n).length ≤ 10 * n := by
  induction n with
  | zero => exact Nat.le_refl _
  | succ n ih =>
    have := ih (by omega)
    have := (h.2.2.1 n (by omega)).1.2.1
    rw [dp_step]; omega
section
variable {J : List Int32} {np rt : Nat} {NM BS : Nat → List Int32} {G : Nat → Int32} {so : Nat → Nat}
theorem ci_len (h : ci_p J np NM BS rt G so) : J.length ≤ 189 ∧ 4 + (dp_c NM (ln_c BS) np).length + 1 + pl_c np BS + 4 ≤ J.length := by
  obtain ⟨hn, hv, hr, hg, hi, e⟩ := h
  have a := congrArg List.length e
  rw [ic_sp] at a
  simp only [List.length_append, List.length_cons, List.length_nil, tk_len] at a
  have b := dp_le3 (ln := ln_c BS) hv (Nat.le_refl np)
  have c := sm_len so rt (pl_c np BS)
  have d := pl_lb hv
  have f := hv.1
  have g : (s4_c (su_c (im_c np NM (ln_c BS) rt (bf_c G so) so (pl_c np BS)) (im_c np NM (ln_c BS) rt (bf_c G so) so (pl_c np BS)).length)).length = 4 := rfl
  omega
theorem ci_at (h : ci_p J np NM BS rt G so) {i : Nat} (hi : i < J.length) : at_c J (nI i) = J.getD i 0 := at_n hi (by have := (ci_len h).1; omega)
theorem ci_3 (h : ci_p J np NM BS rt G so) : bn_c J 3 = np := by
  have hl := ci_len h
  unfold bn_c
  rw [ci_at h (by omega)]
  obtain ⟨hn, hv, hr, hg, hi, e⟩ := h
  rw [e, ic_sp, List.append_assoc, ap_lt (show 3 < 4 by omega)]
  show (nI np).toNatClampNeg = np
  exact nI_clamp (by have := hv.1; omega)
theorem ci_pc (h : ci_p J np NM BS rt G so) {p : Nat} (hp : p < np) : 4 + (dp_c NM (ln_c BS) p).length + 1 + (NM p).length < J.length ∧ J.getD (4 + (dp_c NM (ln_c BS) p).length) 0 = nI (NM p).length ∧ (∀ j, j < (NM p).length → J.getD (4 + (dp_c NM (ln_c BS) p).length + 1 + j) 0 = (NM p).getD j 0) ∧ J.getD (4 + (dp_c NM (ln_c BS) p).length + 1 + (NM p).length) 0 = nI (BS p).length := by
  obtain ⟨R, eR⟩ := dp_sp (NM := NM) (ln := ln_c BS) hp
  obtain ⟨S, eS⟩ : ∃ S, J = (([70, 77, 1] ++ [nI np]) ++ dp_c NM (ln_c BS) p) ++ ((([nI (NM p).length] ++ NM p) ++ [ln_c BS p]) ++ S) := by
    obtain ⟨hn, hv, hr, hg, hi, e⟩ := h
    rw [e, ic_sp, eR]
    exact ⟨R ++ ([nI rt] ++ (tk_c (bf_c G so) (pl_c np BS) ++ (sm_c so rt (pl_c np BS) ++ s4_c (su_c (im_c np NM (ln_c BS) rt (bf_c G so) so (pl_c np BS)) (im_c np NM (ln_c BS) rt (bf_c G so) so (pl_c np BS)).length)))), by simp only [List.append_assoc]⟩
  have hA : (([70, 77, 1] ++ [nI np]) ++ dp_c NM (ln_c BS) p).length = 4 + (dp_c NM (ln_c BS) p).length := by
    rw [List.length_append]; rfl
  have key : ∀ i, J.getD (4 + (dp_c NM (ln_c BS) p).length + i) 0 = ((([nI (NM p).length] ++ NM p) ++ [ln_c BS p]) ++ S).getD i 0 := fun i => by
    rw [← hA, eS]; exact ap_ge
  have hB : ([nI (NM p).length] ++ NM p).length = 1 + (NM p).length := by rw [List.length_append]; rfl
  refine ⟨?_, ?_, fun j hj => ?_, ?_⟩
  · rw [eS]
    simp only [List.length_append, List.length_cons, List.length_nil]
    omega
  · rw [show 4 + (dp_c NM (ln_c BS) p).length = 4 + (dp_c NM (ln_c BS) p).length + 0 from rfl, key, ap_lt (by rw [List.length_append, hB]; omega), ap_lt (by rw [hB]; omega), ap_lt (show 0 < 1 by omega)]
    rfl
  · rw [Nat.add_assoc _ 1 j, key, ap_lt (by rw [List.length_append, hB]; omega), ap_lt (by rw [hB]; omega), show 1 + j = [nI (NM p).length].length + j from rfl, ap_ge]
  · rw [Nat.add_assoc _ 1 _, key, ap_lt (by rw [List.length_append, hB]; exact Nat.lt_succ_self _), ← hB, show ([nI (NM p).length] ++ NM p).length = ([nI (NM p).length] ++ NM p).length + 0 from rfl, ap_ge]
    rfl
theorem ci_po (h : ci_p J np NM BS rt G so) {p : Nat} (hp : p ≤ np) : po_c J p = 4 + (dp_c NM (ln_c BS) p).length := by
  induction p with
  | zero => rfl
  | succ p ih =>
    have e := ih (by omega)
    have a := ci_pc h (show p < np by omega)
    have b := (h.2.1.2.2.1 p (by omega)).1.2.1
    show po_c J p + bn_c J (po_c J p) + 2 = _
    have c : bn_c J (po_c J p) = (NM p).length := by
      unfold bn_c
      rw [e, ci_at h (by omega), a.2.1, nI_clamp (by omega)]
    rw [c, e, dp_step]; omega
theorem ci_nz (h : ci_p J np NM BS rt G so) {p : Nat} (hp : p < np) : bn_c J (po_c J p) = (NM p).length ∧ nz_c J p = NM p ∧ qz_c J p = (BS p).length := by
  have a := ci_pc h hp
  have e := ci_po h (Nat.le_of_lt hp)
  have b := (h.2.1.2.2.1 p hp).1.2.1
  have c : bn_c J (po_c J p) = (NM p).length := by
    unfold bn_c
    rw [e, ci_at h (by omega), a.2.1, nI_clamp (by omega)]
  refine ⟨c, ?_, ?_⟩
  · unfold nz_c
    rw [c, e]
    refine li_ext (by rw [sl_len (by omega)]; omega) (fun j hj => ?_)
    rw [sl_len (by omega)] at hj
    rw [sl_get (by omega)]
    exact a.2.2.1 j (by omega)
  · unfold qz_c
    rw [c, e]
    unfold bn_c
    rw [ci_at h (by omega), a.2.2.2, nI_clamp]
    have d : tt_c (bl_c BS) (p + 1) ≤ tt_c (bl_c BS) np := tt_mono _ hp
    have d2 : tt_c (bl_c BS) (p + 1) = tt_c (bl_c BS) p + (BS p).length := rfl
    have := h.2.1.2.1
    omega
theorem ci_tt (h : ci_p J np NM BS rt G so) {p : Nat} (hp : p ≤ np) : tt_c (qz_c J) p = tt_c (bl_c BS) p := by
  induction p with
  | zero => rfl
  | succ p ih =>
    show tt_c (qz_c J) p + qz_c J p = tt_c (bl_c BS) p + (BS p).length
    rw [ih (by omega), (ci_nz h (by omega)).2.2]
theorem ci_rp (h : ci_p J np NM BS rt G so) : rp_ok J := by
  have e3 := ci_3 h
  refine ⟨by rw [e3]; exact h.1, by rw [e3]; exact h.2.1.1, fun j hj => ?_⟩
  rw [e3] at hj
  have a := ci_pc h hj
  have e := ci_po h (Nat.le_of_lt hj)
  obtain ⟨c1, c2, c3⟩ := ci_nz h hj
  obtain ⟨⟨v1, v2, v3⟩, v4, v5⟩ := h.2.1.2.2.1 j hj
  have d : tt_c (bl_c BS) (j + 1) ≤ tt_c (bl_c BS) np := tt_mono _ hj
  have d2 : tt_c (bl_c BS) (j + 1) = tt_c (bl_c BS) j + (BS j).length := rfl
  have d3 := h.2.1.2.1
  refine ⟨?_, fun i hi => ?_, by rw [c3]; exact v4, by rw [c3, ci_tt h (Nat.le_of_lt hj)]; omega⟩
  · rw [c1, e]
    refine ⟨by omega, by omega, by omega, fun k hk1 hk2 => ?_⟩
    have := a.2.2.1 (k - (4 + (dp_c NM (ln_c BS) j).length + 1)) (by omega)
    rw [show 4 + (dp_c NM (ln_c BS) j).length + 1 + (k - (4 + (dp_c NM (ln_c BS) j).length + 1)) = k by omega] at this
    rw [this]
    exact v3 _ (by omega)
  · rw [c2, (ci_nz h (by omega)).2.1]
    exact h.2.1.2.2.2 i j hi hj
theorem ci_t (h : ci_p J np NM BS rt G so) : at_c J (nI (po_c J np)) = nI rt ∧ (∀ j, j < pl_c np BS → at_c J (nI (po_c J np + 1 + j)) = bf_c G so j) ∧ po_c J np + 1 + pl_c np BS ≤ J.length := by
  have hl := ci_len h
  have e := ci_po h (Nat.le_refl np)
  have hA : (([70, 77, 1] ++ [nI np]) ++ dp_c NM (ln_c BS) np).length = 4 + (dp_c NM (ln_c BS) np).length := by
    rw [List.length_append]; rfl
  have key : ∀ i, J.getD (4 + (dp_c NM (ln_c BS) np).length + i) 0 = ([nI rt] ++ (tk_c (bf_c G so) (pl_c np BS) ++ (sm_c so rt (pl_c np BS) ++ s4_c (su_c (im_c np NM (ln_c BS) rt (bf_c G so) so (pl_c np BS)) (im_c np NM (ln_c BS) rt (bf_c G so) so (pl_c np BS)).length)))).getD i 0 := fun i => by
    rw [← hA]
    obtain ⟨hn, hv, hr, hg, hi, e⟩ := h
    rw [e, ic_sp]; exact ap_ge
  refine ⟨?_, fun j hj => ?_, by omega⟩
  · rw [e, ci_at h (by omega), show 4 + (dp_c NM (ln_c BS) np).length = 4 + (dp_c NM (ln_c BS) np).length + 0 from rfl, key]
    rfl
  · rw [e, ci_at h (by omega), Nat.add_assoc _ 1 j, key, show 1 + j = [nI rt].length + j from rfl, ap_ge, ap_lt (by rw [tk_len]; exact hj), tk_get hj]
theorem ci_un (h : ci_p J np NM BS rt G so) : un_p J (po_c J np + 1) (pl_c np BS) G := by
  have hk := gr_k h.1 h.2.1 h.2.2.2.1
  refine ⟨hk.1, hk.2, fun p hp => ?_⟩
  rw [(ci_t h).2.1 _ ((rk_ij hk.1).1 p hp)]
  unfold bf_c
  rw [h.2.2.2.2.1 p hp]
end
/-- the image depends on what lies in the pieces and the row only -/
theorem dp_cg {NM NM' : Nat → List Int32} {ln ln' : Nat → Int32} {n : Nat} (h1 : ∀ p, p < n → NM p = NM' p) (h2 : ∀ p, p < n → ln p = ln' p) : dp_c NM ln n = dp_c NM' ln' n := by
  induction n with
  | zero => rfl
  | succ n ih =>
    show dp_c NM ln n ++ ([nI (NM n).length] ++ NM n ++ [ln n]) = dp_c NM' ln' n ++ ([nI (NM' n).length] ++ NM' n ++ [ln' n])
    rw [ih (fun p hp => h1 p (by omega)) (fun p hp => h2 p (by omega)), h1 n (by omega), h2 n (by omega)]
theorem tk_cg {f g : Nat → Int32} {n : Nat} (h : ∀ i, i < n → f i = g i) : tk_c f n = tk_c g n := by
  induction n with
  | zero => rfl
  | succ n ih =>
    show tk_c f n ++ [f n] = tk_c g n ++ [g n]
    rw [ih (fun i hi => h i (by omega)), h n (by omega)]
theorem sm_cg {a b : Nat → Nat} {rt n : Nat} (h : ∀ i, i < n → a i = b i) : sm_c a rt n = sm_c b rt n := by
  induction n with
  | zero => rfl
  | succ n ih =>
    show sm_c a rt n ++ (if a n % rt = 0 then [nI (a n)] else []) = sm_c b rt n ++ (if b n % rt = 0 then [nI (b n)] else [])
    rw [ih (fun i hi => h i (by omega)), h n (by omega)]
theorem ic_cg {np rt pl : Nat} {NM NM' : Nat → List Int32} {ln ln' tr tr' : Nat → Int32} {so so' : Nat → Nat} (h1 : ∀ p, p < np → NM p = NM' p) (h2 : ∀ p, p < np → ln p = ln' p) (h3 : ∀ i, i < pl → tr i = tr' i) (h4 : ∀ i, i < pl → so i = so' i) : ic_c np NM ln rt tr so pl = ic_c np NM' ln' rt tr' so' pl := by
  have e : im_c np NM ln rt tr so pl = im_c np NM' ln' rt tr' so' pl := by
    unfold im_c
    rw [dp_cg h1 h2, tk_cg h3, sm_cg h4]
  unfold ic_c
  rw [e]
theorem bf_cg {G G' : Nat → Int32} {so so' : Nat → Nat} {pl j : Nat} (hG : ∀ p, p < pl → G p = G' p) (hs : so j = so' j) (hl : so j < pl) : bf_c G so j = bf_c G' so' j := by
  unfold bf_c
  rw [← hs]
  split
  · rfl
  · exact hG _ (by omega)
/-- a row for every layout -/
theorem ly_ex (n : Nat) (q : Nat → Nat) (B : Nat → Nat → Int32) : ∃ G, ly_p n q B G := by
  induction n with
  | zero => exact ⟨fun _ => 0, fun p hp => absurd hp (Nat.not_lt_zero p)⟩
  | succ n ih =>
    obtain ⟨G, hG⟩ := ih
    refine ⟨fun j => if j + 1 < tt_c q n + n then G j else if j < tt_c q n + n then 1 else if j < tt_c q n + n + q n then B n (j - (tt_c q n + n)) else 0, ly_add hG (fun j hj => if_pos hj) (fun h0 => ?_) (fun t ht => ?_) ?_⟩
    · rw [if_neg (by omega), if_pos (by omega)]
    · rw [if_neg (by omega), if_neg (by omega), if_pos (by omega), show tt_c q n + n + t - (tt_c q n + n) = t by omega]
    · rw [if_neg (by omega), if_neg (by omega), if_neg (by omega)]
theorem so_ex {G of1 : Nat → Int32} {pl : Nat} (hk : rw_k (ky_c G) pl) (h : ∀ j, j < pl → of1 (rk_a (ky_c G) pl j) = nI j) : ∃ so : Nat → Nat, (∀ j, j < pl → of1 j = nI (so j) ∧ so j < pl) ∧ iv_p G pl so := by
  have key : ∀ j, ∃ i, j < pl → i < pl ∧ rk_a (ky_c G) pl i = j := fun j => by
    by_cases hj : j < pl
    · obtain ⟨i, hi, e⟩ := ij_onto (rk_ij hk) j hj
      exact ⟨i, fun _ => ⟨hi, e⟩⟩
    · exact ⟨0, fun z => absurd z hj⟩
  refine ⟨fun j => Classical.choose (key j), fun j hj => ?_, fun j hj => ?_⟩
  · have := Classical.choose_spec (key j) hj
    refine ⟨?_, this.1⟩
    have e := h _ this.1
    rw [this.2] at e
    exact e
  · have hr := (rk_ij hk).1 j hj
    have := Classical.choose_spec (key (rk_a (ky_c G) pl j)) hr
    exact (rk_ij hk).2 _ j this.1 hj this.2
