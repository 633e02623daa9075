/-! the reference: an image is taken -/
theorem tb_1 {q : Nat → Nat} {bf uf : Nat → Int32} {b k j : Nat} {x : Int32} (hb : b = tt_c q k + j) (h : ∀ p, p < k → ∀ t, t < q p → bf (tt_c q p + t) = uf (tt_c q p + p + t) ∧ ¬ uf (tt_c q p + p + t) < 2) : ∀ p, p < k → ∀ t, t < q p → upd bf b x (tt_c q p + t) = uf (tt_c q p + p + t) ∧ ¬ uf (tt_c q p + p + t) < 2 := fun p hp t ht => by
  have a : tt_c q (p + 1) ≤ tt_c q k := tt_mono q hp
  have c : tt_c q (p + 1) = tt_c q p + q p := rfl
  rw [pk_un (by omega)]
  exact h p hp t ht
theorem tb_2 {q : Nat → Nat} {bf uf : Nat → Int32} {b k j : Nat} {x : Int32} (hb : b = tt_c q k + j) (h : ∀ t, t < j → bf (tt_c q k + t) = uf (tt_c q k + k + t) ∧ ¬ uf (tt_c q k + k + t) < 2) (hx : x = uf (tt_c q k + k + j)) (h2 : ¬ uf (tt_c q k + k + j) < 2) : ∀ t, t < j + 1 → upd bf b x (tt_c q k + t) = uf (tt_c q k + k + t) ∧ ¬ uf (tt_c q k + k + t) < 2 := fun t ht => by
  by_cases e : t = j
  · subst e; rw [← hb, pk_us]; exact ⟨hx, h2⟩
  · rw [pk_un (by omega)]; exact h t (by omega)
theorem ti_in {q : Nat → Nat} {p n t : Nat} (h : p < n) (ht : t < q p) : tt_c q p + p + t < tt_c q n + n := by
  have a : tt_c q (p + 1) ≤ tt_c q n := tt_mono q h
  have c : tt_c q (p + 1) = tt_c q p + q p := rfl
  omega
theorem ti_s5 {x y : Int32} (h : x = y ∧ ¬ y < 2) (h6 : y ≤ 6) : s5_p x := by
  rw [h.1]
  have a := mt Int32.lt_iff_toInt_lt.mpr h.2
  have b := Int32.le_iff_toInt_le.mp h6
  have c : (2 : Int32).toInt = 2 := rfl
  have d : (6 : Int32).toInt = 6 := rfl
  have e : y.toInt = 2 ∨ y.toInt = 3 ∨ y.toInt = 4 ∨ y.toInt = 5 ∨ y.toInt = 6 := by omega
  rcases e with e | e | e | e | e
  · exact Or.inl (Int32.toInt_inj.mp e)
  · exact Or.inr (Or.inl (Int32.toInt_inj.mp e))
  · exact Or.inr (Or.inr (Or.inl (Int32.toInt_inj.mp e)))
  · exact Or.inr (Or.inr (Or.inr (Or.inl (Int32.toInt_inj.mp e))))
  · exact Or.inr (Or.inr (Or.inr (Or.inr (Int32.toInt_inj.mp e))))
section
variable {J : List Int32} {np tot : Nat} {BS : Nat → List Int32} {G bf : Nat → Int32}
theorem ti_vq (hrp : rp_ok J) (hnp : np = bn_c J 3) (hbl : bl_c BS = qz_c J) (hBS : BS = fun p => tk_c (fun t => bf (tt_c (qz_c J) p + t)) (qz_c J p)) (h5 : ∀ p, p < np → ∀ t, t < qz_c J p → s5_p (bf (tt_c (qz_c J) p + t))) : vq_p np (nz_c J) BS := by
  have hrj : ∀ j, j < np → rj_p J j := fun j hj => hrp.2.2 j (by omega)
  refine ⟨by rw [hnp]; exact hrp.2.1, by rw [hbl]; exact tt_le hrj, fun p hp => ⟨?_, ?_, fun t ht => ?_⟩, fun i j hi hj => (hrj j hj).2.1 i hi⟩
  · obtain ⟨⟨a, b, c, d⟩, _⟩ := hrj p hp
    have e : (nz_c J p).length = bn_c J (po_c J p) := by unfold nz_c; rw [sl_len c]; omega
    refine ⟨by omega, by omega, fun j hj => ?_⟩
    unfold nz_c
    rw [sl_get (by omega)]
    exact d _ (by omega) (by omega)
  · rw [show (BS p).length = qz_c J p from congrFun hbl p]; exact (hrj p hp).2.2.1
  · rw [show (BS p).length = qz_c J p from congrFun hbl p] at ht
    rw [hBS]
    show s5_p ((tk_c _ _).getD t 0)
    rw [tk_get ht]
    exact h5 p hp t ht
theorem ly_cB {n : Nat} {q : Nat → Nat} {B B' : Nat → Nat → Int32} {r : Nat → Int32} (h : ly_p n q B r) (hB : ∀ p, p < n → ∀ t, t < q p → B p t = B' p t) : ly_p n q B' r := fun p hp => ⟨fun t ht => ((h p hp).1 t ht).trans (hB p hp t ht), (h p hp).2⟩
theorem ti_gr (hbl : bl_c BS = qz_c J) (hBS : BS = fun p => tk_c (fun t => bf (tt_c (qz_c J) p + t)) (qz_c J p)) (hG : ly_p np (qz_c J) (fun p t => bf (tt_c (qz_c J) p + t)) G) : gr_p np BS G := by
  unfold gr_p
  rw [hbl]
  refine ly_cB hG (fun p hp t ht => ?_)
  rw [hBS]
  show _ = (tk_c _ _).getD t 0
  rw [tk_get ht]
theorem ti_rq {bc : Nat → Int32} (hbl : bl_c BS = qz_c J) (hBS : BS = fun p => tk_c (fun t => bf (tt_c (qz_c J) p + t)) (qz_c J p)) (hbc : ∀ p, p < np → bc p = nI (qz_c J p)) : ∀ p, p < np → bc p = nI (BS p).length ∧ ∀ t, t < (BS p).length → bf (tt_c (bl_c BS) p + t) = (BS p).getD t 0 := fun p hp => by
  have e : (BS p).length = qz_c J p := congrFun hbl p
  rw [e, hbl]
  refine ⟨hbc p hp, fun t ht => ?_⟩
  rw [hBS]
  show _ = (tk_c _ _).getD t 0
  rw [tk_get ht]
end
section
variable {J : List Int32} {np' rt' : Nat} {NM' BS' : Nat → List Int32} {G' : Nat → Int32} {so' : Nat → Nat} {np tot p : Nat}
theorem ti_u (z : ci_p J np' NM' BS' rt' G' so') (hnp : np = bn_c J 3) (htot : tot = tt_c (qz_c J) np) : np' = np ∧ pl_c np' BS' = tot + np := by
  have e : np' = np := by rw [hnp, ci_3 z]
  subst e
  exact ⟨rfl, by unfold pl_c; rw [htot, ci_tt z (Nat.le_refl _)]⟩
theorem ti_x1 (z : ci_p J np' NM' BS' rt' G' so') (hnp : np = bn_c J 3) (htot : tot = tt_c (qz_c J) np) (hp : p = po_c J np) : 1 ≤ bn_c J p ∧ bn_c J p ≤ 8 := by
  have e := (ti_u z hnp htot).1
  subst e
  have a := (ci_t z).1
  have b := z.2.2.1
  unfold bn_c
  rw [hp, a, nI_clamp (by omega)]
  exact b
theorem ti_x2 (z : ci_p J np' NM' BS' rt' G' so') (hnp : np = bn_c J 3) (htot : tot = tt_c (qz_c J) np) (hp : p = po_c J np) : p + 1 + (tot + np) ≤ J.length := by
  obtain ⟨e, e2⟩ := ti_u z hnp htot
  subst e
  rw [hp, ← e2]
  exact (ci_t z).2.2
theorem ti_x3 (z : ci_p J np' NM' BS' rt' G' so') (hnp : np = bn_c J 3) (htot : tot = tt_c (qz_c J) np) (hp : p = po_c J np) : un_p J (p + 1) (tot + np) G' := by
  obtain ⟨e, e2⟩ := ti_u z hnp htot
  subst e
  rw [hp, ← e2]
  exact ci_un z
theorem ti_g (z : ci_p J np' NM' BS' rt' G' so') (hnp : np = bn_c J 3) (htot : tot = tt_c (qz_c J) np) {k j : Nat} (hk : k < np) (hj : j < qz_c J k) : G' (tt_c (qz_c J) k + k + j) = (BS' k).getD j 0 ∧ s5_p ((BS' k).getD j 0) := by
  have e := (ti_u z hnp htot).1
  subst e
  have a := (z.2.2.2.1 k hk).1 j (by show j < (BS' k).length; rw [← (ci_nz z hk).2.2]; exact hj)
  rw [ci_tt z (Nat.le_of_lt hk)]
  exact ⟨a, (z.2.1.2.2.1 k hk).2.2 j (by rw [← (ci_nz z hk).2.2]; exact hj)⟩
theorem ti_x4 (z : ci_p J np' NM' BS' rt' G' so') (hnp : np = bn_c J 3) (htot : tot = tt_c (qz_c J) np) (hp : p = po_c J np) {uf : Nat → Int32} (hun : ∀ G, un_p J (p + 1) (tot + np) G → ∀ i, i < tot + np → uf i = G i) {k j : Nat} (hk : k < np) (hj : j < qz_c J k) (h : uf (tt_c (qz_c J) k + k + j) < 2) : False := by
  have a := ti_g z hnp htot hk hj
  have b := ti_in (q := qz_c J) hk hj
  rw [hun G' (ti_x3 z hnp htot hp) _ (by omega), a.1] at h
  have c := s5_v a.2
  have d := Int32.lt_iff_toInt_lt.mp h
  have e : (2 : Int32).toInt = 2 := rfl
  omega
theorem ti_eq (z : ci_p J np' NM' BS' rt' G' so') (hnp : np = bn_c J 3) (htot : tot = tt_c (qz_c J) np) (hp : p = po_c J np) {BS : Nat → List Int32} {G bf uf : Nat → Int32} {so : Nat → Nat} {rt : Nat} (hbl : bl_c BS = qz_c J) (hG : ly_p np (qz_c J) (fun p t => bf (tt_c (qz_c J) p + t)) G) (hb : ∀ p, p < np → ∀ t, t < qz_c J p → bf (tt_c (qz_c J) p + t) = uf (tt_c (qz_c J) p + p + t))
    (hun : ∀ G, un_p J (p + 1) (tot + np) G → ∀ i, i < tot + np → uf i = G i) (hiv : iv_p G (tot + np) so) (hk : rw_k (ky_c G) (tot + np)) (hrt : rt = bn_c J p) : ic_c np (nz_c J) (ln_c BS) rt (bf_c G so) so (tot + np) = J := by
  have hu := hun G' (ti_x3 z hnp htot hp)
  obtain ⟨e, e2⟩ := ti_u z hnp htot
  subst e
  have eq : ∀ i, i < np' → (BS' i).length = qz_c J i := fun i hi => (ci_nz z hi).2.2.symm
  have hGG : ∀ i, i < tot + np' → G i = G' i := fun i hi => by
    have h1 : ly_p np' (qz_c J) (fun p t => (BS' p).getD t 0) G := ly_cB hG (fun p hp t ht => by
      have a := ti_g z hnp htot hp ht
      have b := ti_in (q := qz_c J) hp ht
      show bf (tt_c (qz_c J) p + t) = _
      rw [hb p hp t ht, hu _ (by omega), a.1])
    have h2 : ly_p np' (qz_c J) (fun p t => (BS' p).getD t 0) G' := fun p hp => by
      have a := z.2.2.2.1 p hp
      rw [show bl_c BS' p = qz_c J p from eq p hp, ← ci_tt z (Nat.le_of_lt hp)] at a
      exact a
    exact ly_un h1 h2 (by omega)
  have ht : rt = rt' := by
    rw [hrt]
    unfold bn_c
    rw [hp, (ci_t z).1, nI_clamp (by have := z.2.2.1; omega)]
  have hso : ∀ i, i < tot + np' → so i = so' i := fun i hi => iv_un hk hGG hiv (e2 ▸ z.2.2.2.2.1) hi
  have e3 : J = ic_c np' NM' (ln_c BS') rt' (bf_c G' so') so' (tot + np') := by rw [← e2]; exact z.2.2.2.2.2
  rw [ht]
  refine Eq.trans (ic_cg (fun i hi => (ci_nz z hi).2.1) (fun i hi => ?_) (fun i hi => bf_cg hGG (hso i hi) (iv_lt hk hiv hi)) hso) e3.symm
  show nI (BS i).length = nI (BS' i).length
  rw [eq i hi, show (BS i).length = qz_c J i from congrFun hbl i]
end

theorem d_Mo_takeImage_0 : decode b_Mo_takeImage 0 = .ok (.aload_n 0, 1) := by decide +kernel
theorem d_Mo_takeImage_1 : decode b_Mo_takeImage 1 = .ok (.invokevirtual 251, 3) := by decide +kernel
theorem d_Mo_takeImage_4 : decode b_Mo_takeImage 4 = .ok (.istore_n 1, 1) := by decide +kernel
theorem d_Mo_takeImage_5 : decode b_Mo_takeImage 5 = .ok (.iload_n 1, 1) := by decide +kernel
theorem d_Mo_takeImage_6 : decode b_Mo_takeImage 6 = .ok (.ifCond .ge 5, 3) := by decide +kernel
theorem d_Mo_takeImage_9 : decode b_Mo_takeImage 9 = .ok (.iconst 0, 1) := by decide +kernel
theorem d_Mo_takeImage_10 : decode b_Mo_takeImage 10 = .ok (.ireturn, 1) := by decide +kernel
theorem d_Mo_takeImage_11 : decode b_Mo_takeImage 11 = .ok (.aload_n 0, 1) := by decide +kernel
theorem d_Mo_takeImage_12 : decode b_Mo_takeImage 12 = .ok (.aload_n 0, 1) := by decide +kernel
theorem d_Mo_takeImage_13 : decode b_Mo_takeImage 13 = .ok (.iload_n 1, 1) := by decide +kernel
theorem d_Mo_takeImage_14 : decode b_Mo_takeImage 14 = .ok (.invokevirtual 245, 3) := by decide +kernel
theorem d_Mo_takeImage_17 : decode b_Mo_takeImage 17 = .ok (.putfield 135, 3) := by decide +kernel
theorem d_Mo_takeImage_20 : decode b_Mo_takeImage 20 = .ok (.aload_n 0, 1) := by decide +kernel
theorem d_Mo_takeImage_21 : decode b_Mo_takeImage 21 = .ok (.getfield 116, 3) := by decide +kernel
theorem d_Mo_takeImage_24 : decode b_Mo_takeImage 24 = .ok (.aload_n 0, 1) := by decide +kernel
theorem d_Mo_takeImage_25 : decode b_Mo_takeImage 25 = .ok (.getfield 97, 3) := by decide +kernel
theorem d_Mo_takeImage_28 : decode b_Mo_takeImage 28 = .ok (.iadd, 1) := by decide +kernel
theorem d_Mo_takeImage_29 : decode b_Mo_takeImage 29 = .ok (.istore_n 2, 1) := by decide +kernel
theorem d_Mo_takeImage_30 : decode b_Mo_takeImage 30 = .ok (.aload_n 0, 1) := by decide +kernel
theorem d_Mo_takeImage_31 : decode b_Mo_takeImage 31 = .ok (.getfield 135, 3) := by decide +kernel
theorem d_Mo_takeImage_34 : decode b_Mo_takeImage 34 = .ok (.iconst 1, 1) := by decide +kernel
theorem d_Mo_takeImage_35 : decode b_Mo_takeImage 35 = .ok (.if_icmp .lt 35, 3) := by decide +kernel
theorem d_Mo_takeImage_38 : decode b_Mo_takeImage 38 = .ok (.aload_n 0, 1) := by decide +kernel
theorem d_Mo_takeImage_39 : decode b_Mo_takeImage 39 = .ok (.getfield 135, 3) := by decide +kernel
theorem d_Mo_takeImage_42 : decode b_Mo_takeImage 42 = .ok (.bipush 8, 2) := by decide +kernel
theorem d_Mo_takeImage_44 : decode b_Mo_takeImage 44 = .ok (.if_icmp .gt 26, 3) := by decide +kernel
theorem d_Mo_takeImage_47 : decode b_Mo_takeImage 47 = .ok (.iload_n 1, 1) := by decide +kernel
theorem d_Mo_takeImage_48 : decode b_Mo_takeImage 48 = .ok (.iconst 1, 1) := by decide +kernel
theorem d_Mo_takeImage_49 : decode b_Mo_takeImage 49 = .ok (.iadd, 1) := by decide +kernel
theorem d_Mo_takeImage_50 : decode b_Mo_takeImage 50 = .ok (.iload_n 2, 1) := by decide +kernel
theorem d_Mo_takeImage_51 : decode b_Mo_takeImage 51 = .ok (.iadd, 1) := by decide +kernel
theorem d_Mo_takeImage_52 : decode b_Mo_takeImage 52 = .ok (.aload_n 0, 1) := by decide +kernel
theorem d_Mo_takeImage_53 : decode b_Mo_takeImage 53 = .ok (.getfield 230, 3) := by decide +kernel
theorem d_Mo_takeImage_56 : decode b_Mo_takeImage 56 = .ok (.if_icmp .gt 14, 3) := by decide +kernel
theorem d_Mo_takeImage_59 : decode b_Mo_takeImage 59 = .ok (.aload_n 0, 1) := by decide +kernel
theorem d_Mo_takeImage_60 : decode b_Mo_takeImage 60 = .ok (.iload_n 1, 1) := by decide +kernel
theorem d_Mo_takeImage_61 : decode b_Mo_takeImage 61 = .ok (.iconst 1, 1) := by decide +kernel
theorem d_Mo_takeImage_62 : decode b_Mo_takeImage 62 = .ok (.iadd, 1) := by decide +kernel
theorem d_Mo_takeImage_63 : decode b_Mo_takeImage 63 = .ok (.iload_n 2, 1) := by decide +kernel
theorem d_Mo_takeImage_64 : decode b_Mo_takeImage 64 = .ok (.invokevirtual 254, 3) := by decide +kernel
theorem d_Mo_takeImage_67 : decode b_Mo_takeImage 67 = .ok (.ifCond .ne 5, 3) := by decide +kernel
theorem d_Mo_takeImage_70 : decode b_Mo_takeImage 70 = .ok (.iconst 0, 1) := by decide +kernel
theorem d_Mo_takeImage_71 : decode b_Mo_takeImage 71 = .ok (.ireturn, 1) := by decide +kernel
theorem d_Mo_takeImage_72 : decode b_Mo_takeImage 72 = .ok (.iconst 0, 1) := by decide +kernel
theorem d_Mo_takeImage_73 : decode b_Mo_takeImage 73 = .ok (.istore_n 3, 1) := by decide +kernel
theorem d_Mo_takeImage_74 : decode b_Mo_takeImage 74 = .ok (.iconst 0, 1) := by decide +kernel
theorem d_Mo_takeImage_75 : decode b_Mo_takeImage 75 = .ok (.istore 4, 2) := by decide +kernel
theorem d_Mo_takeImage_77 : decode b_Mo_takeImage 77 = .ok (.iconst 0, 1) := by decide +kernel
theorem d_Mo_takeImage_78 : decode b_Mo_takeImage 78 = .ok (.istore 5, 2) := by decide +kernel
theorem d_Mo_takeImage_80 : decode b_Mo_takeImage 80 = .ok (.iload 5, 2) := by decide +kernel
theorem d_Mo_takeImage_82 : decode b_Mo_takeImage 82 = .ok (.aload_n 0, 1) := by decide +kernel
theorem d_Mo_takeImage_83 : decode b_Mo_takeImage 83 = .ok (.getfield 97, 3) := by decide +kernel
theorem d_Mo_takeImage_86 : decode b_Mo_takeImage 86 = .ok (.if_icmp .ge 76, 3) := by decide +kernel
theorem d_Mo_takeImage_89 : decode b_Mo_takeImage 89 = .ok (.iconst 0, 1) := by decide +kernel
theorem d_Mo_takeImage_90 : decode b_Mo_takeImage 90 = .ok (.istore 6, 2) := by decide +kernel
theorem d_Mo_takeImage_92 : decode b_Mo_takeImage 92 = .ok (.iload 6, 2) := by decide +kernel
theorem d_Mo_takeImage_94 : decode b_Mo_takeImage 94 = .ok (.aload_n 0, 1) := by decide +kernel
theorem d_Mo_takeImage_95 : decode b_Mo_takeImage 95 = .ok (.getfield 20, 3) := by decide +kernel
theorem d_Mo_takeImage_98 : decode b_Mo_takeImage 98 = .ok (.iload 5, 2) := by decide +kernel
theorem d_Mo_takeImage_100 : decode b_Mo_takeImage 100 = .ok (.iaload, 1) := by decide +kernel
theorem d_Mo_takeImage_101 : decode b_Mo_takeImage 101 = .ok (.if_icmp .ge 43, 3) := by decide +kernel
theorem d_Mo_takeImage_104 : decode b_Mo_takeImage 104 = .ok (.aload_n 0, 1) := by decide +kernel
theorem d_Mo_takeImage_105 : decode b_Mo_takeImage 105 = .ok (.getfield 77, 3) := by decide +kernel
theorem d_Mo_takeImage_108 : decode b_Mo_takeImage 108 = .ok (.iload_n 3, 1) := by decide +kernel
theorem d_Mo_takeImage_109 : decode b_Mo_takeImage 109 = .ok (.iload 6, 2) := by decide +kernel
theorem d_Mo_takeImage_111 : decode b_Mo_takeImage 111 = .ok (.iadd, 1) := by decide +kernel
theorem d_Mo_takeImage_112 : decode b_Mo_takeImage 112 = .ok (.iaload, 1) := by decide +kernel
theorem d_Mo_takeImage_113 : decode b_Mo_takeImage 113 = .ok (.iconst 2, 1) := by decide +kernel
theorem d_Mo_takeImage_114 : decode b_Mo_takeImage 114 = .ok (.if_icmp .ge 5, 3) := by decide +kernel
theorem d_Mo_takeImage_117 : decode b_Mo_takeImage 117 = .ok (.iconst 0, 1) := by decide +kernel
theorem d_Mo_takeImage_118 : decode b_Mo_takeImage 118 = .ok (.ireturn, 1) := by decide +kernel
theorem d_Mo_takeImage_119 : decode b_Mo_takeImage 119 = .ok (.aload_n 0, 1) := by decide +kernel
theorem d_Mo_takeImage_120 : decode b_Mo_takeImage 120 = .ok (.getfield 23, 3) := by decide +kernel
theorem d_Mo_takeImage_123 : decode b_Mo_takeImage 123 = .ok (.iload 4, 2) := by decide +kernel
theorem d_Mo_takeImage_125 : decode b_Mo_takeImage 125 = .ok (.aload_n 0, 1) := by decide +kernel
theorem d_Mo_takeImage_126 : decode b_Mo_takeImage 126 = .ok (.getfield 77, 3) := by decide +kernel
theorem d_Mo_takeImage_129 : decode b_Mo_takeImage 129 = .ok (.iload_n 3, 1) := by decide +kernel
theorem d_Mo_takeImage_130 : decode b_Mo_takeImage 130 = .ok (.iload 6, 2) := by decide +kernel
theorem d_Mo_takeImage_132 : decode b_Mo_takeImage 132 = .ok (.iadd, 1) := by decide +kernel
theorem d_Mo_takeImage_133 : decode b_Mo_takeImage 133 = .ok (.iaload, 1) := by decide +kernel
theorem d_Mo_takeImage_134 : decode b_Mo_takeImage 134 = .ok (.iastore, 1) := by decide +kernel
theorem d_Mo_takeImage_135 : decode b_Mo_takeImage 135 = .ok (.iinc 4 1, 3) := by decide +kernel
theorem d_Mo_takeImage_138 : decode b_Mo_takeImage 138 = .ok (.iinc 6 1, 3) := by decide +kernel
theorem d_Mo_takeImage_141 : decode b_Mo_takeImage 141 = .ok (.goto (-49), 3) := by decide +kernel
theorem d_Mo_takeImage_144 : decode b_Mo_takeImage 144 = .ok (.iload_n 3, 1) := by decide +kernel
theorem d_Mo_takeImage_145 : decode b_Mo_takeImage 145 = .ok (.aload_n 0, 1) := by decide +kernel
theorem d_Mo_takeImage_146 : decode b_Mo_takeImage 146 = .ok (.getfield 20, 3) := by decide +kernel
theorem d_Mo_takeImage_149 : decode b_Mo_takeImage 149 = .ok (.iload 5, 2) := by decide +kernel
theorem d_Mo_takeImage_151 : decode b_Mo_takeImage 151 = .ok (.iaload, 1) := by decide +kernel
theorem d_Mo_takeImage_152 : decode b_Mo_takeImage 152 = .ok (.iadd, 1) := by decide +kernel
theorem d_Mo_takeImage_153 : decode b_Mo_takeImage 153 = .ok (.iconst 1, 1) := by decide +kernel
theorem d_Mo_takeImage_154 : decode b_Mo_takeImage 154 = .ok (.iadd, 1) := by decide +kernel
theorem d_Mo_takeImage_155 : decode b_Mo_takeImage 155 = .ok (.istore_n 3, 1) := by decide +kernel
theorem d_Mo_takeImage_156 : decode b_Mo_takeImage 156 = .ok (.iinc 5 1, 3) := by decide +kernel
theorem d_Mo_takeImage_159 : decode b_Mo_takeImage 159 = .ok (.goto (-79), 3) := by decide +kernel
theorem d_Mo_takeImage_162 : decode b_Mo_takeImage 162 = .ok (.aload_n 0, 1) := by decide +kernel
theorem d_Mo_takeImage_163 : decode b_Mo_takeImage 163 = .ok (.invokevirtual 138, 3) := by decide +kernel
theorem d_Mo_takeImage_166 : decode b_Mo_takeImage 166 = .ok (.aload_n 0, 1) := by decide +kernel
theorem d_Mo_takeImage_167 : decode b_Mo_takeImage 167 = .ok (.invokevirtual 227, 3) := by decide +kernel
theorem d_Mo_takeImage_170 : decode b_Mo_takeImage 170 = .ok (.aload_n 0, 1) := by decide +kernel
theorem d_Mo_takeImage_171 : decode b_Mo_takeImage 171 = .ok (.getfield 221, 3) := by decide +kernel
theorem d_Mo_takeImage_174 : decode b_Mo_takeImage 174 = .ok (.aload_n 0, 1) := by decide +kernel
theorem d_Mo_takeImage_175 : decode b_Mo_takeImage 175 = .ok (.getfield 230, 3) := by decide +kernel
theorem d_Mo_takeImage_178 : decode b_Mo_takeImage 178 = .ok (.if_icmp .ne 7, 3) := by decide +kernel
theorem d_Mo_takeImage_181 : decode b_Mo_takeImage 181 = .ok (.iconst 1, 1) := by decide +kernel
theorem d_Mo_takeImage_182 : decode b_Mo_takeImage 182 = .ok (.goto 4, 3) := by decide +kernel
theorem d_Mo_takeImage_185 : decode b_Mo_takeImage 185 = .ok (.iconst 0, 1) := by decide +kernel
theorem d_Mo_takeImage_186 : decode b_Mo_takeImage 186 = .ok (.istore 5, 2) := by decide +kernel
theorem d_Mo_takeImage_188 : decode b_Mo_takeImage 188 = .ok (.iconst 0, 1) := by decide +kernel
theorem d_Mo_takeImage_189 : decode b_Mo_takeImage 189 = .ok (.istore 6, 2) := by decide +kernel
theorem d_Mo_takeImage_191 : decode b_Mo_takeImage 191 = .ok (.iload 6, 2) := by decide +kernel
theorem d_Mo_takeImage_193 : decode b_Mo_takeImage 193 = .ok (.aload_n 0, 1) := by decide +kernel
theorem d_Mo_takeImage_194 : decode b_Mo_takeImage 194 = .ok (.getfield 221, 3) := by decide +kernel
theorem d_Mo_takeImage_197 : decode b_Mo_takeImage 197 = .ok (.if_icmp .ge 38, 3) := by decide +kernel
theorem d_Mo_takeImage_200 : decode b_Mo_takeImage 200 = .ok (.iload 5, 2) := by decide +kernel
theorem d_Mo_takeImage_202 : decode b_Mo_takeImage 202 = .ok (.ifCond .eq 33, 3) := by decide +kernel
theorem d_Mo_takeImage_205 : decode b_Mo_takeImage 205 = .ok (.aload_n 0, 1) := by decide +kernel
theorem d_Mo_takeImage_206 : decode b_Mo_takeImage 206 = .ok (.getfield 56, 3) := by decide +kernel
theorem d_Mo_takeImage_209 : decode b_Mo_takeImage 209 = .ok (.iload 6, 2) := by decide +kernel
theorem d_Mo_takeImage_211 : decode b_Mo_takeImage 211 = .ok (.iaload, 1) := by decide +kernel
theorem d_Mo_takeImage_212 : decode b_Mo_takeImage 212 = .ok (.aload_n 0, 1) := by decide +kernel
theorem d_Mo_takeImage_213 : decode b_Mo_takeImage 213 = .ok (.getfield 53, 3) := by decide +kernel
theorem d_Mo_takeImage_216 : decode b_Mo_takeImage 216 = .ok (.iload 6, 2) := by decide +kernel
theorem d_Mo_takeImage_218 : decode b_Mo_takeImage 218 = .ok (.iaload, 1) := by decide +kernel
theorem d_Mo_takeImage_219 : decode b_Mo_takeImage 219 = .ok (.if_icmp .ne 7, 3) := by decide +kernel
theorem d_Mo_takeImage_222 : decode b_Mo_takeImage 222 = .ok (.iconst 1, 1) := by decide +kernel
theorem d_Mo_takeImage_223 : decode b_Mo_takeImage 223 = .ok (.goto 4, 3) := by decide +kernel
theorem d_Mo_takeImage_226 : decode b_Mo_takeImage 226 = .ok (.iconst 0, 1) := by decide +kernel
theorem d_Mo_takeImage_227 : decode b_Mo_takeImage 227 = .ok (.istore 5, 2) := by decide +kernel
theorem d_Mo_takeImage_229 : decode b_Mo_takeImage 229 = .ok (.iinc 6 1, 3) := by decide +kernel
theorem d_Mo_takeImage_232 : decode b_Mo_takeImage 232 = .ok (.goto (-41), 3) := by decide +kernel
theorem d_Mo_takeImage_235 : decode b_Mo_takeImage 235 = .ok (.iload 5, 2) := by decide +kernel
theorem d_Mo_takeImage_237 : decode b_Mo_takeImage 237 = .ok (.ireturn, 1) := by decide +kernel
theorem d_Mo_load_0 : decode b_Mo_load 0 = .ok (.aload_n 0, 1) := by decide +kernel
theorem d_Mo_load_1 : decode b_Mo_load 1 = .ok (.getfield 230, 3) := by decide +kernel
theorem d_Mo_load_4 : decode b_Mo_load 4 = .ok (.bipush 8, 2) := by decide +kernel
theorem d_Mo_load_6 : decode b_Mo_load 6 = .ok (.if_icmp .lt 39, 3) := by decide +kernel
theorem d_Mo_load_9 : decode b_Mo_load 9 = .ok (.aload_n 0, 1) := by decide +kernel
theorem d_Mo_load_10 : decode b_Mo_load 10 = .ok (.getfield 53, 3) := by decide +kernel
theorem d_Mo_load_13 : decode b_Mo_load 13 = .ok (.iconst 0, 1) := by decide +kernel
theorem d_Mo_load_14 : decode b_Mo_load 14 = .ok (.iaload, 1) := by decide +kernel
theorem d_Mo_load_15 : decode b_Mo_load 15 = .ok (.bipush 70, 2) := by decide +kernel
theorem d_Mo_load_17 : decode b_Mo_load 17 = .ok (.if_icmp .ne 28, 3) := by decide +kernel
theorem d_Mo_load_20 : decode b_Mo_load 20 = .ok (.aload_n 0, 1) := by decide +kernel
theorem d_Mo_load_21 : decode b_Mo_load 21 = .ok (.getfield 53, 3) := by decide +kernel
theorem d_Mo_load_24 : decode b_Mo_load 24 = .ok (.iconst 1, 1) := by decide +kernel
theorem d_Mo_load_25 : decode b_Mo_load 25 = .ok (.iaload, 1) := by decide +kernel
theorem d_Mo_load_26 : decode b_Mo_load 26 = .ok (.bipush 77, 2) := by decide +kernel
theorem d_Mo_load_28 : decode b_Mo_load 28 = .ok (.if_icmp .ne 17, 3) := by decide +kernel
theorem d_Mo_load_31 : decode b_Mo_load 31 = .ok (.aload_n 0, 1) := by decide +kernel
theorem d_Mo_load_32 : decode b_Mo_load 32 = .ok (.getfield 53, 3) := by decide +kernel
theorem d_Mo_load_35 : decode b_Mo_load 35 = .ok (.iconst 2, 1) := by decide +kernel
theorem d_Mo_load_36 : decode b_Mo_load 36 = .ok (.iaload, 1) := by decide +kernel
theorem d_Mo_load_37 : decode b_Mo_load 37 = .ok (.iconst 1, 1) := by decide +kernel
theorem d_Mo_load_38 : decode b_Mo_load 38 = .ok (.if_icmp .ne 7, 3) := by decide +kernel
theorem d_Mo_load_41 : decode b_Mo_load 41 = .ok (.iconst 1, 1) := by decide +kernel
theorem d_Mo_load_42 : decode b_Mo_load 42 = .ok (.goto 4, 3) := by decide +kernel
theorem d_Mo_load_45 : decode b_Mo_load 45 = .ok (.iconst 0, 1) := by decide +kernel
theorem d_Mo_load_46 : decode b_Mo_load 46 = .ok (.istore_n 1, 1) := by decide +kernel
theorem d_Mo_load_47 : decode b_Mo_load 47 = .ok (.aload_n 0, 1) := by decide +kernel
theorem d_Mo_load_48 : decode b_Mo_load 48 = .ok (.iload_n 1, 1) := by decide +kernel
theorem d_Mo_load_49 : decode b_Mo_load 49 = .ok (.ifCond .eq 7, 3) := by decide +kernel
theorem d_Mo_load_52 : decode b_Mo_load 52 = .ok (.iconst 0, 1) := by decide +kernel
theorem d_Mo_load_53 : decode b_Mo_load 53 = .ok (.goto 4, 3) := by decide +kernel
theorem d_Mo_load_56 : decode b_Mo_load 56 = .ok (.iconst 1, 1) := by decide +kernel
theorem d_Mo_load_57 : decode b_Mo_load 57 = .ok (.putfield 80, 3) := by decide +kernel
theorem d_Mo_load_60 : decode b_Mo_load 60 = .ok (.iload_n 1, 1) := by decide +kernel
theorem d_Mo_load_61 : decode b_Mo_load 61 = .ok (.ifCond .ne 5, 3) := by decide +kernel
theorem d_Mo_load_64 : decode b_Mo_load 64 = .ok (.iconst 0, 1) := by decide +kernel
theorem d_Mo_load_65 : decode b_Mo_load 65 = .ok (.ireturn, 1) := by decide +kernel
theorem d_Mo_load_66 : decode b_Mo_load 66 = .ok (.aload_n 0, 1) := by decide +kernel
theorem d_Mo_load_67 : decode b_Mo_load 67 = .ok (.iconst 0, 1) := by decide +kernel
theorem d_Mo_load_68 : decode b_Mo_load 68 = .ok (.invokevirtual 257, 3) := by decide +kernel
theorem d_Mo_load_71 : decode b_Mo_load 71 = .ok (.aload_n 0, 1) := by decide +kernel
theorem d_Mo_load_72 : decode b_Mo_load 72 = .ok (.invokevirtual 261, 3) := by decide +kernel
theorem d_Mo_load_75 : decode b_Mo_load 75 = .ok (.ifCond .ne 15, 3) := by decide +kernel
theorem d_Mo_load_78 : decode b_Mo_load 78 = .ok (.aload_n 0, 1) := by decide +kernel
theorem d_Mo_load_79 : decode b_Mo_load 79 = .ok (.iconst 1, 1) := by decide +kernel
theorem d_Mo_load_80 : decode b_Mo_load 80 = .ok (.invokevirtual 257, 3) := by decide +kernel
theorem d_Mo_load_83 : decode b_Mo_load 83 = .ok (.aload_n 0, 1) := by decide +kernel
theorem d_Mo_load_84 : decode b_Mo_load 84 = .ok (.iconst 2, 1) := by decide +kernel
theorem d_Mo_load_85 : decode b_Mo_load 85 = .ok (.putfield 80, 3) := by decide +kernel
theorem d_Mo_load_88 : decode b_Mo_load 88 = .ok (.iconst 0, 1) := by decide +kernel
theorem d_Mo_load_89 : decode b_Mo_load 89 = .ok (.ireturn, 1) := by decide +kernel
theorem d_Mo_load_90 : decode b_Mo_load 90 = .ok (.aload_n 0, 1) := by decide +kernel
theorem d_Mo_load_91 : decode b_Mo_load 91 = .ok (.iconst 1, 1) := by decide +kernel
theorem d_Mo_load_92 : decode b_Mo_load 92 = .ok (.putfield 112, 3) := by decide +kernel
theorem d_Mo_load_95 : decode b_Mo_load 95 = .ok (.aload_n 0, 1) := by decide +kernel
theorem d_Mo_load_96 : decode b_Mo_load 96 = .ok (.invokevirtual 141, 3) := by decide +kernel
theorem d_Mo_load_99 : decode b_Mo_load 99 = .ok (.aload_n 0, 1) := by decide +kernel
theorem d_Mo_load_100 : decode b_Mo_load 100 = .ok (.getfield 128, 3) := by decide +kernel
theorem d_Mo_load_103 : decode b_Mo_load 103 = .ok (.ireturn, 1) := by decide +kernel
set_option maxHeartbeats 4000000 in
set_option maxRecDepth 100000 in
theorem c_Mo_takeImage (l : Launch) (D : va_G) (cA : Nat → ClassId) (K : Nat → Nat) (mo ta aN aS aC aB aR aO aW aD a1 a2 a3 a4 aL aY aM bN bS bC bB bR bO aU : Nat) (rd mp gd : Bool) (zt ir : Int32) (np tot rt pl sg rn rs nh td ms ip it il : Nat) (L J : List Int32) (yf : Nat → Int32) (nf : Nat → Int32) (sz : Nat → Int32) (bc : Nat → Int32) (bf : Nat → Int32) (rw : Nat → Int32) (of : Nat → Int32) (mf : Nat → Int32) (uf : Nat → Int32) (hj : cd_r 200 yf J) (hby : ∀ j, j < J.length → ∃ k, k < 256 ∧ J.getD j 0 = nI k) (hnc : ∀ z, z < 40 → ch_p (nf z)) (hmf : cd_r 200 mf []) : ck_I l y_Mo_takeImage (Cond.code y_Mo_takeImage b_Mo_takeImage 7 (some .boolean) :: w_all) 3 D cA K [.ref mo] [(mo, .inr (8, [.int zt, .int (nI L.length), .ref ta, .int (nI np), .ref aN, .ref aS, .ref aC, .int (nI tot), .ref aB, .int (bz_c rd), .int (nI rt), .int (nI pl), .ref aR, .ref aO, .int (nI sg), .ref aW, .int (bz_c mp), .int (nI rn), .int (nI rs), .int (bz_c gd), .ref aD, .int (nI nh), .ref a1, .ref a2, .ref a3, .ref a4, .int (nI td), .ref aL, .int (nI J.length), .ref aY, .int (nI ms), .ref aM, .int (nI ip), .int (nI it), .int ir, .int (nI il), .ref bN, .ref bS, .ref bC, .ref bB, .ref bR, .ref bO, .ref aU])), (aY, .inl (cA 0, 200, .inl yf)), (aN, .inl (cA 1, 40, .inl nf)), (aS, .inl (cA 0, 5, .inl sz)), (aC, .inl (cA 0, 5, .inl bc)), (aB, .inl (cA 0, 64, .inl bf)), (aR, .inl (cA 0, 66, .inl rw)), (aO, .inl (cA 0, 66, .inl of)), (aM, .inl (cA 0, 200, .inl mf)), (aU, .inl (cA 0, 66, .inl uf))] (fun (r : Int32) (u : (Nat) × (Nat) × (Int32) × (Nat) × (Nat) × (Nat → Int32) × (Nat → Int32) × (Nat → Int32) × (Nat → Int32) × (Nat → Int32) × (Nat → Int32) × (Nat → Int32) × (Nat → Int32)) => (r = 1 ∧ (∀ z, z < 40 → ch_p (u.2.2.2.2.2.1 z)) ∧ ∃ (NM BS : Nat → List Int32) (rt : Nat) (G : Nat → Int32) (so : Nat → Nat), ci_p J u.1 NM BS rt G so ∧ u.2.2.1 = nI rt ∧ u.2.1 = tt_c (bl_c BS) u.1 ∧ u.2.2.2.1 = u.2.1 + u.1 ∧ rq_p u.1 NM BS u.2.2.2.2.2.1 u.2.2.2.2.2.2.1 u.2.2.2.2.2.2.2.1 u.2.2.2.2.2.2.2.2.1 ∧ (∀ z, z < u.2.2.2.1 → u.2.2.2.2.2.2.2.2.2.1 z = G z) ∧ ∀ j, j < u.2.2.2.1 → u.2.2.2.2.2.2.2.2.2.2.1 j = nI (so j) ∧ so j < u.2.2.2.1) ∨ (r = 0 ∧ (∀ z, z < 40 → ch_p (u.2.2.2.2.2.1 z)) ∧ ∀ (np : Nat) (NM BS : Nat → List Int32) (rt : Nat) (G : Nat → Int32) (so : Nat → Nat), ¬ ci_p J np NM BS rt G so)) (fun u => [(mo, .inr (8, [.int zt, .int (nI L.length), .ref ta, .int (nI u.1), .ref aN, .ref aS, .ref aC, .int (nI u.2.1), .ref aB, .int (bz_c rd), .int u.2.2.1, .int (nI u.2.2.2.1), .ref aR, .ref aO, .int (nI sg), .ref aW, .int (bz_c mp), .int (nI rn), .int (nI rs), .int (bz_c gd), .ref aD, .int (nI nh), .ref a1, .ref a2, .ref a3, .ref a4, .int (nI td), .ref aL, .int (nI J.length), .ref aY, .int (nI u.2.2.2.2.1), .ref aM, .int (nI ip), .int (nI it), .int ir, .int (nI il), .ref bN, .ref bS, .ref bC, .ref bB, .ref bR, .ref bO, .ref aU])), (aY, .inl (cA 0, 200, .inl yf)), (aN, .inl (cA 1, 40, .inl u.2.2.2.2.2.1)), (aS, .inl (cA 0, 5, .inl u.2.2.2.2.2.2.1)), (aC, .inl (cA 0, 5, .inl u.2.2.2.2.2.2.2.1)), (aB, .inl (cA 0, 64, .inl u.2.2.2.2.2.2.2.2.1)), (aR, .inl (cA 0, 66, .inl u.2.2.2.2.2.2.2.2.2.1)), (aO, .inl (cA 0, 66, .inl u.2.2.2.2.2.2.2.2.2.2.1)), (aM, .inl (cA 0, 200, .inl u.2.2.2.2.2.2.2.2.2.2.2.1)), (aU, .inl (cA 0, 66, .inl u.2.2.2.2.2.2.2.2.2.2.2.2))]) := by
  refine ck_mkI (by decide) (fun r u h => by rcases h with ⟨rfl, _⟩ | ⟨rfl, _⟩ <;> rfl) (Nat.le_of_ble_eq_true rfl) ?_
  intro pG eG sG mG argsG belowG methG cG Q A H locs ls hx hb hml hown hts hK hE hA hP hD hS hl hret
  have hl : lv_has ls 7 [(0, .ref mo)] := hl
  have hl1 := cd_len hj
  have hl0 : J.length ≤ 1000 := by omega
  refine lv_aload_n hx hb d_Mo_takeImage_0 rfl (lv_at hl 0 rfl) ?_
  refine ck_cV (C := "ReadMapperModel") (ci := 8) (rest := []) (wr := [(aB, .inl (cA 0, 64, .inl bf)), (aR, .inl (cA 0, 66, .inl rw)), (aO, .inl (cA 0, 66, .inl of)), (aM, .inl (cA 0, 200, .inl mf)), (aU, .inl (cA 0, 66, .inl uf))]) (ws2 := fun u => [(mo, .inr (8, [.int zt, .int (nI L.length), .ref ta, .int (nI u.1), .ref aN, .ref aS, .ref aC, .int (nI u.2.1), .ref aB, .int (bz_c rd), .int (nI rt), .int (nI pl), .ref aR, .ref aO, .int (nI sg), .ref aW, .int (bz_c mp), .int (nI rn), .int (nI rs), .int (bz_c gd), .ref aD, .int (nI nh), .ref a1, .ref a2, .ref a3, .ref a4, .int (nI td), .ref aL, .int (nI J.length), .ref aY, .int (nI ms), .ref aM, .int (nI ip), .int (nI it), .int ir, .int (nI il), .ref bN, .ref bS, .ref bC, .ref bB, .ref bR, .ref bO, .ref aU])), (aY, .inl (cA 0, 200, .inl yf)), (aN, .inl (cA 1, 40, .inl u.2.2.1)), (aS, .inl (cA 0, 5, .inl u.2.2.2.1)), (aC, .inl (cA 0, 5, .inl u.2.2.2.2)), (aB, .inl (cA 0, 64, .inl bf)), (aR, .inl (cA 0, 66, .inl rw)), (aO, .inl (cA 0, 66, .inl of)), (aM, .inl (cA 0, 200, .inl mf)), (aU, .inl (cA 0, 66, .inl uf))]) (c_Mo_readPieces l D cA K mo ta aN aS aC aB aR aO aW aD a1 a2 a3 a4 aL aY aM bN bS bC bB bR bO aU rd mp gd zt ir np tot rt pl sg rn rs nh td ms ip it il L J yf nf sz bc (by first | assumption | omega) (by first | assumption | omega) (by first | assumption | omega)) hx hb hml hown hts hK hE hA hP hD hS k_Mo_readPieces m_1181 (by decide) 0 rfl rfl rfl hl.1 rfl (Nat.le_of_ble_eq_true rfl) d_Mo_takeImage_1  [0, 1, 2, 3, 4] [5, 6, 7, 8, 9] [5, 6, 7, 8, 9, 0, 1, 2, 3, 4] rfl rfl (by decide) (fun _ => rfl) (fun r1 u1 H locs hq1 hP hD hS => ?_)
  obtain ⟨np2_1, tot2_1, nf2_1, sz2_1, bc2_1⟩ := u1
  try dsimp only at hq1
  have hP : va_P D vwCl [(mo, .inr (8, [.int zt, .int (nI L.length), .ref ta, .int (nI np2_1), .ref aN, .ref aS, .ref aC, .int (nI tot2_1), .ref aB, .int (bz_c rd), .int (nI rt), .int (nI pl), .ref aR, .ref aO, .int (nI sg), .ref aW, .int (bz_c mp), .int (nI rn), .int (nI rs), .int (bz_c gd), .ref aD, .int (nI nh), .ref a1, .ref a2, .ref a3, .ref a4, .int (nI td), .ref aL, .int (nI J.length), .ref aY, .int (nI ms), .ref aM, .int (nI ip), .int (nI it), .int ir, .int (nI il), .ref bN, .ref bS, .ref bC, .ref bB, .ref bR, .ref bO, .ref aU])), (aY, .inl (cA 0, 200, .inl yf)), (aN, .inl (cA 1, 40, .inl nf2_1)), (aS, .inl (cA 0, 5, .inl sz2_1)), (aC, .inl (cA 0, 5, .inl bc2_1)), (aB, .inl (cA 0, 64, .inl bf)), (aR, .inl (cA 0, 66, .inl rw)), (aO, .inl (cA 0, 66, .inl of)), (aM, .inl (cA 0, 200, .inl mf)), (aU, .inl (cA 0, 66, .inl uf))] H := hP
  have hD : va_D A [(mo, .inr (8, [.int zt, .int (nI L.length), .ref ta, .int (nI np2_1), .ref aN, .ref aS, .ref aC, .int (nI tot2_1), .ref aB, .int (bz_c rd), .int (nI rt), .int (nI pl), .ref aR, .ref aO, .int (nI sg), .ref aW, .int (bz_c mp), .int (nI rn), .int (nI rs), .int (bz_c gd), .ref aD, .int (nI nh), .ref a1, .ref a2, .ref a3, .ref a4, .int (nI td), .ref aL, .int (nI J.length), .ref aY, .int (nI ms), .ref aM, .int (nI ip), .int (nI it), .int ir, .int (nI il), .ref bN, .ref bS, .ref bC, .ref bB, .ref bR, .ref bO, .ref aU])), (aY, .inl (cA 0, 200, .inl yf)), (aN, .inl (cA 1, 40, .inl nf2_1)), (aS, .inl (cA 0, 5, .inl sz2_1)), (aC, .inl (cA 0, 5, .inl bc2_1)), (aB, .inl (cA 0, 64, .inl bf)), (aR, .inl (cA 0, 66, .inl rw)), (aO, .inl (cA 0, 66, .inl of)), (aM, .inl (cA 0, 200, .inl mf)), (aU, .inl (cA 0, 66, .inl uf))] := hD
  obtain ⟨hch, hq1⟩ := hq1
  rcases hq1 with ⟨hrp, e1, hnp2, htot2, hnm2, hbc2⟩ | ⟨hrp, e1⟩
  ·
    obtain ⟨p, hp⟩ : ∃ z, z = po_c J np2_1 := ⟨_, rfl⟩
    rw [← hp] at e1
    subst e1
    have hnb : 1 ≤ np2_1 ∧ np2_1 ≤ 5 := by rw [hnp2]; exact ⟨hrp.1, hrp.2.1⟩
    have hrj : ∀ j, j < np2_1 → rj_p J j := fun j hj => hrp.2.2 j (by omega)
    have hpb := po_le hrj
    rw [← hp] at hpb
    have htb := tt_le hrj
    rw [← htot2] at htb
    refine lv_istore_n (lv' := [(1, .int (nI p)), (0, .ref mo)]) hx hb d_Mo_takeImage_4 rfl hl (by decide) rfl (fun ls hl => ?_)
    refine lv_iload_n hx hb d_Mo_takeImage_5 rfl (lv_at hl 0 rfl) ?_
    refine wn_if_ge (by omega) (tgt := 11) hx hb d_Mo_takeImage_6 (by decide) (fun h6 => ?_) (fun h9 => absurd h9 (Nat.not_lt_zero _))
    refine lv_aload_n hx hb d_Mo_takeImage_11 rfl (lv_at hl 1 rfl) ?_
    refine lv_aload_n hx hb d_Mo_takeImage_12 rfl (lv_at hl 1 rfl) ?_
    refine lv_iload_n hx hb d_Mo_takeImage_13 rfl (lv_at hl 0 rfl) ?_
    refine ck_cV (C := "ReadMapperModel") (ci := 8) (rest := [.ref mo]) (wr := [(aN, .inl (cA 1, 40, .inl nf2_1)), (aS, .inl (cA 0, 5, .inl sz2_1)), (aC, .inl (cA 0, 5, .inl bc2_1)), (aB, .inl (cA 0, 64, .inl bf)), (aR, .inl (cA 0, 66, .inl rw)), (aO, .inl (cA 0, 66, .inl of)), (aM, .inl (cA 0, 200, .inl mf)), (aU, .inl (cA 0, 66, .inl uf))]) (ws2 := fun u => [(mo, .inr (8, [.int zt, .int (nI L.length), .ref ta, .int (nI np2_1), .ref aN, .ref aS, .ref aC, .int (nI tot2_1), .ref aB, .int (bz_c rd), .int (nI rt), .int (nI pl), .ref aR, .ref aO, .int (nI sg), .ref aW, .int (bz_c mp), .int (nI rn), .int (nI rs), .int (bz_c gd), .ref aD, .int (nI nh), .ref a1, .ref a2, .ref a3, .ref a4, .int (nI td), .ref aL, .int (nI J.length), .ref aY, .int (nI ms), .ref aM, .int (nI ip), .int (nI it), .int ir, .int (nI il), .ref bN, .ref bS, .ref bC, .ref bB, .ref bR, .ref bO, .ref aU])), (aY, .inl (cA 0, 200, .inl yf)), (aN, .inl (cA 1, 40, .inl nf2_1)), (aS, .inl (cA 0, 5, .inl sz2_1)), (aC, .inl (cA 0, 5, .inl bc2_1)), (aB, .inl (cA 0, 64, .inl bf)), (aR, .inl (cA 0, 66, .inl rw)), (aO, .inl (cA 0, 66, .inl of)), (aM, .inl (cA 0, 200, .inl mf)), (aU, .inl (cA 0, 66, .inl uf))]) (c_Mo_at l D cA K mo ta aN aS aC aB aR aO aW aD a1 a2 a3 a4 aL aY aM bN bS bC bB bR bO aU rd mp gd zt ir np2_1 tot2_1 rt pl sg rn rs nh td ms ip it il L J yf p (by first | assumption | omega) (by first | assumption | omega)) hx hb hml hown hts hK hE hA hP hD hS k_Mo_at m_1185 (by decide) 0 rfl rfl rfl hl.1 rfl (Nat.le_of_ble_eq_true rfl) d_Mo_takeImage_14  [0, 1] [2, 3, 4, 5, 6, 7, 8, 9] [8, 9, 0, 1, 2, 3, 4, 5, 6, 7] rfl rfl (by decide) (fun _ => rfl) (fun r14 u14 H locs hq14 hP hD hS => ?_)
    try dsimp only at hq14
    have hP : va_P D vwCl [(mo, .inr (8, [.int zt, .int (nI L.length), .ref ta, .int (nI np2_1), .ref aN, .ref aS, .ref aC, .int (nI tot2_1), .ref aB, .int (bz_c rd), .int (nI rt), .int (nI pl), .ref aR, .ref aO, .int (nI sg), .ref aW, .int (bz_c mp), .int (nI rn), .int (nI rs), .int (bz_c gd), .ref aD, .int (nI nh), .ref a1, .ref a2, .ref a3, .ref a4, .int (nI td), .ref aL, .int (nI J.length), .ref aY, .int (nI ms), .ref aM, .int (nI ip), .int (nI it), .int ir, .int (nI il), .ref bN, .ref bS, .ref bC, .ref bB, .ref bR, .ref bO, .ref aU])), (aY, .inl (cA 0, 200, .inl yf)), (aN, .inl (cA 1, 40, .inl nf2_1)), (aS, .inl (cA 0, 5, .inl sz2_1)), (aC, .inl (cA 0, 5, .inl bc2_1)), (aB, .inl (cA 0, 64, .inl bf)), (aR, .inl (cA 0, 66, .inl rw)), (aO, .inl (cA 0, 66, .inl of)), (aM, .inl (cA 0, 200, .inl mf)), (aU, .inl (cA 0, 66, .inl uf))] H := hP
    have hD : va_D A [(mo, .inr (8, [.int zt, .int (nI L.length), .ref ta, .int (nI np2_1), .ref aN, .ref aS, .ref aC, .int (nI tot2_1), .ref aB, .int (bz_c rd), .int (nI rt), .int (nI pl), .ref aR, .ref aO, .int (nI sg), .ref aW, .int (bz_c mp), .int (nI rn), .int (nI rs), .int (bz_c gd), .ref aD, .int (nI nh), .ref a1, .ref a2, .ref a3, .ref a4, .int (nI td), .ref aL, .int (nI J.length), .ref aY, .int (nI ms), .ref aM, .int (nI ip), .int (nI it), .int ir, .int (nI il), .ref bN, .ref bS, .ref bC, .ref bB, .ref bR, .ref bO, .ref aU])), (aY, .inl (cA 0, 200, .inl yf)), (aN, .inl (cA 1, 40, .inl nf2_1)), (aS, .inl (cA 0, 5, .inl sz2_1)), (aC, .inl (cA 0, 5, .inl bc2_1)), (aB, .inl (cA 0, 64, .inl bf)), (aR, .inl (cA 0, 66, .inl rw)), (aO, .inl (cA 0, 66, .inl of)), (aM, .inl (cA 0, 200, .inl mf)), (aU, .inl (cA 0, 66, .inl uf))] := hD
    subst r14
    refine va_put (D := D) (ci := 8) (v := .int (at_c J (nI p))) (ty := .int) (C := RX8) (T := TX8) (N := 43) hx hb hts inX8 tyX8 tyX8_ok nmX8 hown hK hP hD hS 0 rfl rfl 10 (by decide) (hts _ m_855) (fun _ h9 => h9) rfl (by decide +kernel) rfl rfl (Nat.le_of_ble_eq_true rfl) d_Mo_takeImage_17 (fun H locs hP hD hS => ?_)
    have hP : va_P D vwCl [(mo, .inr (8, [.int zt, .int (nI L.length), .ref ta, .int (nI np2_1), .ref aN, .ref aS, .ref aC, .int (nI tot2_1), .ref aB, .int (bz_c rd), .int (at_c J (nI p)), .int (nI pl), .ref aR, .ref aO, .int (nI sg), .ref aW, .int (bz_c mp), .int (nI rn), .int (nI rs), .int (bz_c gd), .ref aD, .int (nI nh), .ref a1, .ref a2, .ref a3, .ref a4, .int (nI td), .ref aL, .int (nI J.length), .ref aY, .int (nI ms), .ref aM, .int (nI ip), .int (nI it), .int ir, .int (nI il), .ref bN, .ref bS, .ref bC, .ref bB, .ref bR, .ref bO, .ref aU])), (aY, .inl (cA 0, 200, .inl yf)), (aN, .inl (cA 1, 40, .inl nf2_1)), (aS, .inl (cA 0, 5, .inl sz2_1)), (aC, .inl (cA 0, 5, .inl bc2_1)), (aB, .inl (cA 0, 64, .inl bf)), (aR, .inl (cA 0, 66, .inl rw)), (aO, .inl (cA 0, 66, .inl of)), (aM, .inl (cA 0, 200, .inl mf)), (aU, .inl (cA 0, 66, .inl uf))] H := hP
    have hD : va_D A [(mo, .inr (8, [.int zt, .int (nI L.length), .ref ta, .int (nI np2_1), .ref aN, .ref aS, .ref aC, .int (nI tot2_1), .ref aB, .int (bz_c rd), .int (at_c J (nI p)), .int (nI pl), .ref aR, .ref aO, .int (nI sg), .ref aW, .int (bz_c mp), .int (nI rn), .int (nI rs), .int (bz_c gd), .ref aD, .int (nI nh), .ref a1, .ref a2, .ref a3, .ref a4, .int (nI td), .ref aL, .int (nI J.length), .ref aY, .int (nI ms), .ref aM, .int (nI ip), .int (nI it), .int ir, .int (nI il), .ref bN, .ref bS, .ref bC, .ref bB, .ref bR, .ref bO, .ref aU])), (aY, .inl (cA 0, 200, .inl yf)), (aN, .inl (cA 1, 40, .inl nf2_1)), (aS, .inl (cA 0, 5, .inl sz2_1)), (aC, .inl (cA 0, 5, .inl bc2_1)), (aB, .inl (cA 0, 64, .inl bf)), (aR, .inl (cA 0, 66, .inl rw)), (aO, .inl (cA 0, 66, .inl of)), (aM, .inl (cA 0, 200, .inl mf)), (aU, .inl (cA 0, 66, .inl uf))] := hD
    refine lv_aload_n hx hb d_Mo_takeImage_20 rfl (lv_at hl 1 rfl) ?_
    refine va_get (C := RX8) (T := TX8) (N := 43) hx hb hts inX8 hown hK hP 0 rfl rfl 7 (by decide) (hts _ m_852) (fun _ h9 => h9) rfl d_Mo_takeImage_21 ?_
    refine lv_aload_n hx hb d_Mo_takeImage_24 rfl (lv_at hl 1 rfl) ?_
    refine va_get (C := RX8) (T := TX8) (N := 43) hx hb hts inX8 hown hK hP 0 rfl rfl 3 (by decide) (hts _ m_848) (fun _ h9 => h9) rfl d_Mo_takeImage_25 ?_
    refine wn_iadd hx hb d_Mo_takeImage_28 ?_
    refine lv_istore_n (lv' := [(2, .int (nI (tot2_1 + np2_1))), (1, .int (nI p)), (0, .ref mo)]) hx hb d_Mo_takeImage_29 rfl hl (by decide) rfl (fun ls hl => ?_)
    refine lv_aload_n hx hb d_Mo_takeImage_30 rfl (lv_at hl 2 rfl) ?_
    refine va_get (C := RX8) (T := TX8) (N := 43) hx hb hts inX8 hown hK hP 0 rfl rfl 10 (by decide) (hts _ m_855) (fun _ h9 => h9) rfl d_Mo_takeImage_31 ?_
    refine lv_iconst (v := 1) hx hb d_Mo_takeImage_34 (by decide) ?_
    refine lv_icmp_lt (tgt := 70) hx hb d_Mo_takeImage_35 (by decide) ?_ ?_
    · intro h35
      refine lv_iconst (v := 0) hx hb d_Mo_takeImage_70 (by decide) ?_
      exact hret 0 (np2_1, tot2_1, at_c J (nI p), pl, ms, nf2_1, sz2_1, bc2_1, bf, rw, of, mf, uf) _ _ _ 71 d_Mo_takeImage_71 (by first | exact Or.inr ⟨rfl, hch, fun _ _ _ _ _ _ z => hq64 _ (ti_x3 z hnp2 htot2 hp)⟩ | exact Or.inr ⟨rfl, hch, fun _ _ _ _ _ _ z => bn_x1 hby hl0 (by omega) h35 (ti_x1 z hnp2 htot2 hp).1⟩ | exact Or.inr ⟨rfl, hch, fun _ _ _ _ _ _ z => bn_x2 (m := 8) rfl hby hl0 (by omega) (Int32.not_le.mpr h44) (ti_x1 z hnp2 htot2 hp).2⟩ | exact Or.inr ⟨rfl, hch, fun _ _ _ _ _ _ z => absurd (ti_x2 z hnp2 htot2 hp) (by omega)⟩) hP hD hS
    · intro h35
      refine lv_aload_n hx hb d_Mo_takeImage_38 rfl (lv_at hl 2 rfl) ?_
      refine va_get (C := RX8) (T := TX8) (N := 43) hx hb hts inX8 hown hK hP 0 rfl rfl 10 (by decide) (hts _ m_855) (fun _ h9 => h9) rfl d_Mo_takeImage_39 ?_
      refine lv_bipush (v := 8) hx hb d_Mo_takeImage_42 (by decide) ?_
      refine lv_icmp_gt (tgt := 70) hx hb d_Mo_takeImage_44 (by decide) ?_ ?_
      · intro h44
        refine lv_iconst (v := 0) hx hb d_Mo_takeImage_70 (by decide) ?_
        exact hret 0 (np2_1, tot2_1, at_c J (nI p), pl, ms, nf2_1, sz2_1, bc2_1, bf, rw, of, mf, uf) _ _ _ 71 d_Mo_takeImage_71 (by first | exact Or.inr ⟨rfl, hch, fun _ _ _ _ _ _ z => hq64 _ (ti_x3 z hnp2 htot2 hp)⟩ | exact Or.inr ⟨rfl, hch, fun _ _ _ _ _ _ z => bn_x1 hby hl0 (by omega) h35 (ti_x1 z hnp2 htot2 hp).1⟩ | exact Or.inr ⟨rfl, hch, fun _ _ _ _ _ _ z => bn_x2 (m := 8) rfl hby hl0 (by omega) (Int32.not_le.mpr h44) (ti_x1 z hnp2 htot2 hp).2⟩ | exact Or.inr ⟨rfl, hch, fun _ _ _ _ _ _ z => absurd (ti_x2 z hnp2 htot2 hp) (by omega)⟩) hP hD hS
      · intro h44
        obtain ⟨hbe, hb1, hb2, hb3⟩ := bn_p hby hl0 (i := p) (by omega) h35
        obtain ⟨rt9, hrt9⟩ : ∃ z, z = bn_c J p := ⟨_, rfl⟩
        rw [← hrt9] at hbe hb1 hb2
        have hr8 := bn_m (m := 8) rfl hbe (Int32.not_lt.mp h44) hb2
        have hP : va_P D vwCl [(mo, .inr (8, [.int zt, .int (nI L.length), .ref ta, .int (nI np2_1), .ref aN, .ref aS, .ref aC, .int (nI tot2_1), .ref aB, .int (bz_c rd), .int (nI rt9), .int (nI pl), .ref aR, .ref aO, .int (nI sg), .ref aW, .int (bz_c mp), .int (nI rn), .int (nI rs), .int (bz_c gd), .ref aD, .int (nI nh), .ref a1, .ref a2, .ref a3, .ref a4, .int (nI td), .ref aL, .int (nI J.length), .ref aY, .int (nI ms), .ref aM, .int (nI ip), .int (nI it), .int ir, .int (nI il), .ref bN, .ref bS, .ref bC, .ref bB, .ref bR, .ref bO, .ref aU])), (aY, .inl (cA 0, 200, .inl yf)), (aN, .inl (cA 1, 40, .inl nf2_1)), (aS, .inl (cA 0, 5, .inl sz2_1)), (aC, .inl (cA 0, 5, .inl bc2_1)), (aB, .inl (cA 0, 64, .inl bf)), (aR, .inl (cA 0, 66, .inl rw)), (aO, .inl (cA 0, 66, .inl of)), (aM, .inl (cA 0, 200, .inl mf)), (aU, .inl (cA 0, 66, .inl uf))] H := by rw [hbe] at hP; exact hP
        have hD : va_D A [(mo, .inr (8, [.int zt, .int (nI L.length), .ref ta, .int (nI np2_1), .ref aN, .ref aS, .ref aC, .int (nI tot2_1), .ref aB, .int (bz_c rd), .int (nI rt9), .int (nI pl), .ref aR, .ref aO, .int (nI sg), .ref aW, .int (bz_c mp), .int (nI rn), .int (nI rs), .int (bz_c gd), .ref aD, .int (nI nh), .ref a1, .ref a2, .ref a3, .ref a4, .int (nI td), .ref aL, .int (nI J.length), .ref aY, .int (nI ms), .ref aM, .int (nI ip), .int (nI it), .int ir, .int (nI il), .ref bN, .ref bS, .ref bC, .ref bB, .ref bR, .ref bO, .ref aU])), (aY, .inl (cA 0, 200, .inl yf)), (aN, .inl (cA 1, 40, .inl nf2_1)), (aS, .inl (cA 0, 5, .inl sz2_1)), (aC, .inl (cA 0, 5, .inl bc2_1)), (aB, .inl (cA 0, 64, .inl bf)), (aR, .inl (cA 0, 66, .inl rw)), (aO, .inl (cA 0, 66, .inl of)), (aM, .inl (cA 0, 200, .inl mf)), (aU, .inl (cA 0, 66, .inl uf))] := by rw [hbe] at hD; exact hD
        refine lv_iload_n hx hb d_Mo_takeImage_47 rfl (lv_at hl 1 rfl) ?_
        refine lv_iconst (v := nI 1) hx hb d_Mo_takeImage_48 (by decide) ?_
        refine wn_iadd hx hb d_Mo_takeImage_49 ?_
        refine lv_iload_n hx hb d_Mo_takeImage_50 rfl (lv_at hl 0 rfl) ?_
        refine wn_iadd hx hb d_Mo_takeImage_51 ?_
        refine lv_aload_n hx hb d_Mo_takeImage_52 rfl (lv_at hl 2 rfl) ?_
        refine va_get (C := RX8) (T := TX8) (N := 43) hx hb hts inX8 hown hK hP 0 rfl rfl 28 (by decide) (hts _ m_873) (fun _ h9 => h9) rfl d_Mo_takeImage_53 ?_
        refine wn_icmp_gt (by omega) (by omega) (tgt := 70) hx hb d_Mo_takeImage_56 (by decide) ?_ ?_
        · intro h56
          refine lv_iconst (v := 0) hx hb d_Mo_takeImage_70 (by decide) ?_
          exact hret 0 (np2_1, tot2_1, nI rt9, pl, ms, nf2_1, sz2_1, bc2_1, bf, rw, of, mf, uf) _ _ _ 71 d_Mo_takeImage_71 (by first | exact Or.inr ⟨rfl, hch, fun _ _ _ _ _ _ z => hq64 _ (ti_x3 z hnp2 htot2 hp)⟩ | exact Or.inr ⟨rfl, hch, fun _ _ _ _ _ _ z => bn_x1 hby hl0 (by omega) h35 (ti_x1 z hnp2 htot2 hp).1⟩ | exact Or.inr ⟨rfl, hch, fun _ _ _ _ _ _ z => bn_x2 (m := 8) rfl hby hl0 (by omega) (Int32.not_le.mpr h44) (ti_x1 z hnp2 htot2 hp).2⟩ | exact Or.inr ⟨rfl, hch, fun _ _ _ _ _ _ z => absurd (ti_x2 z hnp2 htot2 hp) (by omega)⟩) hP hD hS
        · intro h56
          refine lv_aload_n hx hb d_Mo_takeImage_59 rfl (lv_at hl 2 rfl) ?_
          refine lv_iload_n hx hb d_Mo_takeImage_60 rfl (lv_at hl 1 rfl) ?_
          refine lv_iconst (v := nI 1) hx hb d_Mo_takeImage_61 (by decide) ?_
          refine wn_iadd hx hb d_Mo_takeImage_62 ?_
          refine lv_iload_n hx hb d_Mo_takeImage_63 rfl (lv_at hl 0 rfl) ?_
          refine ck_cV (C := "ReadMapperModel") (ci := 8) (rest := []) (wr := [(aN, .inl (cA 1, 40, .inl nf2_1)), (aS, .inl (cA 0, 5, .inl sz2_1)), (aC, .inl (cA 0, 5, .inl bc2_1)), (aB, .inl (cA 0, 64, .inl bf)), (aR, .inl (cA 0, 66, .inl rw)), (aO, .inl (cA 0, 66, .inl of)), (aM, .inl (cA 0, 200, .inl mf))]) (ws2 := fun u => [(mo, .inr (8, [.int zt, .int (nI L.length), .ref ta, .int (nI np2_1), .ref aN, .ref aS, .ref aC, .int (nI tot2_1), .ref aB, .int (bz_c rd), .int (nI rt9), .int (nI pl), .ref aR, .ref aO, .int (nI sg), .ref aW, .int (bz_c mp), .int (nI rn), .int (nI rs), .int (bz_c gd), .ref aD, .int (nI nh), .ref a1, .ref a2, .ref a3, .ref a4, .int (nI td), .ref aL, .int (nI J.length), .ref aY, .int (nI ms), .ref aM, .int (nI ip), .int (nI it), .int ir, .int (nI il), .ref bN, .ref bS, .ref bC, .ref bB, .ref bR, .ref bO, .ref aU])), (aY, .inl (cA 0, 200, .inl yf)), (aN, .inl (cA 1, 40, .inl nf2_1)), (aS, .inl (cA 0, 5, .inl sz2_1)), (aC, .inl (cA 0, 5, .inl bc2_1)), (aB, .inl (cA 0, 64, .inl bf)), (aR, .inl (cA 0, 66, .inl rw)), (aO, .inl (cA 0, 66, .inl of)), (aM, .inl (cA 0, 200, .inl mf)), (aU, .inl (cA 0, 66, .inl u))]) (c_Mo_undo l D cA K mo ta aN aS aC aB aR aO aW aD a1 a2 a3 a4 aL aY aM bN bS bC bB bR bO aU rd mp gd zt ir np2_1 tot2_1 rt9 pl sg rn rs nh td ms ip it il L J yf uf (p + 1) (tot2_1 + np2_1) (by first | assumption | omega) (by first | assumption | omega) (by first | assumption | omega) (by first | assumption | omega)) hx hb hml hown hts hK hE hA hP hD hS k_Mo_undo m_1193 (by decide) 0 rfl rfl rfl hl.1 rfl (Nat.le_of_ble_eq_true rfl) d_Mo_takeImage_64  [0, 1, 9] [2, 3, 4, 5, 6, 7, 8] [7, 8, 0, 1, 2, 3, 4, 5, 6, 9] rfl rfl (by decide) (fun _ => rfl) (fun r64 u64 H locs hq64 hP hD hS => ?_)
          obtain ⟨uf2_64, rfl⟩ : ∃ z, z = u64 := ⟨_, rfl⟩
          try dsimp only at hq64
          have hP : va_P D vwCl [(mo, .inr (8, [.int zt, .int (nI L.length), .ref ta, .int (nI np2_1), .ref aN, .ref aS, .ref aC, .int (nI tot2_1), .ref aB, .int (bz_c rd), .int (nI rt9), .int (nI pl), .ref aR, .ref aO, .int (nI sg), .ref aW, .int (bz_c mp), .int (nI rn), .int (nI rs), .int (bz_c gd), .ref aD, .int (nI nh), .ref a1, .ref a2, .ref a3, .ref a4, .int (nI td), .ref aL, .int (nI J.length), .ref aY, .int (nI ms), .ref aM, .int (nI ip), .int (nI it), .int ir, .int (nI il), .ref bN, .ref bS, .ref bC, .ref bB, .ref bR, .ref bO, .ref aU])), (aY, .inl (cA 0, 200, .inl yf)), (aN, .inl (cA 1, 40, .inl nf2_1)), (aS, .inl (cA 0, 5, .inl sz2_1)), (aC, .inl (cA 0, 5, .inl bc2_1)), (aB, .inl (cA 0, 64, .inl bf)), (aR, .inl (cA 0, 66, .inl rw)), (aO, .inl (cA 0, 66, .inl of)), (aM, .inl (cA 0, 200, .inl mf)), (aU, .inl (cA 0, 66, .inl uf2_64))] H := hP
          have hD : va_D A [(mo, .inr (8, [.int zt, .int (nI L.length), .ref ta, .int (nI np2_1), .ref aN, .ref aS, .ref aC, .int (nI tot2_1), .ref aB, .int (bz_c rd), .int (nI rt9), .int (nI pl), .ref aR, .ref aO, .int (nI sg), .ref aW, .int (bz_c mp), .int (nI rn), .int (nI rs), .int (bz_c gd), .ref aD, .int (nI nh), .ref a1, .ref a2, .ref a3, .ref a4, .int (nI td), .ref aL, .int (nI J.length), .ref aY, .int (nI ms), .ref aM, .int (nI ip), .int (nI it), .int ir, .int (nI il), .ref bN, .ref bS, .ref bC, .ref bB, .ref bR, .ref bO, .ref aU])), (aY, .inl (cA 0, 200, .inl yf)), (aN, .inl (cA 1, 40, .inl nf2_1)), (aS, .inl (cA 0, 5, .inl sz2_1)), (aC, .inl (cA 0, 5, .inl bc2_1)), (aB, .inl (cA 0, 64, .inl bf)), (aR, .inl (cA 0, 66, .inl rw)), (aO, .inl (cA 0, 66, .inl of)), (aM, .inl (cA 0, 200, .inl mf)), (aU, .inl (cA 0, 66, .inl uf2_64))] := hD
          rcases hq64 with ⟨rfl, hq64⟩ | ⟨rfl, hq64⟩
          ·
            refine lv_if_ne (tgt := 72) hx hb d_Mo_takeImage_67 (by decide) (fun _ => ?_) (fun h9 => absurd h9 (by decide))
            refine lv_iconst (v := nI 0) hx hb d_Mo_takeImage_72 (by decide) ?_
            refine lv_istore_n (lv' := [(3, .int (nI 0)), (2, .int (nI (tot2_1 + np2_1))), (1, .int (nI p)), (0, .ref mo)]) hx hb d_Mo_takeImage_73 rfl hl (by decide) rfl (fun ls hl => ?_)
            refine lv_iconst (v := nI 0) hx hb d_Mo_takeImage_74 (by decide) ?_
            refine lv_istore (lv' := [(4, .int (nI 0)), (3, .int (nI 0)), (2, .int (nI (tot2_1 + np2_1))), (1, .int (nI p)), (0, .ref mo)]) hx hb d_Mo_takeImage_75 hl (by decide) rfl (fun ls hl => ?_)
            refine lv_iconst (v := nI 0) hx hb d_Mo_takeImage_77 (by decide) ?_
            refine lv_istore (lv' := [(5, .int (nI 0)), (4, .int (nI 0)), (3, .int (nI 0)), (2, .int (nI (tot2_1 + np2_1))), (1, .int (nI p)), (0, .ref mo)]) hx hb d_Mo_takeImage_78 hl (by decide) rfl (fun ls hl => ?_)
            have L80 : ∀ (nG : Nat) (k fr b : Nat) (bf1 : Nat → Int32) (H : Heap) (locs : List Loc) (ls : Array Slot), np2_1 - k = nG → (k ≤ np2_1) → (fr = tt_c (qz_c J) k + k) → (b = tt_c (qz_c J) k) → (∀ p, p < k → ∀ t, t < qz_c J p → bf1 (tt_c (qz_c J) p + t) = uf2_64 (tt_c (qz_c J) p + p + t) ∧ ¬ uf2_64 (tt_c (qz_c J) p + p + t) < 2) →  va_P D vwCl [(mo, .inr (8, [.int zt, .int (nI L.length), .ref ta, .int (nI np2_1), .ref aN, .ref aS, .ref aC, .int (nI tot2_1), .ref aB, .int (bz_c rd), .int (nI rt9), .int (nI pl), .ref aR, .ref aO, .int (nI sg), .ref aW, .int (bz_c mp), .int (nI rn), .int (nI rs), .int (bz_c gd), .ref aD, .int (nI nh), .ref a1, .ref a2, .ref a3, .ref a4, .int (nI td), .ref aL, .int (nI J.length), .ref aY, .int (nI ms), .ref aM, .int (nI ip), .int (nI it), .int ir, .int (nI il), .ref bN, .ref bS, .ref bC, .ref bB, .ref bR, .ref bO, .ref aU])), (aY, .inl (cA 0, 200, .inl yf)), (aN, .inl (cA 1, 40, .inl nf2_1)), (aS, .inl (cA 0, 5, .inl sz2_1)), (aC, .inl (cA 0, 5, .inl bc2_1)), (aB, .inl (cA 0, 64, .inl bf1)), (aR, .inl (cA 0, 66, .inl rw)), (aO, .inl (cA 0, 66, .inl of)), (aM, .inl (cA 0, 200, .inl mf)), (aU, .inl (cA 0, 66, .inl uf2_64))] H → va_D A [(mo, .inr (8, [.int zt, .int (nI L.length), .ref ta, .int (nI np2_1), .ref aN, .ref aS, .ref aC, .int (nI tot2_1), .ref aB, .int (bz_c rd), .int (nI rt9), .int (nI pl), .ref aR, .ref aO, .int (nI sg), .ref aW, .int (bz_c mp), .int (nI rn), .int (nI rs), .int (bz_c gd), .ref aD, .int (nI nh), .ref a1, .ref a2, .ref a3, .ref a4, .int (nI td), .ref aL, .int (nI J.length), .ref aY, .int (nI ms), .ref aM, .int (nI ip), .int (nI it), .int ir, .int (nI il), .ref bN, .ref bS, .ref bC, .ref bB, .ref bR, .ref bO, .ref aU])), (aY, .inl (cA 0, 200, .inl yf)), (aN, .inl (cA 1, 40, .inl nf2_1)), (aS, .inl (cA 0, 5, .inl sz2_1)), (aC, .inl (cA 0, 5, .inl bc2_1)), (aB, .inl (cA 0, 64, .inl bf1)), (aR, .inl (cA 0, 66, .inl rw)), (aO, .inl (cA 0, 66, .inl of)), (aM, .inl (cA 0, 200, .inl mf)), (aU, .inl (cA 0, 66, .inl uf2_64))] → va_S A sG.heap H locs → lv_has ls 7 [(0, .ref mo), (3, .int (nI fr)), (4, .int (nI b)), (5, .int (nI k))] → W pG l eG (rm_d 3) sG mG argsG belowG methG cG H locs 0 0 Q (F0 mG 80 ls []) := by
              intro nG
              induction nG using Nat.strongRecOn with
              | ind nG ih80 =>
                intro k fr b bf1 H locs ls hn80 hk hfr hb0 hb1k hP hD hS hl
                refine lv_iload hx hb d_Mo_takeImage_80 (lv_at hl 3 rfl) ?_
                refine lv_aload_n hx hb d_Mo_takeImage_82 rfl (lv_at hl 0 rfl) ?_
                refine va_get (C := RX8) (T := TX8) (N := 43) hx hb hts inX8 hown hK hP 0 rfl rfl 3 (by decide) (hts _ m_848) (fun _ h9 => h9) rfl d_Mo_takeImage_83 ?_
                refine wn_icmp_ge (by omega) (by omega) (tgt := 162) hx hb d_Mo_takeImage_86 (by decide) ?_ ?_
                · intro h86
                  obtain ⟨G, hG⟩ := ly_ex np2_1 (qz_c J) (fun p t => bf1 (tt_c (qz_c J) p + t))
                  obtain ⟨BS, hBS⟩ : ∃ z, z = fun p => tk_c (fun t => bf1 (tt_c (qz_c J) p + t)) (qz_c J p) := ⟨_, rfl⟩
                  have hkn : k = np2_1 := by omega
                  have hb9 : ∀ p, p < np2_1 → ∀ t, t < qz_c J p → bf1 (tt_c (qz_c J) p + t) = uf2_64 (tt_c (qz_c J) p + p + t) ∧ ¬ uf2_64 (tt_c (qz_c J) p + p + t) < 2 := fun p h1 => hb1k p (by omega)
                  have hbl : bl_c BS = qz_c J := by subst hBS; funext p; exact tk_len _ _
                  have hvq : vq_p np2_1 (nz_c J) BS := ti_vq hrp hnp2 hbl hBS (fun p h1 t h2 => ti_s5 (hb9 p h1 t h2) (hq64.1 _ (by have := ti_in (q := qz_c J) h1 h2; omega)))
                  have hgr : gr_p np2_1 BS G := ti_gr hbl hBS hG
                  have hkk := gr_k hnb.1 hvq hgr
                  have hple : pl_c np2_1 BS = tot2_1 + np2_1 := by unfold pl_c; rw [hbl, ← htot2]
                  rw [hple] at hkk
                  refine lv_aload_n hx hb d_Mo_takeImage_162 rfl (lv_at hl 0 rfl) ?_
                  refine ck_cVv (C := "ReadMapperModel") (ci := 8) (rest := []) (wr := [(aY, .inl (cA 0, 200, .inl yf)), (aN, .inl (cA 1, 40, .inl nf2_1)), (aS, .inl (cA 0, 5, .inl sz2_1)), (aM, .inl (cA 0, 200, .inl mf)), (aU, .inl (cA 0, 66, .inl uf2_64))]) (ws2 := fun u => [(mo, .inr (8, [.int zt, .int (nI L.length), .ref ta, .int (nI np2_1), .ref aN, .ref aS, .ref aC, .int (nI tot2_1), .ref aB, .int (bz_c rd), .int (nI rt9), .int (nI (tot2_1 + np2_1)), .ref aR, .ref aO, .int (nI sg), .ref aW, .int (bz_c mp), .int (nI rn), .int (nI rs), .int (bz_c gd), .ref aD, .int (nI nh), .ref a1, .ref a2, .ref a3, .ref a4, .int (nI td), .ref aL, .int (nI J.length), .ref aY, .int (nI ms), .ref aM, .int (nI ip), .int (nI it), .int ir, .int (nI il), .ref bN, .ref bS, .ref bC, .ref bB, .ref bR, .ref bO, .ref aU])), (aY, .inl (cA 0, 200, .inl yf)), (aN, .inl (cA 1, 40, .inl nf2_1)), (aS, .inl (cA 0, 5, .inl sz2_1)), (aC, .inl (cA 0, 5, .inl bc2_1)), (aB, .inl (cA 0, 64, .inl bf1)), (aR, .inl (cA 0, 66, .inl u.1)), (aO, .inl (cA 0, 66, .inl u.2)), (aM, .inl (cA 0, 200, .inl mf)), (aU, .inl (cA 0, 66, .inl uf2_64))]) (c_Mo_layOut l D cA K mo ta aN aS aC aB aR aO aW aD a1 a2 a3 a4 aL aY aM bN bS bC bB bR bO aU rd mp gd zt ir np2_1 tot2_1 rt9 pl sg rn rs nh td ms ip it il L J bc2_1 bf1 rw of (qz_c J) G hnb htot2 htb hbc2 hG hkk.1) hx hb hml hown hts hK hE hA hP hD hS k_Mo_layOut m_1011 (by decide) 0 rfl rfl rfl hl.1 rfl (Nat.le_of_ble_eq_true rfl) d_Mo_takeImage_163  [0, 4, 5, 6, 7] [1, 2, 3, 8, 9] [5, 0, 1, 2, 6, 7, 8, 9, 3, 4] rfl rfl (by decide) (fun _ => rfl) (fun u163 H locs hq163 hP hD hS => ?_)
                  obtain ⟨rw2_163, of2_163⟩ := u163
                  try dsimp only at hq163
                  have hP : va_P D vwCl [(mo, .inr (8, [.int zt, .int (nI L.length), .ref ta, .int (nI np2_1), .ref aN, .ref aS, .ref aC, .int (nI tot2_1), .ref aB, .int (bz_c rd), .int (nI rt9), .int (nI (tot2_1 + np2_1)), .ref aR, .ref aO, .int (nI sg), .ref aW, .int (bz_c mp), .int (nI rn), .int (nI rs), .int (bz_c gd), .ref aD, .int (nI nh), .ref a1, .ref a2, .ref a3, .ref a4, .int (nI td), .ref aL, .int (nI J.length), .ref aY, .int (nI ms), .ref aM, .int (nI ip), .int (nI it), .int ir, .int (nI il), .ref bN, .ref bS, .ref bC, .ref bB, .ref bR, .ref bO, .ref aU])), (aY, .inl (cA 0, 200, .inl yf)), (aN, .inl (cA 1, 40, .inl nf2_1)), (aS, .inl (cA 0, 5, .inl sz2_1)), (aC, .inl (cA 0, 5, .inl bc2_1)), (aB, .inl (cA 0, 64, .inl bf1)), (aR, .inl (cA 0, 66, .inl rw2_163)), (aO, .inl (cA 0, 66, .inl of2_163)), (aM, .inl (cA 0, 200, .inl mf)), (aU, .inl (cA 0, 66, .inl uf2_64))] H := hP
                  have hD : va_D A [(mo, .inr (8, [.int zt, .int (nI L.length), .ref ta, .int (nI np2_1), .ref aN, .ref aS, .ref aC, .int (nI tot2_1), .ref aB, .int (bz_c rd), .int (nI rt9), .int (nI (tot2_1 + np2_1)), .ref aR, .ref aO, .int (nI sg), .ref aW, .int (bz_c mp), .int (nI rn), .int (nI rs), .int (bz_c gd), .ref aD, .int (nI nh), .ref a1, .ref a2, .ref a3, .ref a4, .int (nI td), .ref aL, .int (nI J.length), .ref aY, .int (nI ms), .ref aM, .int (nI ip), .int (nI it), .int ir, .int (nI il), .ref bN, .ref bS, .ref bC, .ref bB, .ref bR, .ref bO, .ref aU])), (aY, .inl (cA 0, 200, .inl yf)), (aN, .inl (cA 1, 40, .inl nf2_1)), (aS, .inl (cA 0, 5, .inl sz2_1)), (aC, .inl (cA 0, 5, .inl bc2_1)), (aB, .inl (cA 0, 64, .inl bf1)), (aR, .inl (cA 0, 66, .inl rw2_163)), (aO, .inl (cA 0, 66, .inl of2_163)), (aM, .inl (cA 0, 200, .inl mf)), (aU, .inl (cA 0, 66, .inl uf2_64))] := hD
                  obtain ⟨so, hso, hiv⟩ := so_ex hkk.1 hq163.2
                  refine lv_aload_n hx hb d_Mo_takeImage_166 rfl (lv_at hl 0 rfl) ?_
                  refine ck_cVv (C := "ReadMapperModel") (ci := 8) (rest := []) (wr := [(aY, .inl (cA 0, 200, .inl yf)), (aB, .inl (cA 0, 64, .inl bf1)), (aU, .inl (cA 0, 66, .inl uf2_64))]) (ws2 := fun u => [(mo, .inr (8, [.int zt, .int (nI L.length), .ref ta, .int (nI np2_1), .ref aN, .ref aS, .ref aC, .int (nI tot2_1), .ref aB, .int (bz_c rd), .int (nI rt9), .int (nI (tot2_1 + np2_1)), .ref aR, .ref aO, .int (nI sg), .ref aW, .int (bz_c mp), .int (nI rn), .int (nI rs), .int (bz_c gd), .ref aD, .int (nI nh), .ref a1, .ref a2, .ref a3, .ref a4, .int (nI td), .ref aL, .int (nI J.length), .ref aY, .int (nI u.2.length), .ref aM, .int (nI ip), .int (nI it), .int ir, .int (nI il), .ref bN, .ref bS, .ref bC, .ref bB, .ref bR, .ref bO, .ref aU])), (aY, .inl (cA 0, 200, .inl yf)), (aN, .inl (cA 1, 40, .inl nf2_1)), (aS, .inl (cA 0, 5, .inl sz2_1)), (aC, .inl (cA 0, 5, .inl bc2_1)), (aB, .inl (cA 0, 64, .inl bf1)), (aR, .inl (cA 0, 66, .inl rw2_163)), (aO, .inl (cA 0, 66, .inl of2_163)), (aM, .inl (cA 0, 200, .inl u.1)), (aU, .inl (cA 0, 66, .inl uf2_64))]) (c_Mo_makeImage l D cA K mo ta aN aS aC aB aR aO aW aD a1 a2 a3 a4 aL aY aM bN bS bC bB bR bO aU rd mp gd zt ir np2_1 tot2_1 rt9 (tot2_1 + np2_1) sg rn rs nh td ip it il L J nf2_1 sz2_1 bc2_1 rw2_163 of2_163 mf (nz_c J) so ms hnb.2 (by omega) (by omega) hnm2 hso hmf) hx hb hml hown hts hK hE hA hP hD hS k_Mo_makeImage m_1149 (by decide) 0 rfl rfl rfl hl.1 rfl (Nat.le_of_ble_eq_true rfl) d_Mo_takeImage_167  [0, 2, 3, 4, 6, 7, 8] [1, 5, 9] [3, 0, 4, 5, 6, 1, 7, 8, 9, 2] rfl rfl (by decide) (fun _ => rfl) (fun u167 H locs hq167 hP hD hS => ?_)
                  obtain ⟨mf2_167, Y2_167⟩ := u167
                  try dsimp only at hq167
                  have hP : va_P D vwCl [(mo, .inr (8, [.int zt, .int (nI L.length), .ref ta, .int (nI np2_1), .ref aN, .ref aS, .ref aC, .int (nI tot2_1), .ref aB, .int (bz_c rd), .int (nI rt9), .int (nI (tot2_1 + np2_1)), .ref aR, .ref aO, .int (nI sg), .ref aW, .int (bz_c mp), .int (nI rn), .int (nI rs), .int (bz_c gd), .ref aD, .int (nI nh), .ref a1, .ref a2, .ref a3, .ref a4, .int (nI td), .ref aL, .int (nI J.length), .ref aY, .int (nI Y2_167.length), .ref aM, .int (nI ip), .int (nI it), .int ir, .int (nI il), .ref bN, .ref bS, .ref bC, .ref bB, .ref bR, .ref bO, .ref aU])), (aY, .inl (cA 0, 200, .inl yf)), (aN, .inl (cA 1, 40, .inl nf2_1)), (aS, .inl (cA 0, 5, .inl sz2_1)), (aC, .inl (cA 0, 5, .inl bc2_1)), (aB, .inl (cA 0, 64, .inl bf1)), (aR, .inl (cA 0, 66, .inl rw2_163)), (aO, .inl (cA 0, 66, .inl of2_163)), (aM, .inl (cA 0, 200, .inl mf2_167)), (aU, .inl (cA 0, 66, .inl uf2_64))] H := hP
                  have hD : va_D A [(mo, .inr (8, [.int zt, .int (nI L.length), .ref ta, .int (nI np2_1), .ref aN, .ref aS, .ref aC, .int (nI tot2_1), .ref aB, .int (bz_c rd), .int (nI rt9), .int (nI (tot2_1 + np2_1)), .ref aR, .ref aO, .int (nI sg), .ref aW, .int (bz_c mp), .int (nI rn), .int (nI rs), .int (bz_c gd), .ref aD, .int (nI nh), .ref a1, .ref a2, .ref a3, .ref a4, .int (nI td), .ref aL, .int (nI J.length), .ref aY, .int (nI Y2_167.length), .ref aM, .int (nI ip), .int (nI it), .int ir, .int (nI il), .ref bN, .ref bS, .ref bC, .ref bB, .ref bR, .ref bO, .ref aU])), (aY, .inl (cA 0, 200, .inl yf)), (aN, .inl (cA 1, 40, .inl nf2_1)), (aS, .inl (cA 0, 5, .inl sz2_1)), (aC, .inl (cA 0, 5, .inl bc2_1)), (aB, .inl (cA 0, 64, .inl bf1)), (aR, .inl (cA 0, 66, .inl rw2_163)), (aO, .inl (cA 0, 66, .inl of2_163)), (aM, .inl (cA 0, 200, .inl mf2_167)), (aU, .inl (cA 0, 66, .inl uf2_64))] := hD
                  have hYl := hq167.1.1
                  have hY : Y2_167 = ic_c np2_1 (nz_c J) (ln_c BS) rt9 (bf_c G so) so (tot2_1 + np2_1) := hq167.2.trans (ic_cg (fun _ _ => rfl) (fun p hp => (hbc2 p hp).trans (by rw [← congrFun hbl p]; rfl)) (fun i hi => bf_cg hq163.1 rfl (hso i hi).2) (fun _ _ => rfl))
                  refine lv_aload_n hx hb d_Mo_takeImage_170 rfl (lv_at hl 0 rfl) ?_
                  refine va_get (C := RX8) (T := TX8) (N := 43) hx hb hts inX8 hown hK hP 0 rfl rfl 30 (by decide) (hts _ m_875) (fun _ h9 => h9) rfl d_Mo_takeImage_171 ?_
                  refine lv_aload_n hx hb d_Mo_takeImage_174 rfl (lv_at hl 0 rfl) ?_
                  refine va_get (C := RX8) (T := TX8) (N := 43) hx hb hts inX8 hown hK hP 0 rfl rfl 28 (by decide) (hts _ m_873) (fun _ h9 => h9) rfl d_Mo_takeImage_175 ?_
                  refine wn_icmp_ne (by omega) (by omega) (tgt := 185) hx hb d_Mo_takeImage_178 (by decide) ?_ ?_
                  · intro h178
                    refine lv_iconst (v := nI 0) hx hb d_Mo_takeImage_185 (by decide) ?_
                    refine lv_istore (lv' := [(5, .int (nI 0)), (0, .ref mo), (3, .int (nI fr)), (4, .int (nI b))]) hx hb d_Mo_takeImage_186 hl (by decide) rfl (fun ls hl => ?_)
                    refine lv_iconst (v := nI 0) hx hb d_Mo_takeImage_188 (by decide) ?_
                    refine lv_istore (lv' := [(6, .int (nI 0)), (5, .int (nI 0)), (0, .ref mo), (3, .int (nI fr)), (4, .int (nI b))]) hx hb d_Mo_takeImage_189 hl (by decide) rfl (fun ls hl => ?_)
                    refine lv_iload hx hb d_Mo_takeImage_191 (lv_at hl 0 rfl) ?_
                    refine lv_aload_n hx hb d_Mo_takeImage_193 rfl (lv_at hl 2 rfl) ?_
                    refine va_get (C := RX8) (T := TX8) (N := 43) hx hb hts inX8 hown hK hP 0 rfl rfl 30 (by decide) (hts _ m_875) (fun _ h9 => h9) rfl d_Mo_takeImage_194 ?_
                    refine wn_icmp_ge (by omega) (by omega) (tgt := 235) hx hb d_Mo_takeImage_197 (by decide) ?_ ?_
                    · intro h197
                      refine lv_iload hx hb d_Mo_takeImage_235 (lv_at hl 1 rfl) ?_
                      exact hret (nI 0) (np2_1, tot2_1, nI rt9, (tot2_1 + np2_1), Y2_167.length, nf2_1, sz2_1, bc2_1, bf1, rw2_163, of2_163, mf2_167, uf2_64) _ _ _ 237 d_Mo_takeImage_237 (by first | exact Or.inr ⟨rfl, hch, fun _ _ _ _ _ _ z => h219 (by rw [hY.trans (ti_eq z hnp2 htot2 hp hbl hG (fun p h1 t h2 => (hb9 p h1 t h2).1) hq64.2 hiv hkk.1 hrt9)])⟩ | exact Or.inr ⟨rfl, hch, fun _ _ _ _ _ _ z => h178 (by rw [hY.trans (ti_eq z hnp2 htot2 hp hbl hG (fun p h1 t h2 => (hb9 p h1 t h2).1) hq64.2 hiv hkk.1 hrt9)])⟩) hP hD hS
                    · intro h197
                      refine lv_iload hx hb d_Mo_takeImage_200 (lv_at hl 1 rfl) ?_
                      refine lv_if_eq (tgt := 235) hx hb d_Mo_takeImage_202 (by decide) (fun _ => ?_) (fun h9 => absurd h9 (by decide))
                      refine lv_iload hx hb d_Mo_takeImage_235 (lv_at hl 1 rfl) ?_
                      exact hret (nI 0) (np2_1, tot2_1, nI rt9, (tot2_1 + np2_1), Y2_167.length, nf2_1, sz2_1, bc2_1, bf1, rw2_163, of2_163, mf2_167, uf2_64) _ _ _ 237 d_Mo_takeImage_237 (by first | exact Or.inr ⟨rfl, hch, fun _ _ _ _ _ _ z => h219 (by rw [hY.trans (ti_eq z hnp2 htot2 hp hbl hG (fun p h1 t h2 => (hb9 p h1 t h2).1) hq64.2 hiv hkk.1 hrt9)])⟩ | exact Or.inr ⟨rfl, hch, fun _ _ _ _ _ _ z => h178 (by rw [hY.trans (ti_eq z hnp2 htot2 hp hbl hG (fun p h1 t h2 => (hb9 p h1 t h2).1) hq64.2 hiv hkk.1 hrt9)])⟩) hP hD hS
                  · intro h178
                    refine lv_iconst (v := 1) hx hb d_Mo_takeImage_181 (by decide) ?_
                    refine lv_goto (tgt := 186) hx hb d_Mo_takeImage_182 (by decide) ?_
                    refine lv_istore (lv' := [(5, .int 1), (0, .ref mo), (3, .int (nI fr)), (4, .int (nI b))]) hx hb d_Mo_takeImage_186 hl (by decide) rfl (fun ls hl => ?_)
                    refine lv_iconst (v := nI 0) hx hb d_Mo_takeImage_188 (by decide) ?_
                    refine lv_istore (lv' := [(6, .int (nI 0)), (5, .int 1), (0, .ref mo), (3, .int (nI fr)), (4, .int (nI b))]) hx hb d_Mo_takeImage_189 hl (by decide) rfl (fun ls hl => ?_)
                    have L191 : ∀ (nG : Nat) (i : Nat) (H : Heap) (locs : List Loc) (ls : Array Slot), Y2_167.length - i = nG → (i ≤ Y2_167.length) → (∀ z, z < i → Y2_167.getD z 0 = J.getD z 0) →  va_P D vwCl [(mo, .inr (8, [.int zt, .int (nI L.length), .ref ta, .int (nI np2_1), .ref aN, .ref aS, .ref aC, .int (nI tot2_1), .ref aB, .int (bz_c rd), .int (nI rt9), .int (nI (tot2_1 + np2_1)), .ref aR, .ref aO, .int (nI sg), .ref aW, .int (bz_c mp), .int (nI rn), .int (nI rs), .int (bz_c gd), .ref aD, .int (nI nh), .ref a1, .ref a2, .ref a3, .ref a4, .int (nI td), .ref aL, .int (nI J.length), .ref aY, .int (nI Y2_167.length), .ref aM, .int (nI ip), .int (nI it), .int ir, .int (nI il), .ref bN, .ref bS, .ref bC, .ref bB, .ref bR, .ref bO, .ref aU])), (aY, .inl (cA 0, 200, .inl yf)), (aN, .inl (cA 1, 40, .inl nf2_1)), (aS, .inl (cA 0, 5, .inl sz2_1)), (aC, .inl (cA 0, 5, .inl bc2_1)), (aB, .inl (cA 0, 64, .inl bf1)), (aR, .inl (cA 0, 66, .inl rw2_163)), (aO, .inl (cA 0, 66, .inl of2_163)), (aM, .inl (cA 0, 200, .inl mf2_167)), (aU, .inl (cA 0, 66, .inl uf2_64))] H → va_D A [(mo, .inr (8, [.int zt, .int (nI L.length), .ref ta, .int (nI np2_1), .ref aN, .ref aS, .ref aC, .int (nI tot2_1), .ref aB, .int (bz_c rd), .int (nI rt9), .int (nI (tot2_1 + np2_1)), .ref aR, .ref aO, .int (nI sg), .ref aW, .int (bz_c mp), .int (nI rn), .int (nI rs), .int (bz_c gd), .ref aD, .int (nI nh), .ref a1, .ref a2, .ref a3, .ref a4, .int (nI td), .ref aL, .int (nI J.length), .ref aY, .int (nI Y2_167.length), .ref aM, .int (nI ip), .int (nI it), .int ir, .int (nI il), .ref bN, .ref bS, .ref bC, .ref bB, .ref bR, .ref bO, .ref aU])), (aY, .inl (cA 0, 200, .inl yf)), (aN, .inl (cA 1, 40, .inl nf2_1)), (aS, .inl (cA 0, 5, .inl sz2_1)), (aC, .inl (cA 0, 5, .inl bc2_1)), (aB, .inl (cA 0, 64, .inl bf1)), (aR, .inl (cA 0, 66, .inl rw2_163)), (aO, .inl (cA 0, 66, .inl of2_163)), (aM, .inl (cA 0, 200, .inl mf2_167)), (aU, .inl (cA 0, 66, .inl uf2_64))] → va_S A sG.heap H locs → lv_has ls 7 [(0, .ref mo), (5, .int 1), (6, .int (nI i))] → W pG l eG (rm_d 3) sG mG argsG belowG methG cG H locs 0 0 Q (F0 mG 191 ls []) := by
                      intro nG
                      induction nG using Nat.strongRecOn with
                      | ind nG ih191 =>
                        intro i H locs ls hn191 hi hs hP hD hS hl
                        refine lv_iload hx hb d_Mo_takeImage_191 (lv_at hl 2 rfl) ?_
                        refine lv_aload_n hx hb d_Mo_takeImage_193 rfl (lv_at hl 0 rfl) ?_
                        refine va_get (C := RX8) (T := TX8) (N := 43) hx hb hts inX8 hown hK hP 0 rfl rfl 30 (by decide) (hts _ m_875) (fun _ h9 => h9) rfl d_Mo_takeImage_194 ?_
                        refine wn_icmp_ge (by omega) (by omega) (tgt := 235) hx hb d_Mo_takeImage_197 (by decide) ?_ ?_
                        · intro h197
                          refine lv_iload hx hb d_Mo_takeImage_235 (lv_at hl 1 rfl) ?_
                          exact hret 1 (np2_1, tot2_1, nI rt9, tot2_1 + np2_1, Y2_167.length, nf2_1, sz2_1, bc2_1, bf1, rw2_163, of2_163, mf2_167, uf2_64) _ _ _ 237 d_Mo_takeImage_237 (by have hYJ : Y2_167 = J := li_ext h178 (fun z hz => hs z (by omega)); exact Or.inl ⟨rfl, hch, nz_c J, BS, rt9, G, so, ⟨hnb.1, hvq, ⟨by omega, by omega⟩, hgr, by rw [hple]; exact hiv, by rw [hple, ← hY, hYJ]⟩, rfl, by rw [hbl]; exact htot2, rfl, ⟨hnm2, ti_rq hbl hBS hbc2⟩, hq163.1, hso⟩) hP hD hS
                        · intro h197
                          refine lv_iload hx hb d_Mo_takeImage_200 (lv_at hl 1 rfl) ?_
                          refine lv_if_eq (tgt := 235) hx hb d_Mo_takeImage_202 (by decide) (fun h9 => absurd h9 (by decide)) (fun _ => ?_)
                          refine lv_aload_n hx hb d_Mo_takeImage_205 rfl (lv_at hl 0 rfl) ?_
                          refine va_get (C := RX8) (T := TX8) (N := 43) hx hb hts inX8 hown hK hP 0 rfl rfl 31 (by decide) (hts _ m_876) (fun _ h9 => h9) rfl d_Mo_takeImage_206 ?_
                          refine lv_iload hx hb d_Mo_takeImage_209 (lv_at hl 2 rfl) ?_
                          refine wn_iald hx hb hK hP 8 0 rfl rfl (by omega) (by omega) d_Mo_takeImage_211 ?_
                          refine wn_eq (y := Y2_167.getD i 0) (hq167.1.2.2 i (by omega)) ?_
                          refine lv_aload_n hx hb d_Mo_takeImage_212 rfl (lv_at hl 0 rfl) ?_
                          refine va_get (C := RX8) (T := TX8) (N := 43) hx hb hts inX8 hown hK hP 0 rfl rfl 29 (by decide) (hts _ m_874) (fun _ h9 => h9) rfl d_Mo_takeImage_213 ?_
                          refine lv_iload hx hb d_Mo_takeImage_216 (lv_at hl 2 rfl) ?_
                          refine wn_iald hx hb hK hP 1 0 rfl rfl (by omega) (by omega) d_Mo_takeImage_218 ?_
                          refine wn_eq (y := J.getD i 0) (hj.2.2 i (by omega)) ?_
                          refine lv_icmp_ne (tgt := 226) hx hb d_Mo_takeImage_219 (by decide) ?_ ?_
                          · intro h219
                            refine lv_iconst (v := nI 0) hx hb d_Mo_takeImage_226 (by decide) ?_
                            refine lv_istore (lv' := [(5, .int (nI 0)), (0, .ref mo), (6, .int (nI i))]) hx hb d_Mo_takeImage_227 hl (by decide) rfl (fun ls hl => ?_)
                            refine lv_iinc (k := 2) (v := nI (i + 1)) (lv' := [(6, .int (nI (i + 1))), (5, .int (nI 0)), (0, .ref mo)]) hx hb d_Mo_takeImage_229 hl rfl (wi_inc1 _) (by decide) rfl (fun ls hl => ?_)
                            refine lv_goto (tgt := 191) hx hb d_Mo_takeImage_232 (by decide) ?_
                            refine lv_iload hx hb d_Mo_takeImage_191 (lv_at hl 0 rfl) ?_
                            refine lv_aload_n hx hb d_Mo_takeImage_193 rfl (lv_at hl 2 rfl) ?_
                            refine va_get (C := RX8) (T := TX8) (N := 43) hx hb hts inX8 hown hK hP 0 rfl rfl 30 (by decide) (hts _ m_875) (fun _ h9 => h9) rfl d_Mo_takeImage_194 ?_
                            refine wn_icmp_ge (by omega) (by omega) (tgt := 235) hx hb d_Mo_takeImage_197 (by decide) ?_ ?_
                            · intro h197_2
                              refine lv_iload hx hb d_Mo_takeImage_235 (lv_at hl 1 rfl) ?_
                              exact hret (nI 0) (np2_1, tot2_1, nI rt9, tot2_1 + np2_1, Y2_167.length, nf2_1, sz2_1, bc2_1, bf1, rw2_163, of2_163, mf2_167, uf2_64) _ _ _ 237 d_Mo_takeImage_237 (by first | exact Or.inr ⟨rfl, hch, fun _ _ _ _ _ _ z => h219 (by rw [hY.trans (ti_eq z hnp2 htot2 hp hbl hG (fun p h1 t h2 => (hb9 p h1 t h2).1) hq64.2 hiv hkk.1 hrt9)])⟩ | exact Or.inr ⟨rfl, hch, fun _ _ _ _ _ _ z => h178 (by rw [hY.trans (ti_eq z hnp2 htot2 hp hbl hG (fun p h1 t h2 => (hb9 p h1 t h2).1) hq64.2 hiv hkk.1 hrt9)])⟩) hP hD hS
                            · intro h197_2
                              refine lv_iload hx hb d_Mo_takeImage_200 (lv_at hl 1 rfl) ?_
                              refine lv_if_eq (tgt := 235) hx hb d_Mo_takeImage_202 (by decide) (fun _ => ?_) (fun h9 => absurd h9 (by decide))
                              refine lv_iload hx hb d_Mo_takeImage_235 (lv_at hl 1 rfl) ?_
                              exact hret (nI 0) (np2_1, tot2_1, nI rt9, tot2_1 + np2_1, Y2_167.length, nf2_1, sz2_1, bc2_1, bf1, rw2_163, of2_163, mf2_167, uf2_64) _ _ _ 237 d_Mo_takeImage_237 (by first | exact Or.inr ⟨rfl, hch, fun _ _ _ _ _ _ z => h219 (by rw [hY.trans (ti_eq z hnp2 htot2 hp hbl hG (fun p h1 t h2 => (hb9 p h1 t h2).1) hq64.2 hiv hkk.1 hrt9)])⟩ | exact Or.inr ⟨rfl, hch, fun _ _ _ _ _ _ z => h178 (by rw [hY.trans (ti_eq z hnp2 htot2 hp hbl hG (fun p h1 t h2 => (hb9 p h1 t h2).1) hq64.2 hiv hkk.1 hrt9)])⟩) hP hD hS
                          · intro h219
                            refine lv_iconst (v := 1) hx hb d_Mo_takeImage_222 (by decide) ?_
                            refine lv_goto (tgt := 227) hx hb d_Mo_takeImage_223 (by decide) ?_
                            refine lv_istore (lv' := [(5, .int 1), (0, .ref mo), (6, .int (nI i))]) hx hb d_Mo_takeImage_227 hl (by decide) rfl (fun ls hl => ?_)
                            refine lv_iinc (k := 2) (v := nI (i + 1)) (lv' := [(6, .int (nI (i + 1))), (5, .int 1), (0, .ref mo)]) hx hb d_Mo_takeImage_229 hl rfl (wi_inc1 _) (by decide) rfl (fun ls hl => ?_)
                            refine lv_goto (tgt := 191) hx hb d_Mo_takeImage_232 (by decide) ?_
                            exact ih191 _ (by omega) (i + 1) _ _ _ rfl (by first | assumption | omega) (lt_s hs h219) hP hD hS (lv_sub hl [2, 1, 0] rfl)
                    exact L191 _ 0 _ _ _ rfl (by first | assumption | omega) (fun j hj => absurd hj (Nat.not_lt_zero j)) hP hD hS (lv_sub hl [2, 1, 0] rfl)
                · intro h86
                  have hm1 : tt_c (qz_c J) (k + 1) ≤ tot2_1 := by rw [htot2]; exact tt_mono (qz_c J) h86
                  have hm2 : tt_c (qz_c J) (k + 1) = tt_c (qz_c J) k + qz_c J k := rfl
                  refine lv_iconst (v := nI 0) hx hb d_Mo_takeImage_89 (by decide) ?_
                  refine lv_istore (lv' := [(6, .int (nI 0)), (0, .ref mo), (3, .int (nI fr)), (4, .int (nI b)), (5, .int (nI k))]) hx hb d_Mo_takeImage_90 hl (by decide) rfl (fun ls hl => ?_)
                  have L92 : ∀ (nG : Nat) (j b : Nat) (bf1 : Nat → Int32) (H : Heap) (locs : List Loc) (ls : Array Slot), qz_c J k - j = nG → (j ≤ qz_c J k) → (b = tt_c (qz_c J) k + j) → (∀ p, p < k → ∀ t, t < qz_c J p → bf1 (tt_c (qz_c J) p + t) = uf2_64 (tt_c (qz_c J) p + p + t) ∧ ¬ uf2_64 (tt_c (qz_c J) p + p + t) < 2) → (∀ t, t < j → bf1 (tt_c (qz_c J) k + t) = uf2_64 (tt_c (qz_c J) k + k + t) ∧ ¬ uf2_64 (tt_c (qz_c J) k + k + t) < 2) →  va_P D vwCl [(mo, .inr (8, [.int zt, .int (nI L.length), .ref ta, .int (nI np2_1), .ref aN, .ref aS, .ref aC, .int (nI tot2_1), .ref aB, .int (bz_c rd), .int (nI rt9), .int (nI pl), .ref aR, .ref aO, .int (nI sg), .ref aW, .int (bz_c mp), .int (nI rn), .int (nI rs), .int (bz_c gd), .ref aD, .int (nI nh), .ref a1, .ref a2, .ref a3, .ref a4, .int (nI td), .ref aL, .int (nI J.length), .ref aY, .int (nI ms), .ref aM, .int (nI ip), .int (nI it), .int ir, .int (nI il), .ref bN, .ref bS, .ref bC, .ref bB, .ref bR, .ref bO, .ref aU])), (aY, .inl (cA 0, 200, .inl yf)), (aN, .inl (cA 1, 40, .inl nf2_1)), (aS, .inl (cA 0, 5, .inl sz2_1)), (aC, .inl (cA 0, 5, .inl bc2_1)), (aB, .inl (cA 0, 64, .inl bf1)), (aR, .inl (cA 0, 66, .inl rw)), (aO, .inl (cA 0, 66, .inl of)), (aM, .inl (cA 0, 200, .inl mf)), (aU, .inl (cA 0, 66, .inl uf2_64))] H → va_D A [(mo, .inr (8, [.int zt, .int (nI L.length), .ref ta, .int (nI np2_1), .ref aN, .ref aS, .ref aC, .int (nI tot2_1), .ref aB, .int (bz_c rd), .int (nI rt9), .int (nI pl), .ref aR, .ref aO, .int (nI sg), .ref aW, .int (bz_c mp), .int (nI rn), .int (nI rs), .int (bz_c gd), .ref aD, .int (nI nh), .ref a1, .ref a2, .ref a3, .ref a4, .int (nI td), .ref aL, .int (nI J.length), .ref aY, .int (nI ms), .ref aM, .int (nI ip), .int (nI it), .int ir, .int (nI il), .ref bN, .ref bS, .ref bC, .ref bB, .ref bR, .ref bO, .ref aU])), (aY, .inl (cA 0, 200, .inl yf)), (aN, .inl (cA 1, 40, .inl nf2_1)), (aS, .inl (cA 0, 5, .inl sz2_1)), (aC, .inl (cA 0, 5, .inl bc2_1)), (aB, .inl (cA 0, 64, .inl bf1)), (aR, .inl (cA 0, 66, .inl rw)), (aO, .inl (cA 0, 66, .inl of)), (aM, .inl (cA 0, 200, .inl mf)), (aU, .inl (cA 0, 66, .inl uf2_64))] → va_S A sG.heap H locs → lv_has ls 7 [(0, .ref mo), (3, .int (nI fr)), (4, .int (nI b)), (5, .int (nI k)), (6, .int (nI j))] → W pG l eG (rm_d 3) sG mG argsG belowG methG cG H locs 0 0 Q (F0 mG 92 ls []) := by
                    intro nG
                    induction nG using Nat.strongRecOn with
                    | ind nG ih92 =>
                      intro j b bf1 H locs ls hn92 hj9 hb0 hb1k hb2k hP hD hS hl
                      refine lv_iload hx hb d_Mo_takeImage_92 (lv_at hl 4 rfl) ?_
                      refine lv_aload_n hx hb d_Mo_takeImage_94 rfl (lv_at hl 0 rfl) ?_
                      refine va_get (C := RX8) (T := TX8) (N := 43) hx hb hts inX8 hown hK hP 0 rfl rfl 6 (by decide) (hts _ m_851) (fun _ h9 => h9) rfl d_Mo_takeImage_95 ?_
                      refine lv_iload hx hb d_Mo_takeImage_98 (lv_at hl 3 rfl) ?_
                      refine wn_iald hx hb hK hP 4 0 rfl rfl (by omega) (by omega) d_Mo_takeImage_100 ?_
                      refine wn_eq (y := nI (qz_c J k)) (hbc2 k (by omega)) ?_
                      refine wn_icmp_ge (by omega) (by omega) (tgt := 144) hx hb d_Mo_takeImage_101 (by decide) ?_ ?_
                      · intro h101
                        refine lv_iload_n hx hb d_Mo_takeImage_144 rfl (lv_at hl 1 rfl) ?_
                        refine lv_aload_n hx hb d_Mo_takeImage_145 rfl (lv_at hl 0 rfl) ?_
                        refine va_get (C := RX8) (T := TX8) (N := 43) hx hb hts inX8 hown hK hP 0 rfl rfl 6 (by decide) (hts _ m_851) (fun _ h9 => h9) rfl d_Mo_takeImage_146 ?_
                        refine lv_iload hx hb d_Mo_takeImage_149 (lv_at hl 3 rfl) ?_
                        refine wn_iald hx hb hK hP 4 0 rfl rfl (by omega) (by omega) d_Mo_takeImage_151 ?_
                        refine wn_eq (y := nI (qz_c J k)) (hbc2 k (by omega)) ?_
                        refine wn_iadd hx hb d_Mo_takeImage_152 ?_
                        refine lv_iconst (v := nI 1) hx hb d_Mo_takeImage_153 (by decide) ?_
                        refine wn_iadd hx hb d_Mo_takeImage_154 ?_
                        refine lv_istore_n (lv' := [(3, .int (nI ((fr + (qz_c J k)) + 1))), (0, .ref mo), (4, .int (nI b)), (5, .int (nI k)), (6, .int (nI j))]) hx hb d_Mo_takeImage_155 rfl hl (by decide) rfl (fun ls hl => ?_)
                        refine lv_iinc (k := 3) (v := nI (k + 1)) (lv' := [(5, .int (nI (k + 1))), (3, .int (nI ((fr + (qz_c J k)) + 1))), (0, .ref mo), (4, .int (nI b)), (6, .int (nI j))]) hx hb d_Mo_takeImage_156 hl rfl (wi_inc1 _) (by decide) rfl (fun ls hl => ?_)
                        refine lv_goto (tgt := 80) hx hb d_Mo_takeImage_159 (by decide) ?_
                        exact ih80 _ (by omega) (k + 1) ((fr + (qz_c J k)) + 1) b bf1 _ _ _ rfl (by first | assumption | omega) (by omega) (by omega) (lt_s hb1k (fun t ht => hb2k t (by omega))) hP hD hS (lv_sub hl [2, 1, 3, 0] rfl)
                      · intro h101
                        refine lv_aload_n hx hb d_Mo_takeImage_104 rfl (lv_at hl 0 rfl) ?_
                        refine va_get (C := RX8) (T := TX8) (N := 43) hx hb hts inX8 hown hK hP 0 rfl rfl 42 (by decide) (hts _ m_887) (fun _ h9 => h9) rfl d_Mo_takeImage_105 ?_
                        refine lv_iload_n hx hb d_Mo_takeImage_108 rfl (lv_at hl 1 rfl) ?_
                        refine lv_iload hx hb d_Mo_takeImage_109 (lv_at hl 4 rfl) ?_
                        refine wn_iadd hx hb d_Mo_takeImage_111 ?_
                        refine wn_iald hx hb hK hP 9 0 rfl rfl (by omega) (by omega) d_Mo_takeImage_112 ?_
                        refine lv_iconst (v := 2) hx hb d_Mo_takeImage_113 (by decide) ?_
                        refine lv_icmp_ge (tgt := 119) hx hb d_Mo_takeImage_114 (by decide) ?_ ?_
                        · intro h114
                          refine lv_aload_n hx hb d_Mo_takeImage_119 rfl (lv_at hl 0 rfl) ?_
                          refine va_get (C := RX8) (T := TX8) (N := 43) hx hb hts inX8 hown hK hP 0 rfl rfl 8 (by decide) (hts _ m_853) (fun _ h9 => h9) rfl d_Mo_takeImage_120 ?_
                          refine lv_iload hx hb d_Mo_takeImage_123 (lv_at hl 2 rfl) ?_
                          refine lv_aload_n hx hb d_Mo_takeImage_125 rfl (lv_at hl 0 rfl) ?_
                          refine va_get (C := RX8) (T := TX8) (N := 43) hx hb hts inX8 hown hK hP 0 rfl rfl 42 (by decide) (hts _ m_887) (fun _ h9 => h9) rfl d_Mo_takeImage_126 ?_
                          refine lv_iload_n hx hb d_Mo_takeImage_129 rfl (lv_at hl 1 rfl) ?_
                          refine lv_iload hx hb d_Mo_takeImage_130 (lv_at hl 4 rfl) ?_
                          refine wn_iadd hx hb d_Mo_takeImage_132 ?_
                          refine wn_iald hx hb hK hP 9 0 rfl rfl (by omega) (by omega) d_Mo_takeImage_133 ?_
                          refine wn_iast hx hb hK hP hD hS 5 0 rfl rfl (by omega) (by omega) d_Mo_takeImage_134 (fun H locs hP hD hS => ?_)
                          have hP : va_P D vwCl [(mo, .inr (8, [.int zt, .int (nI L.length), .ref ta, .int (nI np2_1), .ref aN, .ref aS, .ref aC, .int (nI tot2_1), .ref aB, .int (bz_c rd), .int (nI rt9), .int (nI pl), .ref aR, .ref aO, .int (nI sg), .ref aW, .int (bz_c mp), .int (nI rn), .int (nI rs), .int (bz_c gd), .ref aD, .int (nI nh), .ref a1, .ref a2, .ref a3, .ref a4, .int (nI td), .ref aL, .int (nI J.length), .ref aY, .int (nI ms), .ref aM, .int (nI ip), .int (nI it), .int ir, .int (nI il), .ref bN, .ref bS, .ref bC, .ref bB, .ref bR, .ref bO, .ref aU])), (aY, .inl (cA 0, 200, .inl yf)), (aN, .inl (cA 1, 40, .inl nf2_1)), (aS, .inl (cA 0, 5, .inl sz2_1)), (aC, .inl (cA 0, 5, .inl bc2_1)), (aB, .inl (cA 0, 64, .inl (upd bf1 b (uf2_64 (fr + j))))), (aR, .inl (cA 0, 66, .inl rw)), (aO, .inl (cA 0, 66, .inl of)), (aM, .inl (cA 0, 200, .inl mf)), (aU, .inl (cA 0, 66, .inl uf2_64))] H := hP
                          have hD : va_D A [(mo, .inr (8, [.int zt, .int (nI L.length), .ref ta, .int (nI np2_1), .ref aN, .ref aS, .ref aC, .int (nI tot2_1), .ref aB, .int (bz_c rd), .int (nI rt9), .int (nI pl), .ref aR, .ref aO, .int (nI sg), .ref aW, .int (bz_c mp), .int (nI rn), .int (nI rs), .int (bz_c gd), .ref aD, .int (nI nh), .ref a1, .ref a2, .ref a3, .ref a4, .int (nI td), .ref aL, .int (nI J.length), .ref aY, .int (nI ms), .ref aM, .int (nI ip), .int (nI it), .int ir, .int (nI il), .ref bN, .ref bS, .ref bC, .ref bB, .ref bR, .ref bO, .ref aU])), (aY, .inl (cA 0, 200, .inl yf)), (aN, .inl (cA 1, 40, .inl nf2_1)), (aS, .inl (cA 0, 5, .inl sz2_1)), (aC, .inl (cA 0, 5, .inl bc2_1)), (aB, .inl (cA 0, 64, .inl (upd bf1 b (uf2_64 (fr + j))))), (aR, .inl (cA 0, 66, .inl rw)), (aO, .inl (cA 0, 66, .inl of)), (aM, .inl (cA 0, 200, .inl mf)), (aU, .inl (cA 0, 66, .inl uf2_64))] := hD
                          refine lv_iinc (k := 2) (v := nI (b + 1)) (lv' := [(4, .int (nI (b + 1))), (0, .ref mo), (3, .int (nI fr)), (5, .int (nI k)), (6, .int (nI j))]) hx hb d_Mo_takeImage_135 hl rfl (wi_inc1 _) (by decide) rfl (fun ls hl => ?_)
                          refine lv_iinc (k := 4) (v := nI (j + 1)) (lv' := [(6, .int (nI (j + 1))), (4, .int (nI (b + 1))), (0, .ref mo), (3, .int (nI fr)), (5, .int (nI k))]) hx hb d_Mo_takeImage_138 hl rfl (wi_inc1 _) (by decide) rfl (fun ls hl => ?_)
                          refine lv_goto (tgt := 92) hx hb d_Mo_takeImage_141 (by decide) ?_
                          exact ih92 _ (by omega) (j + 1) (b + 1) (upd bf1 b (uf2_64 (fr + j))) _ _ _ rfl (by first | assumption | omega) (by first | assumption | omega) (tb_1 hb0 hb1k) (tb_2 hb0 hb2k (by rw [hfr]) (by rw [← hfr]; exact Int32.not_lt.mpr h114)) hP hD hS (lv_sub hl [2, 3, 1, 4, 0] rfl)
                        · intro h114
                          refine lv_iconst (v := 0) hx hb d_Mo_takeImage_117 (by decide) ?_
                          exact hret 0 (np2_1, tot2_1, nI rt9, pl, ms, nf2_1, sz2_1, bc2_1, bf1, rw, of, mf, uf2_64) _ _ _ 118 d_Mo_takeImage_118 (Or.inr ⟨rfl, hch, fun _ _ _ _ _ _ z => ti_x4 z hnp2 htot2 hp hq64.2 (by omega) h101 (by rw [← hfr]; exact Int32.not_le.mp h114)⟩) hP hD hS
                  exact L92 _ 0 b bf1 _ _ _ rfl (by first | assumption | omega) (by first | assumption | omega) (by first | assumption | omega) (fun j hj => absurd hj (Nat.not_lt_zero j)) hP hD hS (lv_sub hl [1, 2, 3, 4, 0] rfl)
            exact L80 _ 0 0 0 bf _ _ _ rfl (by first | assumption | omega) rfl rfl (fun j hj => absurd hj (Nat.not_lt_zero j)) hP hD hS (lv_sub hl [5, 2, 1, 0] rfl)
          ·
            refine lv_if_ne (tgt := 72) hx hb d_Mo_takeImage_67 (by decide) (fun h9 => absurd h9 (by decide)) (fun _ => ?_)
            refine lv_iconst (v := 0) hx hb d_Mo_takeImage_70 (by decide) ?_
            exact hret 0 (np2_1, tot2_1, nI rt9, pl, ms, nf2_1, sz2_1, bc2_1, bf, rw, of, mf, uf2_64) _ _ _ 71 d_Mo_takeImage_71 (by first | exact Or.inr ⟨rfl, hch, fun _ _ _ _ _ _ z => hq64 _ (ti_x3 z hnp2 htot2 hp)⟩ | exact Or.inr ⟨rfl, hch, fun _ _ _ _ _ _ z => bn_x1 hby hl0 (by omega) h35 (ti_x1 z hnp2 htot2 hp).1⟩ | exact Or.inr ⟨rfl, hch, fun _ _ _ _ _ _ z => bn_x2 (m := 8) rfl hby hl0 (by omega) (Int32.not_le.mpr h44) (ti_x1 z hnp2 htot2 hp).2⟩ | exact Or.inr ⟨rfl, hch, fun _ _ _ _ _ _ z => absurd (ti_x2 z hnp2 htot2 hp) (by omega)⟩) hP hD hS
  ·
    subst e1
    refine lv_istore_n (lv' := [(1, .int (-1)), (0, .ref mo)]) hx hb d_Mo_takeImage_4 rfl hl (by decide) rfl (fun ls hl => ?_)
    refine lv_iload_n hx hb d_Mo_takeImage_5 rfl (lv_at hl 0 rfl) ?_
    refine lv_if_ge (tgt := 11) hx hb d_Mo_takeImage_6 (by decide) (fun h9 => absurd h9 (by decide)) (fun _ => ?_)
    refine lv_iconst (v := 0) hx hb d_Mo_takeImage_9 (by decide) ?_
    exact hret 0 (np2_1, tot2_1, nI rt, pl, ms, nf2_1, sz2_1, bc2_1, bf, rw, of, mf, uf) _ _ _ 10 d_Mo_takeImage_10 (Or.inr ⟨rfl, hch, fun _ _ _ _ _ _ z => hrp (ci_rp z)⟩) hP hD hS
theorem k_Mo_takeImage : cf_V y_Mo_takeImage b_Mo_takeImage 7 (some .boolean) "ReadMapperModel" 0 := ⟨⟨m_1179, (wm_s (q := (y_Mo_takeImage, 43)) (by decide +kernel)), m_9, m_1180⟩, by decide +kernel⟩
set_option maxHeartbeats 4000000 in
set_option maxRecDepth 100000 in
theorem c_Mo_load (l : Launch) (D : va_G) (cA : Nat → ClassId) (K : Nat → Nat) (mo ta aN aS aC aB aR aO aW aD a1 a2 a3 a4 aL aY aM bN bS bC bB bR bO aU : Nat) (rd mp gd : Bool) (zt ir : Int32) (np tot rt pl sg rn rs nh td ms ip it il : Nat) (L J : List Int32) (yf : Nat → Int32) (nf : Nat → Int32) (sz : Nat → Int32) (bc : Nat → Int32) (bf : Nat → Int32) (rw : Nat → Int32) (of : Nat → Int32) (mf : Nat → Int32) (uf : Nat → Int32) (kr : Nat → Int32) (ko : Nat → Int32) (kb : Nat → Int32) (kn : Nat → Int32) (ks : Nat → Int32) (kc : Nat → Int32) (hj : cd_r 200 yf J) (hby : ∀ j, j < J.length → ∃ k, k < 256 ∧ J.getD j 0 = nI k) (hnc : ∀ z, z < 40 → ch_p (nf z)) (hmf : cd_r 200 mf []) : ck_I l y_Mo_load (Cond.code y_Mo_load b_Mo_load 2 (some .int) :: w_all) 4 D cA K [.ref mo] [(mo, .inr (8, [.int zt, .int (nI L.length), .ref ta, .int (nI np), .ref aN, .ref aS, .ref aC, .int (nI tot), .ref aB, .int (bz_c rd), .int (nI rt), .int (nI pl), .ref aR, .ref aO, .int (nI sg), .ref aW, .int (bz_c mp), .int (nI rn), .int (nI rs), .int (bz_c gd), .ref aD, .int (nI nh), .ref a1, .ref a2, .ref a3, .ref a4, .int (nI td), .ref aL, .int (nI J.length), .ref aY, .int (nI ms), .ref aM, .int (nI ip), .int (nI it), .int ir, .int (nI il), .ref bN, .ref bS, .ref bC, .ref bB, .ref bR, .ref bO, .ref aU])), (aY, .inl (cA 0, 200, .inl yf)), (aN, .inl (cA 1, 40, .inl nf)), (aS, .inl (cA 0, 5, .inl sz)), (aC, .inl (cA 0, 5, .inl bc)), (aB, .inl (cA 0, 64, .inl bf)), (aR, .inl (cA 0, 66, .inl rw)), (aO, .inl (cA 0, 66, .inl of)), (aM, .inl (cA 0, 200, .inl mf)), (aU, .inl (cA 0, 66, .inl uf)), (bR, .inl (cA 0, 66, .inl kr)), (bO, .inl (cA 0, 66, .inl ko)), (bB, .inl (cA 0, 64, .inl kb)), (bN, .inl (cA 1, 40, .inl kn)), (bS, .inl (cA 0, 5, .inl ks)), (bC, .inl (cA 0, 5, .inl kc))] (fun (r : Int32) (u : (Int32) × (Bool) × (Nat) × (Nat) × (Nat) × (Nat) × (Nat) × (Bool) × (Nat) × (Nat) × (Nat) × (Nat) × (Int32) × (Nat) × (Nat → Int32) × (Nat → Int32) × (Nat → Int32) × (Nat → Int32) × (Nat → Int32) × (Nat → Int32) × (Nat → Int32) × (Nat → Int32) × (Nat → Int32) × (Nat → Int32) × (Nat → Int32) × (Nat → Int32) × (Nat → Int32) × (Nat → Int32)) => (∀ z, z < 40 → ch_p (u.2.2.2.2.2.2.2.2.2.2.2.2.2.2.1 z)) ∧ ((u.1 = 1 ∧ ¬ (8 ≤ J.length ∧ hd_p J) ∧ u.2.1 = rd ∧ u.2.2.1 = np ∧ u.2.2.2.1 = tot ∧ u.2.2.2.2.1 = rt ∧ u.2.2.2.2.2.1 = pl ∧ u.2.2.2.2.2.2.1 = sg ∧ u.2.2.2.2.2.2.2.1 = mp ∧ u.2.2.2.2.2.2.2.2.1 = nh ∧ (∀ j, j < 66 → u.2.2.2.2.2.2.2.2.2.2.2.2.2.2.2.2.2.2.1 j = rw j) ∧ (∀ j, j < 66 → u.2.2.2.2.2.2.2.2.2.2.2.2.2.2.2.2.2.2.2.1 j = of j) ∧ (∀ j, j < 64 → u.2.2.2.2.2.2.2.2.2.2.2.2.2.2.2.2.2.1 j = bf j) ∧ (∀ j, j < 40 → u.2.2.2.2.2.2.2.2.2.2.2.2.2.2.1 j = nf j) ∧ (∀ j, j < 5 → u.2.2.2.2.2.2.2.2.2.2.2.2.2.2.2.1 j = sz j) ∧ ∀ j, j < 5 → u.2.2.2.2.2.2.2.2.2.2.2.2.2.2.2.2.1 j = bc j) ∨ (u.1 = 2 ∧ (8 ≤ J.length ∧ hd_p J) ∧ (∀ (np : Nat) (NM BS : Nat → List Int32) (rt : Nat) (G : Nat → Int32) (so : Nat → Nat), ¬ ci_p J np NM BS rt G so) ∧ u.2.1 = rd ∧ u.2.2.1 = np ∧ u.2.2.2.1 = tot ∧ u.2.2.2.2.1 = rt ∧ u.2.2.2.2.2.1 = pl ∧ u.2.2.2.2.2.2.1 = sg ∧ u.2.2.2.2.2.2.2.1 = mp ∧ u.2.2.2.2.2.2.2.2.1 = nh ∧ (∀ j, j < 66 → u.2.2.2.2.2.2.2.2.2.2.2.2.2.2.2.2.2.2.1 j = rw j) ∧ (∀ j, j < 66 → u.2.2.2.2.2.2.2.2.2.2.2.2.2.2.2.2.2.2.2.1 j = of j) ∧ (∀ j, j < 64 → u.2.2.2.2.2.2.2.2.2.2.2.2.2.2.2.2.2.1 j = bf j) ∧ (∀ j, j < 40 → u.2.2.2.2.2.2.2.2.2.2.2.2.2.2.1 j = nf j) ∧ (∀ j, j < 5 → u.2.2.2.2.2.2.2.2.2.2.2.2.2.2.2.1 j = sz j) ∧ ∀ j, j < 5 → u.2.2.2.2.2.2.2.2.2.2.2.2.2.2.2.2.1 j = bc j) ∨ (u.1 = 0 ∧ (8 ≤ J.length ∧ hd_p J) ∧ (∃ (NM BS : Nat → List Int32) (rt : Nat) (G : Nat → Int32) (so : Nat → Nat), ci_p J u.2.2.1 NM BS rt G so ∧ nI u.2.2.2.2.1 = nI rt ∧ u.2.2.2.1 = tt_c (bl_c BS) u.2.2.1 ∧ u.2.2.2.2.2.1 = u.2.2.2.1 + u.2.2.1 ∧ rq_p u.2.2.1 NM BS u.2.2.2.2.2.2.2.2.2.2.2.2.2.2.1 u.2.2.2.2.2.2.2.2.2.2.2.2.2.2.2.1 u.2.2.2.2.2.2.2.2.2.2.2.2.2.2.2.2.1 u.2.2.2.2.2.2.2.2.2.2.2.2.2.2.2.2.2.1 ∧ (∀ z, z < u.2.2.2.2.2.1 → u.2.2.2.2.2.2.2.2.2.2.2.2.2.2.2.2.2.2.1 z = G z) ∧ ∀ j, j < u.2.2.2.2.2.1 → u.2.2.2.2.2.2.2.2.2.2.2.2.2.2.2.2.2.2.2.1 j = nI (so j) ∧ so j < u.2.2.2.2.2.1) ∧ u.2.1 = true ∧ u.2.2.2.2.2.2.1 = 0 ∧ u.2.2.2.2.2.2.2.1 = false ∧ u.2.2.2.2.2.2.2.2.1 = 0 ∧ r = nI u.2.2.2.2.2.1))) (fun u => [(mo, .inr (8, [.int u.1, .int (nI L.length), .ref ta, .int (nI u.2.2.1), .ref aN, .ref aS, .ref aC, .int (nI u.2.2.2.1), .ref aB, .int (bz_c u.2.1), .int (nI u.2.2.2.2.1), .int (nI u.2.2.2.2.2.1), .ref aR, .ref aO, .int (nI u.2.2.2.2.2.2.1), .ref aW, .int (bz_c u.2.2.2.2.2.2.2.1), .int (nI rn), .int (nI rs), .int (bz_c gd), .ref aD, .int (nI u.2.2.2.2.2.2.2.2.1), .ref a1, .ref a2, .ref a3, .ref a4, .int (nI td), .ref aL, .int (nI J.length), .ref aY, .int (nI u.2.2.2.2.2.2.2.2.2.1), .ref aM, .int (nI u.2.2.2.2.2.2.2.2.2.2.1), .int (nI u.2.2.2.2.2.2.2.2.2.2.2.1), .int u.2.2.2.2.2.2.2.2.2.2.2.2.1, .int (nI u.2.2.2.2.2.2.2.2.2.2.2.2.2.1), .ref bN, .ref bS, .ref bC, .ref bB, .ref bR, .ref bO, .ref aU])), (aY, .inl (cA 0, 200, .inl yf)), (aN, .inl (cA 1, 40, .inl u.2.2.2.2.2.2.2.2.2.2.2.2.2.2.1)), (aS, .inl (cA 0, 5, .inl u.2.2.2.2.2.2.2.2.2.2.2.2.2.2.2.1)), (aC, .inl (cA 0, 5, .inl u.2.2.2.2.2.2.2.2.2.2.2.2.2.2.2.2.1)), (aB, .inl (cA 0, 64, .inl u.2.2.2.2.2.2.2.2.2.2.2.2.2.2.2.2.2.1)), (aR, .inl (cA 0, 66, .inl u.2.2.2.2.2.2.2.2.2.2.2.2.2.2.2.2.2.2.1)), (aO, .inl (cA 0, 66, .inl u.2.2.2.2.2.2.2.2.2.2.2.2.2.2.2.2.2.2.2.1)), (aM, .inl (cA 0, 200, .inl u.2.2.2.2.2.2.2.2.2.2.2.2.2.2.2.2.2.2.2.2.1)), (aU, .inl (cA 0, 66, .inl u.2.2.2.2.2.2.2.2.2.2.2.2.2.2.2.2.2.2.2.2.2.1)), (bR, .inl (cA 0, 66, .inl u.2.2.2.2.2.2.2.2.2.2.2.2.2.2.2.2.2.2.2.2.2.2.1)), (bO, .inl (cA 0, 66, .inl u.2.2.2.2.2.2.2.2.2.2.2.2.2.2.2.2.2.2.2.2.2.2.2.1)), (bB, .inl (cA 0, 64, .inl u.2.2.2.2.2.2.2.2.2.2.2.2.2.2.2.2.2.2.2.2.2.2.2.2.1)), (bN, .inl (cA 1, 40, .inl u.2.2.2.2.2.2.2.2.2.2.2.2.2.2.2.2.2.2.2.2.2.2.2.2.2.1)), (bS, .inl (cA 0, 5, .inl u.2.2.2.2.2.2.2.2.2.2.2.2.2.2.2.2.2.2.2.2.2.2.2.2.2.2.1)), (bC, .inl (cA 0, 5, .inl u.2.2.2.2.2.2.2.2.2.2.2.2.2.2.2.2.2.2.2.2.2.2.2.2.2.2.2))]) := by
  refine ck_mkI (by decide) (fun _ _ _ => rfl) (Nat.le_of_ble_eq_true rfl) ?_
  intro pG eG sG mG argsG belowG methG cG Q A H locs ls hx hb hml hown hts hK hE hA hP hD hS hl hret
  have hl : lv_has ls 2 [(0, .ref mo)] := hl
  have hl1 := cd_len hj
  have hl0 : J.length ≤ 1000 := by omega
  refine lv_aload_n hx hb d_Mo_load_0 rfl (lv_at hl 0 rfl) ?_
  refine va_get (C := RX8) (T := TX8) (N := 43) hx hb hts inX8 hown hK hP 0 rfl rfl 28 (by decide) (hts _ m_873) (fun _ h9 => h9) rfl d_Mo_load_1 ?_
  refine lv_bipush (v := nI 8) hx hb d_Mo_load_4 (by decide) ?_
  refine wn_icmp_lt (by omega) (by omega) (tgt := 45) hx hb d_Mo_load_6 (by decide) ?_ ?_
  · intro h6
    refine lv_iconst (v := nI 0) hx hb d_Mo_load_45 (by decide) ?_
    refine lv_istore_n (lv' := [(1, .int (nI 0)), (0, .ref mo)]) hx hb d_Mo_load_46 rfl hl (by decide) rfl (fun ls hl => ?_)
    refine lv_aload_n hx hb d_Mo_load_47 rfl (lv_at hl 1 rfl) ?_
    refine lv_iload_n hx hb d_Mo_load_48 rfl (lv_at hl 0 rfl) ?_
    refine lv_if_eq (tgt := 56) hx hb d_Mo_load_49 (by decide) (fun _ => ?_) (fun h9 => absurd h9 (by decide))
    refine lv_iconst (v := nI 1) hx hb d_Mo_load_56 (by decide) ?_
    refine va_put (D := D) (ci := 8) (v := .int (nI 1)) (ty := .int) (C := RX8) (T := TX8) (N := 43) hx hb hts inX8 tyX8 tyX8_ok nmX8 hown hK hP hD hS 0 rfl rfl 0 (by decide) (hts _ m_845) (fun _ h9 => h9) rfl (by decide +kernel) rfl rfl (Nat.le_of_ble_eq_true rfl) d_Mo_load_57 (fun H locs hP hD hS => ?_)
    have hP : va_P D vwCl [(mo, .inr (8, [.int (nI 1), .int (nI L.length), .ref ta, .int (nI np), .ref aN, .ref aS, .ref aC, .int (nI tot), .ref aB, .int (bz_c rd), .int (nI rt), .int (nI pl), .ref aR, .ref aO, .int (nI sg), .ref aW, .int (bz_c mp), .int (nI rn), .int (nI rs), .int (bz_c gd), .ref aD, .int (nI nh), .ref a1, .ref a2, .ref a3, .ref a4, .int (nI td), .ref aL, .int (nI J.length), .ref aY, .int (nI ms), .ref aM, .int (nI ip), .int (nI it), .int ir, .int (nI il), .ref bN, .ref bS, .ref bC, .ref bB, .ref bR, .ref bO, .ref aU])), (aY, .inl (cA 0, 200, .inl yf)), (aN, .inl (cA 1, 40, .inl nf)), (aS, .inl (cA 0, 5, .inl sz)), (aC, .inl (cA 0, 5, .inl bc)), (aB, .inl (cA 0, 64, .inl bf)), (aR, .inl (cA 0, 66, .inl rw)), (aO, .inl (cA 0, 66, .inl of)), (aM, .inl (cA 0, 200, .inl mf)), (aU, .inl (cA 0, 66, .inl uf)), (bR, .inl (cA 0, 66, .inl kr)), (bO, .inl (cA 0, 66, .inl ko)), (bB, .inl (cA 0, 64, .inl kb)), (bN, .inl (cA 1, 40, .inl kn)), (bS, .inl (cA 0, 5, .inl ks)), (bC, .inl (cA 0, 5, .inl kc))] H := hP
    have hD : va_D A [(mo, .inr (8, [.int (nI 1), .int (nI L.length), .ref ta, .int (nI np), .ref aN, .ref aS, .ref aC, .int (nI tot), .ref aB, .int (bz_c rd), .int (nI rt), .int (nI pl), .ref aR, .ref aO, .int (nI sg), .ref aW, .int (bz_c mp), .int (nI rn), .int (nI rs), .int (bz_c gd), .ref aD, .int (nI nh), .ref a1, .ref a2, .ref a3, .ref a4, .int (nI td), .ref aL, .int (nI J.length), .ref aY, .int (nI ms), .ref aM, .int (nI ip), .int (nI it), .int ir, .int (nI il), .ref bN, .ref bS, .ref bC, .ref bB, .ref bR, .ref bO, .ref aU])), (aY, .inl (cA 0, 200, .inl yf)), (aN, .inl (cA 1, 40, .inl nf)), (aS, .inl (cA 0, 5, .inl sz)), (aC, .inl (cA 0, 5, .inl bc)), (aB, .inl (cA 0, 64, .inl bf)), (aR, .inl (cA 0, 66, .inl rw)), (aO, .inl (cA 0, 66, .inl of)), (aM, .inl (cA 0, 200, .inl mf)), (aU, .inl (cA 0, 66, .inl uf)), (bR, .inl (cA 0, 66, .inl kr)), (bO, .inl (cA 0, 66, .inl ko)), (bB, .inl (cA 0, 64, .inl kb)), (bN, .inl (cA 1, 40, .inl kn)), (bS, .inl (cA 0, 5, .inl ks)), (bC, .inl (cA 0, 5, .inl kc))] := hD
    refine lv_iload_n hx hb d_Mo_load_60 rfl (lv_at hl 0 rfl) ?_
    refine lv_if_ne (tgt := 66) hx hb d_Mo_load_61 (by decide) (fun h9 => absurd h9 (by decide)) (fun _ => ?_)
    refine lv_iconst (v := nI 0) hx hb d_Mo_load_64 (by decide) ?_
    exact hret (nI 0) (nI 1, rd, np, tot, rt, pl, sg, mp, nh, ms, ip, it, ir, il, nf, sz, bc, bf, rw, of, mf, uf, kr, ko, kb, kn, ks, kc) _ _ _ 65 d_Mo_load_65 (by first | exact ⟨hnc, Or.inl ⟨rfl, fun z => h38 z.2.2.2, rfl, rfl, rfl, rfl, rfl, rfl, rfl, rfl, fun _ _ => rfl, fun _ _ => rfl, fun _ _ => rfl, fun _ _ => rfl, fun _ _ => rfl, fun _ _ => rfl⟩⟩ | exact ⟨hnc, Or.inl ⟨rfl, fun z => h28 z.2.2.1, rfl, rfl, rfl, rfl, rfl, rfl, rfl, rfl, fun _ _ => rfl, fun _ _ => rfl, fun _ _ => rfl, fun _ _ => rfl, fun _ _ => rfl, fun _ _ => rfl⟩⟩ | exact ⟨hnc, Or.inl ⟨rfl, fun z => h17 z.2.1, rfl, rfl, rfl, rfl, rfl, rfl, rfl, rfl, fun _ _ => rfl, fun _ _ => rfl, fun _ _ => rfl, fun _ _ => rfl, fun _ _ => rfl, fun _ _ => rfl⟩⟩ | exact ⟨hnc, Or.inl ⟨rfl, fun z => by have z1 := z.1; omega, rfl, rfl, rfl, rfl, rfl, rfl, rfl, rfl, fun _ _ => rfl, fun _ _ => rfl, fun _ _ => rfl, fun _ _ => rfl, fun _ _ => rfl, fun _ _ => rfl⟩⟩) hP hD hS
  · intro h6
    refine lv_aload_n hx hb d_Mo_load_9 rfl (lv_at hl 0 rfl) ?_
    refine va_get (C := RX8) (T := TX8) (N := 43) hx hb hts inX8 hown hK hP 0 rfl rfl 29 (by decide) (hts _ m_874) (fun _ h9 => h9) rfl d_Mo_load_10 ?_
    refine lv_iconst (v := nI 0) hx hb d_Mo_load_13 (by decide) ?_
    refine wn_iald hx hb hK hP 1 0 rfl rfl (by omega) (by omega) d_Mo_load_14 ?_
    refine wn_eq (y := at_c J (nI 0)) ((hj.2.2 0 (by omega)).trans (at_n (by omega) hl0).symm) ?_
    refine lv_bipush (v := 70) hx hb d_Mo_load_15 (by decide) ?_
    refine lv_icmp_ne (tgt := 45) hx hb d_Mo_load_17 (by decide) ?_ ?_
    · intro h17
      refine lv_iconst (v := nI 0) hx hb d_Mo_load_45 (by decide) ?_
      refine lv_istore_n (lv' := [(1, .int (nI 0)), (0, .ref mo)]) hx hb d_Mo_load_46 rfl hl (by decide) rfl (fun ls hl => ?_)
      refine lv_aload_n hx hb d_Mo_load_47 rfl (lv_at hl 1 rfl) ?_
      refine lv_iload_n hx hb d_Mo_load_48 rfl (lv_at hl 0 rfl) ?_
      refine lv_if_eq (tgt := 56) hx hb d_Mo_load_49 (by decide) (fun _ => ?_) (fun h9 => absurd h9 (by decide))
      refine lv_iconst (v := nI 1) hx hb d_Mo_load_56 (by decide) ?_
      refine va_put (D := D) (ci := 8) (v := .int (nI 1)) (ty := .int) (C := RX8) (T := TX8) (N := 43) hx hb hts inX8 tyX8 tyX8_ok nmX8 hown hK hP hD hS 0 rfl rfl 0 (by decide) (hts _ m_845) (fun _ h9 => h9) rfl (by decide +kernel) rfl rfl (Nat.le_of_ble_eq_true rfl) d_Mo_load_57 (fun H locs hP hD hS => ?_)
      have hP : va_P D vwCl [(mo, .inr (8, [.int (nI 1), .int (nI L.length), .ref ta, .int (nI np), .ref aN, .ref aS, .ref aC, .int (nI tot), .ref aB, .int (bz_c rd), .int (nI rt), .int (nI pl), .ref aR, .ref aO, .int (nI sg), .ref aW, .int (bz_c mp), .int (nI rn), .int (nI rs), .int (bz_c gd), .ref aD, .int (nI nh), .ref a1, .ref a2, .ref a3, .ref a4, .int (nI td), .ref aL, .int (nI J.length), .ref aY, .int (nI ms), .ref aM, .int (nI ip), .int (nI it), .int ir, .int (nI il), .ref bN, .ref bS, .ref bC, .ref bB, .ref bR, .ref bO, .ref aU])), (aY, .inl (cA 0, 200, .inl yf)), (aN, .inl (cA 1, 40, .inl nf)), (aS, .inl (cA 0, 5, .inl sz)), (aC, .inl (cA 0, 5, .inl bc)), (aB, .inl (cA 0, 64, .inl bf)), (aR, .inl (cA 0, 66, .inl rw)), (aO, .inl (cA 0, 66, .inl of)), (aM, .inl (cA 0, 200, .inl mf)), (aU, .inl (cA 0, 66, .inl uf)), (bR, .inl (cA 0, 66, .inl kr)), (bO, .inl (cA 0, 66, .inl ko)), (bB, .inl (cA 0, 64, .inl kb)), (bN, .inl (cA 1, 40, .inl kn)), (bS, .inl (cA 0, 5, .inl ks)), (bC, .inl (cA 0, 5, .inl kc))] H := hP
      have hD : va_D A [(mo, .inr (8, [.int (nI 1), .int (nI L.length), .ref ta, .int (nI np), .ref aN, .ref aS, .ref aC, .int (nI tot), .ref aB, .int (bz_c rd), .int (nI rt), .int (nI pl), .ref aR, .ref aO, .int (nI sg), .ref aW, .int (bz_c mp), .int (nI rn), .int (nI rs), .int (bz_c gd), .ref aD, .int (nI nh), .ref a1, .ref a2, .ref a3, .ref a4, .int (nI td), .ref aL, .int (nI J.length), .ref aY, .int (nI ms), .ref aM, .int (nI ip), .int (nI it), .int ir, .int (nI il), .ref bN, .ref bS, .ref bC, .ref bB, .ref bR, .ref bO, .ref aU])), (aY, .inl (cA 0, 200, .inl yf)), (aN, .inl (cA 1, 40, .inl nf)), (aS, .inl (cA 0, 5, .inl sz)), (aC, .inl (cA 0, 5, .inl bc)), (aB, .inl (cA 0, 64, .inl bf)), (aR, .inl (cA 0, 66, .inl rw)), (aO, .inl (cA 0, 66, .inl of)), (aM, .inl (cA 0, 200, .inl mf)), (aU, .inl (cA 0, 66, .inl uf)), (bR, .inl (cA 0, 66, .inl kr)), (bO, .inl (cA 0, 66, .inl ko)), (bB, .inl (cA 0, 64, .inl kb)), (bN, .inl (cA 1, 40, .inl kn)), (bS, .inl (cA 0, 5, .inl ks)), (bC, .inl (cA 0, 5, .inl kc))] := hD
      refine lv_iload_n hx hb d_Mo_load_60 rfl (lv_at hl 0 rfl) ?_
      refine lv_if_ne (tgt := 66) hx hb d_Mo_load_61 (by decide) (fun h9 => absurd h9 (by decide)) (fun _ => ?_)
      refine lv_iconst (v := nI 0) hx hb d_Mo_load_64 (by decide) ?_
      exact hret (nI 0) (nI 1, rd, np, tot, rt, pl, sg, mp, nh, ms, ip, it, ir, il, nf, sz, bc, bf, rw, of, mf, uf, kr, ko, kb, kn, ks, kc) _ _ _ 65 d_Mo_load_65 (by first | exact ⟨hnc, Or.inl ⟨rfl, fun z => h38 z.2.2.2, rfl, rfl, rfl, rfl, rfl, rfl, rfl, rfl, fun _ _ => rfl, fun _ _ => rfl, fun _ _ => rfl, fun _ _ => rfl, fun _ _ => rfl, fun _ _ => rfl⟩⟩ | exact ⟨hnc, Or.inl ⟨rfl, fun z => h28 z.2.2.1, rfl, rfl, rfl, rfl, rfl, rfl, rfl, rfl, fun _ _ => rfl, fun _ _ => rfl, fun _ _ => rfl, fun _ _ => rfl, fun _ _ => rfl, fun _ _ => rfl⟩⟩ | exact ⟨hnc, Or.inl ⟨rfl, fun z => h17 z.2.1, rfl, rfl, rfl, rfl, rfl, rfl, rfl, rfl, fun _ _ => rfl, fun _ _ => rfl, fun _ _ => rfl, fun _ _ => rfl, fun _ _ => rfl, fun _ _ => rfl⟩⟩ | exact ⟨hnc, Or.inl ⟨rfl, fun z => by have z1 := z.1; omega, rfl, rfl, rfl, rfl, rfl, rfl, rfl, rfl, fun _ _ => rfl, fun _ _ => rfl, fun _ _ => rfl, fun _ _ => rfl, fun _ _ => rfl, fun _ _ => rfl⟩⟩) hP hD hS
    · intro h17
      refine lv_aload_n hx hb d_Mo_load_20 rfl (lv_at hl 0 rfl) ?_
      refine va_get (C := RX8) (T := TX8) (N := 43) hx hb hts inX8 hown hK hP 0 rfl rfl 29 (by decide) (hts _ m_874) (fun _ h9 => h9) rfl d_Mo_load_21 ?_
      refine lv_iconst (v := nI 1) hx hb d_Mo_load_24 (by decide) ?_
      refine wn_iald hx hb hK hP 1 0 rfl rfl (by omega) (by omega) d_Mo_load_25 ?_
      refine wn_eq (y := at_c J (nI 1)) ((hj.2.2 1 (by omega)).trans (at_n (by omega) hl0).symm) ?_
      refine lv_bipush (v := 77) hx hb d_Mo_load_26 (by decide) ?_
      refine lv_icmp_ne (tgt := 45) hx hb d_Mo_load_28 (by decide) ?_ ?_
      · intro h28
        refine lv_iconst (v := nI 0) hx hb d_Mo_load_45 (by decide) ?_
        refine lv_istore_n (lv' := [(1, .int (nI 0)), (0, .ref mo)]) hx hb d_Mo_load_46 rfl hl (by decide) rfl (fun ls hl => ?_)
        refine lv_aload_n hx hb d_Mo_load_47 rfl (lv_at hl 1 rfl) ?_
        refine lv_iload_n hx hb d_Mo_load_48 rfl (lv_at hl 0 rfl) ?_
        refine lv_if_eq (tgt := 56) hx hb d_Mo_load_49 (by decide) (fun _ => ?_) (fun h9 => absurd h9 (by decide))
        refine lv_iconst (v := nI 1) hx hb d_Mo_load_56 (by decide) ?_
        refine va_put (D := D) (ci := 8) (v := .int (nI 1)) (ty := .int) (C := RX8) (T := TX8) (N := 43) hx hb hts inX8 tyX8 tyX8_ok nmX8 hown hK hP hD hS 0 rfl rfl 0 (by decide) (hts _ m_845) (fun _ h9 => h9) rfl (by decide +kernel) rfl rfl (Nat.le_of_ble_eq_true rfl) d_Mo_load_57 (fun H locs hP hD hS => ?_)
        have hP : va_P D vwCl [(mo, .inr (8, [.int (nI 1), .int (nI L.length), .ref ta, .int (nI np), .ref aN, .ref aS, .ref aC, .int (nI tot), .ref aB, .int (bz_c rd), .int (nI rt), .int (nI pl), .ref aR, .ref aO, .int (nI sg), .ref aW, .int (bz_c mp), .int (nI rn), .int (nI rs), .int (bz_c gd), .ref aD, .int (nI nh), .ref a1, .ref a2, .ref a3, .ref a4, .int (nI td), .ref aL, .int (nI J.length), .ref aY, .int (nI ms), .ref aM, .int (nI ip), .int (nI it), .int ir, .int (nI il), .ref bN, .ref bS, .ref bC, .ref bB, .ref bR, .ref bO, .ref aU])), (aY, .inl (cA 0, 200, .inl yf)), (aN, .inl (cA 1, 40, .inl nf)), (aS, .inl (cA 0, 5, .inl sz)), (aC, .inl (cA 0, 5, .inl bc)), (aB, .inl (cA 0, 64, .inl bf)), (aR, .inl (cA 0, 66, .inl rw)), (aO, .inl (cA 0, 66, .inl of)), (aM, .inl (cA 0, 200, .inl mf)), (aU, .inl (cA 0, 66, .inl uf)), (bR, .inl (cA 0, 66, .inl kr)), (bO, .inl (cA 0, 66, .inl ko)), (bB, .inl (cA 0, 64, .inl kb)), (bN, .inl (cA 1, 40, .inl kn)), (bS, .inl (cA 0, 5, .inl ks)), (bC, .inl (cA 0, 5, .inl kc))] H := hP
        have hD : va_D A [(mo, .inr (8, [.int (nI 1), .int (nI L.length), .ref ta, .int (nI np), .ref aN, .ref aS, .ref aC, .int (nI tot), .ref aB, .int (bz_c rd), .int (nI rt), .int (nI pl), .ref aR, .ref aO, .int (nI sg), .ref aW, .int (bz_c mp), .int (nI rn), .int (nI rs), .int (bz_c gd), .ref aD, .int (nI nh), .ref a1, .ref a2, .ref a3, .ref a4, .int (nI td), .ref aL, .int (nI J.length), .ref aY, .int (nI ms), .ref aM, .int (nI ip), .int (nI it), .int ir, .int (nI il), .ref bN, .ref bS, .ref bC, .ref bB, .ref bR, .ref bO, .ref aU])), (aY, .inl (cA 0, 200, .inl yf)), (aN, .inl (cA 1, 40, .inl nf)), (aS, .inl (cA 0, 5, .inl sz)), (aC, .inl (cA 0, 5, .inl bc)), (aB, .inl (cA 0, 64, .inl bf)), (aR, .inl (cA 0, 66, .inl rw)), (aO, .inl (cA 0, 66, .inl of)), (aM, .inl (cA 0, 200, .inl mf)), (aU, .inl (cA 0, 66, .inl uf)), (bR, .inl (cA 0, 66, .inl kr)), (bO, .inl (cA 0, 66, .inl ko)), (bB, .inl (cA 0, 64, .inl kb)), (bN, .inl (cA 1, 40, .inl kn)), (bS, .inl (cA 0, 5, .inl ks)), (bC, .inl (cA 0, 5, .inl kc))] := hD
        refine lv_iload_n hx hb d_Mo_load_60 rfl (lv_at hl 0 rfl) ?_
        refine lv_if_ne (tgt := 66) hx hb d_Mo_load_61 (by decide) (fun h9 => absurd h9 (by decide)) (fun _ => ?_)
        refine lv_iconst (v := nI 0) hx hb d_Mo_load_64 (by decide) ?_
        exact hret (nI 0) (nI 1, rd, np, tot, rt, pl, sg, mp, nh, ms, ip, it, ir, il, nf, sz, bc, bf, rw, of, mf, uf, kr, ko, kb, kn, ks, kc) _ _ _ 65 d_Mo_load_65 (by first | exact ⟨hnc, Or.inl ⟨rfl, fun z => h38 z.2.2.2, rfl, rfl, rfl, rfl, rfl, rfl, rfl, rfl, fun _ _ => rfl, fun _ _ => rfl, fun _ _ => rfl, fun _ _ => rfl, fun _ _ => rfl, fun _ _ => rfl⟩⟩ | exact ⟨hnc, Or.inl ⟨rfl, fun z => h28 z.2.2.1, rfl, rfl, rfl, rfl, rfl, rfl, rfl, rfl, fun _ _ => rfl, fun _ _ => rfl, fun _ _ => rfl, fun _ _ => rfl, fun _ _ => rfl, fun _ _ => rfl⟩⟩ | exact ⟨hnc, Or.inl ⟨rfl, fun z => h17 z.2.1, rfl, rfl, rfl, rfl, rfl, rfl, rfl, rfl, fun _ _ => rfl, fun _ _ => rfl, fun _ _ => rfl, fun _ _ => rfl, fun _ _ => rfl, fun _ _ => rfl⟩⟩ | exact ⟨hnc, Or.inl ⟨rfl, fun z => by have z1 := z.1; omega, rfl, rfl, rfl, rfl, rfl, rfl, rfl, rfl, fun _ _ => rfl, fun _ _ => rfl, fun _ _ => rfl, fun _ _ => rfl, fun _ _ => rfl, fun _ _ => rfl⟩⟩) hP hD hS
      · intro h28
        refine lv_aload_n hx hb d_Mo_load_31 rfl (lv_at hl 0 rfl) ?_
        refine va_get (C := RX8) (T := TX8) (N := 43) hx hb hts inX8 hown hK hP 0 rfl rfl 29 (by decide) (hts _ m_874) (fun _ h9 => h9) rfl d_Mo_load_32 ?_
        refine lv_iconst (v := nI 2) hx hb d_Mo_load_35 (by decide) ?_
        refine wn_iald hx hb hK hP 1 0 rfl rfl (by omega) (by omega) d_Mo_load_36 ?_
        refine wn_eq (y := at_c J (nI 2)) ((hj.2.2 2 (by omega)).trans (at_n (by omega) hl0).symm) ?_
        refine lv_iconst (v := 1) hx hb d_Mo_load_37 (by decide) ?_
        refine lv_icmp_ne (tgt := 45) hx hb d_Mo_load_38 (by decide) ?_ ?_
        · intro h38
          refine lv_iconst (v := nI 0) hx hb d_Mo_load_45 (by decide) ?_
          refine lv_istore_n (lv' := [(1, .int (nI 0)), (0, .ref mo)]) hx hb d_Mo_load_46 rfl hl (by decide) rfl (fun ls hl => ?_)
          refine lv_aload_n hx hb d_Mo_load_47 rfl (lv_at hl 1 rfl) ?_
          refine lv_iload_n hx hb d_Mo_load_48 rfl (lv_at hl 0 rfl) ?_
          refine lv_if_eq (tgt := 56) hx hb d_Mo_load_49 (by decide) (fun _ => ?_) (fun h9 => absurd h9 (by decide))
          refine lv_iconst (v := nI 1) hx hb d_Mo_load_56 (by decide) ?_
          refine va_put (D := D) (ci := 8) (v := .int (nI 1)) (ty := .int) (C := RX8) (T := TX8) (N := 43) hx hb hts inX8 tyX8 tyX8_ok nmX8 hown hK hP hD hS 0 rfl rfl 0 (by decide) (hts _ m_845) (fun _ h9 => h9) rfl (by decide +kernel) rfl rfl (Nat.le_of_ble_eq_true rfl) d_Mo_load_57 (fun H locs hP hD hS => ?_)
          have hP : va_P D vwCl [(mo, .inr (8, [.int (nI 1), .int (nI L.length), .ref ta, .int (nI np), .ref aN, .ref aS, .ref aC, .int (nI tot), .ref aB, .int (bz_c rd), .int (nI rt), .int (nI pl), .ref aR, .ref aO, .int (nI sg), .ref aW, .int (bz_c mp), .int (nI rn), .int (nI rs), .int (bz_c gd), .ref aD, .int (nI nh), .ref a1, .ref a2, .ref a3, .ref a4, .int (nI td), .ref aL, .int (nI J.length), .ref aY, .int (nI ms), .ref aM, .int (nI ip), .int (nI it), .int ir, .int (nI il), .ref bN, .ref bS, .ref bC, .ref bB, .ref bR, .ref bO, .ref aU])), (aY, .inl (cA 0, 200, .inl yf)), (aN, .inl (cA 1, 40, .inl nf)), (aS, .inl (cA 0, 5, .inl sz)), (aC, .inl (cA 0, 5, .inl bc)), (aB, .inl (cA 0, 64, .inl bf)), (aR, .inl (cA 0, 66, .inl rw)), (aO, .inl (cA 0, 66, .inl of)), (aM, .inl (cA 0, 200, .inl mf)), (aU, .inl (cA 0, 66, .inl uf)), (bR, .inl (cA 0, 66, .inl kr)), (bO, .inl (cA 0, 66, .inl ko)), (bB, .inl (cA 0, 64, .inl kb)), (bN, .inl (cA 1, 40, .inl kn)), (bS, .inl (cA 0, 5, .inl ks)), (bC, .inl (cA 0, 5, .inl kc))] H := hP
          have hD : va_D A [(mo, .inr (8, [.int (nI 1), .int (nI L.length), .ref ta, .int (nI np), .ref aN, .ref aS, .ref aC, .int (nI tot), .ref aB, .int (bz_c rd), .int (nI rt), .int (nI pl), .ref aR, .ref aO, .int (nI sg), .ref aW, .int (bz_c mp), .int (nI rn), .int (nI rs), .int (bz_c gd), .ref aD, .int (nI nh), .ref a1, .ref a2, .ref a3, .ref a4, .int (nI td), .ref aL, .int (nI J.length), .ref aY, .int (nI ms), .ref aM, .int (nI ip), .int (nI it), .int ir, .int (nI il), .ref bN, .ref bS, .ref bC, .ref bB, .ref bR, .ref bO, .ref aU])), (aY, .inl (cA 0, 200, .inl yf)), (aN, .inl (cA 1, 40, .inl nf)), (aS, .inl (cA 0, 5, .inl sz)), (aC, .inl (cA 0, 5, .inl bc)), (aB, .inl (cA 0, 64, .inl bf)), (aR, .inl (cA 0, 66, .inl rw)), (aO, .inl (cA 0, 66, .inl of)), (aM, .inl (cA 0, 200, .inl mf)), (aU, .inl (cA 0, 66, .inl uf)), (bR, .inl (cA 0, 66, .inl kr)), (bO, .inl (cA 0, 66, .inl ko)), (bB, .inl (cA 0, 64, .inl kb)), (bN, .inl (cA 1, 40, .inl kn)), (bS, .inl (cA 0, 5, .inl ks)), (bC, .inl (cA 0, 5, .inl kc))] := hD
          refine lv_iload_n hx hb d_Mo_load_60 rfl (lv_at hl 0 rfl) ?_
          refine lv_if_ne (tgt := 66) hx hb d_Mo_load_61 (by decide) (fun h9 => absurd h9 (by decide)) (fun _ => ?_)
          refine lv_iconst (v := nI 0) hx hb d_Mo_load_64 (by decide) ?_
          exact hret (nI 0) (nI 1, rd, np, tot, rt, pl, sg, mp, nh, ms, ip, it, ir, il, nf, sz, bc, bf, rw, of, mf, uf, kr, ko, kb, kn, ks, kc) _ _ _ 65 d_Mo_load_65 (by first | exact ⟨hnc, Or.inl ⟨rfl, fun z => h38 z.2.2.2, rfl, rfl, rfl, rfl, rfl, rfl, rfl, rfl, fun _ _ => rfl, fun _ _ => rfl, fun _ _ => rfl, fun _ _ => rfl, fun _ _ => rfl, fun _ _ => rfl⟩⟩ | exact ⟨hnc, Or.inl ⟨rfl, fun z => h28 z.2.2.1, rfl, rfl, rfl, rfl, rfl, rfl, rfl, rfl, fun _ _ => rfl, fun _ _ => rfl, fun _ _ => rfl, fun _ _ => rfl, fun _ _ => rfl, fun _ _ => rfl⟩⟩ | exact ⟨hnc, Or.inl ⟨rfl, fun z => h17 z.2.1, rfl, rfl, rfl, rfl, rfl, rfl, rfl, rfl, fun _ _ => rfl, fun _ _ => rfl, fun _ _ => rfl, fun _ _ => rfl, fun _ _ => rfl, fun _ _ => rfl⟩⟩ | exact ⟨hnc, Or.inl ⟨rfl, fun z => by have z1 := z.1; omega, rfl, rfl, rfl, rfl, rfl, rfl, rfl, rfl, fun _ _ => rfl, fun _ _ => rfl, fun _ _ => rfl, fun _ _ => rfl, fun _ _ => rfl, fun _ _ => rfl⟩⟩) hP hD hS
        · intro h38
          refine lv_iconst (v := nI 1) hx hb d_Mo_load_41 (by decide) ?_
          refine lv_goto (tgt := 46) hx hb d_Mo_load_42 (by decide) ?_
          refine lv_istore_n (lv' := [(1, .int (nI 1)), (0, .ref mo)]) hx hb d_Mo_load_46 rfl hl (by decide) rfl (fun ls hl => ?_)
          refine lv_aload_n hx hb d_Mo_load_47 rfl (lv_at hl 1 rfl) ?_
          refine lv_iload_n hx hb d_Mo_load_48 rfl (lv_at hl 0 rfl) ?_
          refine lv_if_eq (tgt := 56) hx hb d_Mo_load_49 (by decide) (fun h9 => absurd h9 (by decide)) (fun _ => ?_)
          refine lv_iconst (v := nI 0) hx hb d_Mo_load_52 (by decide) ?_
          refine lv_goto (tgt := 57) hx hb d_Mo_load_53 (by decide) ?_
          refine va_put (D := D) (ci := 8) (v := .int (nI 0)) (ty := .int) (C := RX8) (T := TX8) (N := 43) hx hb hts inX8 tyX8 tyX8_ok nmX8 hown hK hP hD hS 0 rfl rfl 0 (by decide) (hts _ m_845) (fun _ h9 => h9) rfl (by decide +kernel) rfl rfl (Nat.le_of_ble_eq_true rfl) d_Mo_load_57 (fun H locs hP hD hS => ?_)
          have hP : va_P D vwCl [(mo, .inr (8, [.int (nI 0), .int (nI L.length), .ref ta, .int (nI np), .ref aN, .ref aS, .ref aC, .int (nI tot), .ref aB, .int (bz_c rd), .int (nI rt), .int (nI pl), .ref aR, .ref aO, .int (nI sg), .ref aW, .int (bz_c mp), .int (nI rn), .int (nI rs), .int (bz_c gd), .ref aD, .int (nI nh), .ref a1, .ref a2, .ref a3, .ref a4, .int (nI td), .ref aL, .int (nI J.length), .ref aY, .int (nI ms), .ref aM, .int (nI ip), .int (nI it), .int ir, .int (nI il), .ref bN, .ref bS, .ref bC, .ref bB, .ref bR, .ref bO, .ref aU])), (aY, .inl (cA 0, 200, .inl yf)), (aN, .inl (cA 1, 40, .inl nf)), (aS, .inl (cA 0, 5, .inl sz)), (aC, .inl (cA 0, 5, .inl bc)), (aB, .inl (cA 0, 64, .inl bf)), (aR, .inl (cA 0, 66, .inl rw)), (aO, .inl (cA 0, 66, .inl of)), (aM, .inl (cA 0, 200, .inl mf)), (aU, .inl (cA 0, 66, .inl uf)), (bR, .inl (cA 0, 66, .inl kr)), (bO, .inl (cA 0, 66, .inl ko)), (bB, .inl (cA 0, 64, .inl kb)), (bN, .inl (cA 1, 40, .inl kn)), (bS, .inl (cA 0, 5, .inl ks)), (bC, .inl (cA 0, 5, .inl kc))] H := hP
          have hD : va_D A [(mo, .inr (8, [.int (nI 0), .int (nI L.length), .ref ta, .int (nI np), .ref aN, .ref aS, .ref aC, .int (nI tot), .ref aB, .int (bz_c rd), .int (nI rt), .int (nI pl), .ref aR, .ref aO, .int (nI sg), .ref aW, .int (bz_c mp), .int (nI rn), .int (nI rs), .int (bz_c gd), .ref aD, .int (nI nh), .ref a1, .ref a2, .ref a3, .ref a4, .int (nI td), .ref aL, .int (nI J.length), .ref aY, .int (nI ms), .ref aM, .int (nI ip), .int (nI it), .int ir, .int (nI il), .ref bN, .ref bS, .ref bC, .ref bB, .ref bR, .ref bO, .ref aU])), (aY, .inl (cA 0, 200, .inl yf)), (aN, .inl (cA 1, 40, .inl nf)), (aS, .inl (cA 0, 5, .inl sz)), (aC, .inl (cA 0, 5, .inl bc)), (aB, .inl (cA 0, 64, .inl bf)), (aR, .inl (cA 0, 66, .inl rw)), (aO, .inl (cA 0, 66, .inl of)), (aM, .inl (cA 0, 200, .inl mf)), (aU, .inl (cA 0, 66, .inl uf)), (bR, .inl (cA 0, 66, .inl kr)), (bO, .inl (cA 0, 66, .inl ko)), (bB, .inl (cA 0, 64, .inl kb)), (bN, .inl (cA 1, 40, .inl kn)), (bS, .inl (cA 0, 5, .inl ks)), (bC, .inl (cA 0, 5, .inl kc))] := hD
          refine lv_iload_n hx hb d_Mo_load_60 rfl (lv_at hl 0 rfl) ?_
          refine lv_if_ne (tgt := 66) hx hb d_Mo_load_61 (by decide) (fun _ => ?_) (fun h9 => absurd h9 (by decide))
          refine lv_aload_n hx hb d_Mo_load_66 rfl (lv_at hl 1 rfl) ?_
          refine lv_iconst (v := nI 0) hx hb d_Mo_load_67 (by decide) ?_
          refine ck_cVv (C := "ReadMapperModel") (ci := 8) (rest := []) (wr := [(aY, .inl (cA 0, 200, .inl yf)), (aM, .inl (cA 0, 200, .inl mf)), (aU, .inl (cA 0, 66, .inl uf))]) (ws2 := fun u => [(mo, .inr (8, [.int (nI 0), .int (nI L.length), .ref ta, .int (nI np), .ref aN, .ref aS, .ref aC, .int (nI tot), .ref aB, .int (bz_c rd), .int (nI rt), .int (nI pl), .ref aR, .ref aO, .int (nI sg), .ref aW, .int (bz_c mp), .int (nI rn), .int (nI rs), .int (bz_c gd), .ref aD, .int (nI nh), .ref a1, .ref a2, .ref a3, .ref a4, .int (nI td), .ref aL, .int (nI J.length), .ref aY, .int (nI ms), .ref aM, .int (nI np), .int (nI tot), .int (nI rt), .int (nI pl), .ref bN, .ref bS, .ref bC, .ref bB, .ref bR, .ref bO, .ref aU])), (aY, .inl (cA 0, 200, .inl yf)), (aN, .inl (cA 1, 40, .inl nf)), (aS, .inl (cA 0, 5, .inl sz)), (aC, .inl (cA 0, 5, .inl bc)), (aB, .inl (cA 0, 64, .inl bf)), (aR, .inl (cA 0, 66, .inl rw)), (aO, .inl (cA 0, 66, .inl of)), (aM, .inl (cA 0, 200, .inl mf)), (aU, .inl (cA 0, 66, .inl uf)), (bR, .inl (cA 0, 66, .inl u.1)), (bO, .inl (cA 0, 66, .inl u.2.1)), (bB, .inl (cA 0, 64, .inl u.2.2.1)), (bN, .inl (cA 1, 40, .inl u.2.2.2.1)), (bS, .inl (cA 0, 5, .inl u.2.2.2.2.1)), (bC, .inl (cA 0, 5, .inl u.2.2.2.2.2))]) (c_Mo_hold0 l D cA K mo ta aN aS aC aB aR aO aW aD a1 a2 a3 a4 aL aY aM bN bS bC bB bR bO aU rd mp gd (nI 0) ir np tot pl sg rn rs nh td ms ip it il L J (nI rt) kr ko kb kn ks kc rw of bf nf sz bc (by first | assumption | omega)) hx hb hml hown hts hK hE hA hP hD hS k_Mo_hold m_1173 (by decide) 0 rfl rfl rfl hl.1 rfl (Nat.le_of_ble_eq_true rfl) d_Mo_load_68  [0, 10, 11, 12, 13, 14, 15, 6, 7, 5, 2, 3, 4] [1, 8, 9] [3, 0, 13, 14, 15, 12, 10, 11, 1, 2, 4, 5, 6, 7, 8, 9] rfl rfl (by decide) (fun _ => rfl) (fun u68 H locs hq68 hP hD hS => ?_)
          obtain ⟨kr2_68, ko2_68, kb2_68, kn2_68, ks2_68, kc2_68⟩ := u68
          try dsimp only at hq68
          have hP : va_P D vwCl [(mo, .inr (8, [.int (nI 0), .int (nI L.length), .ref ta, .int (nI np), .ref aN, .ref aS, .ref aC, .int (nI tot), .ref aB, .int (bz_c rd), .int (nI rt), .int (nI pl), .ref aR, .ref aO, .int (nI sg), .ref aW, .int (bz_c mp), .int (nI rn), .int (nI rs), .int (bz_c gd), .ref aD, .int (nI nh), .ref a1, .ref a2, .ref a3, .ref a4, .int (nI td), .ref aL, .int (nI J.length), .ref aY, .int (nI ms), .ref aM, .int (nI np), .int (nI tot), .int (nI rt), .int (nI pl), .ref bN, .ref bS, .ref bC, .ref bB, .ref bR, .ref bO, .ref aU])), (aY, .inl (cA 0, 200, .inl yf)), (aN, .inl (cA 1, 40, .inl nf)), (aS, .inl (cA 0, 5, .inl sz)), (aC, .inl (cA 0, 5, .inl bc)), (aB, .inl (cA 0, 64, .inl bf)), (aR, .inl (cA 0, 66, .inl rw)), (aO, .inl (cA 0, 66, .inl of)), (aM, .inl (cA 0, 200, .inl mf)), (aU, .inl (cA 0, 66, .inl uf)), (bR, .inl (cA 0, 66, .inl kr2_68)), (bO, .inl (cA 0, 66, .inl ko2_68)), (bB, .inl (cA 0, 64, .inl kb2_68)), (bN, .inl (cA 1, 40, .inl kn2_68)), (bS, .inl (cA 0, 5, .inl ks2_68)), (bC, .inl (cA 0, 5, .inl kc2_68))] H := hP
          have hD : va_D A [(mo, .inr (8, [.int (nI 0), .int (nI L.length), .ref ta, .int (nI np), .ref aN, .ref aS, .ref aC, .int (nI tot), .ref aB, .int (bz_c rd), .int (nI rt), .int (nI pl), .ref aR, .ref aO, .int (nI sg), .ref aW, .int (bz_c mp), .int (nI rn), .int (nI rs), .int (bz_c gd), .ref aD, .int (nI nh), .ref a1, .ref a2, .ref a3, .ref a4, .int (nI td), .ref aL, .int (nI J.length), .ref aY, .int (nI ms), .ref aM, .int (nI np), .int (nI tot), .int (nI rt), .int (nI pl), .ref bN, .ref bS, .ref bC, .ref bB, .ref bR, .ref bO, .ref aU])), (aY, .inl (cA 0, 200, .inl yf)), (aN, .inl (cA 1, 40, .inl nf)), (aS, .inl (cA 0, 5, .inl sz)), (aC, .inl (cA 0, 5, .inl bc)), (aB, .inl (cA 0, 64, .inl bf)), (aR, .inl (cA 0, 66, .inl rw)), (aO, .inl (cA 0, 66, .inl of)), (aM, .inl (cA 0, 200, .inl mf)), (aU, .inl (cA 0, 66, .inl uf)), (bR, .inl (cA 0, 66, .inl kr2_68)), (bO, .inl (cA 0, 66, .inl ko2_68)), (bB, .inl (cA 0, 64, .inl kb2_68)), (bN, .inl (cA 1, 40, .inl kn2_68)), (bS, .inl (cA 0, 5, .inl ks2_68)), (bC, .inl (cA 0, 5, .inl kc2_68))] := hD
          obtain ⟨hh1, hh2, hh3, hh4, hh5, hh6⟩ := hq68
          refine lv_aload_n hx hb d_Mo_load_71 rfl (lv_at hl 1 rfl) ?_
          refine ck_cV (C := "ReadMapperModel") (ci := 8) (rest := []) (wr := [(bR, .inl (cA 0, 66, .inl kr2_68)), (bO, .inl (cA 0, 66, .inl ko2_68)), (bB, .inl (cA 0, 64, .inl kb2_68)), (bN, .inl (cA 1, 40, .inl kn2_68)), (bS, .inl (cA 0, 5, .inl ks2_68)), (bC, .inl (cA 0, 5, .inl kc2_68))]) (ws2 := fun u => [(mo, .inr (8, [.int (nI 0), .int (nI L.length), .ref ta, .int (nI u.1), .ref aN, .ref aS, .ref aC, .int (nI u.2.1), .ref aB, .int (bz_c rd), .int u.2.2.1, .int (nI u.2.2.2.1), .ref aR, .ref aO, .int (nI sg), .ref aW, .int (bz_c mp), .int (nI rn), .int (nI rs), .int (bz_c gd), .ref aD, .int (nI nh), .ref a1, .ref a2, .ref a3, .ref a4, .int (nI td), .ref aL, .int (nI J.length), .ref aY, .int (nI u.2.2.2.2.1), .ref aM, .int (nI np), .int (nI tot), .int (nI rt), .int (nI pl), .ref bN, .ref bS, .ref bC, .ref bB, .ref bR, .ref bO, .ref aU])), (aY, .inl (cA 0, 200, .inl yf)), (aN, .inl (cA 1, 40, .inl u.2.2.2.2.2.1)), (aS, .inl (cA 0, 5, .inl u.2.2.2.2.2.2.1)), (aC, .inl (cA 0, 5, .inl u.2.2.2.2.2.2.2.1)), (aB, .inl (cA 0, 64, .inl u.2.2.2.2.2.2.2.2.1)), (aR, .inl (cA 0, 66, .inl u.2.2.2.2.2.2.2.2.2.1)), (aO, .inl (cA 0, 66, .inl u.2.2.2.2.2.2.2.2.2.2.1)), (aM, .inl (cA 0, 200, .inl u.2.2.2.2.2.2.2.2.2.2.2.1)), (aU, .inl (cA 0, 66, .inl u.2.2.2.2.2.2.2.2.2.2.2.2)), (bR, .inl (cA 0, 66, .inl kr2_68)), (bO, .inl (cA 0, 66, .inl ko2_68)), (bB, .inl (cA 0, 64, .inl kb2_68)), (bN, .inl (cA 1, 40, .inl kn2_68)), (bS, .inl (cA 0, 5, .inl ks2_68)), (bC, .inl (cA 0, 5, .inl kc2_68))]) (c_Mo_takeImage l D cA K mo ta aN aS aC aB aR aO aW aD a1 a2 a3 a4 aL aY aM bN bS bC bB bR bO aU rd mp gd (nI 0) (nI rt) np tot rt pl sg rn rs nh td ms np tot pl L J yf nf sz bc bf rw of mf uf (by first | assumption | omega) (by first | assumption | omega) hnc (by first | assumption | omega)) hx hb hml hown hts hK hE hA hP hD hS k_Mo_takeImage m_1177 (by decide) 0 rfl rfl rfl hl.1 rfl (Nat.le_of_ble_eq_true rfl) d_Mo_load_72  [0, 1, 2, 3, 4, 5, 6, 7, 8, 9] [10, 11, 12, 13, 14, 15] [6, 7, 8, 9, 10, 11, 12, 13, 14, 15, 0, 1, 2, 3, 4, 5] rfl rfl (by decide) (fun _ => rfl) (fun r72 u72 H locs hq72 hP hD hS => ?_)
          obtain ⟨np2_72, tot2_72, ri2_72, pl2_72, ms2_72, nf2_72, sz2_72, bc2_72, bf2_72, rw2_72, of2_72, mf2_72, uf2_72⟩ := u72
          try dsimp only at hq72
          have hP : va_P D vwCl [(mo, .inr (8, [.int (nI 0), .int (nI L.length), .ref ta, .int (nI np2_72), .ref aN, .ref aS, .ref aC, .int (nI tot2_72), .ref aB, .int (bz_c rd), .int ri2_72, .int (nI pl2_72), .ref aR, .ref aO, .int (nI sg), .ref aW, .int (bz_c mp), .int (nI rn), .int (nI rs), .int (bz_c gd), .ref aD, .int (nI nh), .ref a1, .ref a2, .ref a3, .ref a4, .int (nI td), .ref aL, .int (nI J.length), .ref aY, .int (nI ms2_72), .ref aM, .int (nI np), .int (nI tot), .int (nI rt), .int (nI pl), .ref bN, .ref bS, .ref bC, .ref bB, .ref bR, .ref bO, .ref aU])), (aY, .inl (cA 0, 200, .inl yf)), (aN, .inl (cA 1, 40, .inl nf2_72)), (aS, .inl (cA 0, 5, .inl sz2_72)), (aC, .inl (cA 0, 5, .inl bc2_72)), (aB, .inl (cA 0, 64, .inl bf2_72)), (aR, .inl (cA 0, 66, .inl rw2_72)), (aO, .inl (cA 0, 66, .inl of2_72)), (aM, .inl (cA 0, 200, .inl mf2_72)), (aU, .inl (cA 0, 66, .inl uf2_72)), (bR, .inl (cA 0, 66, .inl kr2_68)), (bO, .inl (cA 0, 66, .inl ko2_68)), (bB, .inl (cA 0, 64, .inl kb2_68)), (bN, .inl (cA 1, 40, .inl kn2_68)), (bS, .inl (cA 0, 5, .inl ks2_68)), (bC, .inl (cA 0, 5, .inl kc2_68))] H := hP
          have hD : va_D A [(mo, .inr (8, [.int (nI 0), .int (nI L.length), .ref ta, .int (nI np2_72), .ref aN, .ref aS, .ref aC, .int (nI tot2_72), .ref aB, .int (bz_c rd), .int ri2_72, .int (nI pl2_72), .ref aR, .ref aO, .int (nI sg), .ref aW, .int (bz_c mp), .int (nI rn), .int (nI rs), .int (bz_c gd), .ref aD, .int (nI nh), .ref a1, .ref a2, .ref a3, .ref a4, .int (nI td), .ref aL, .int (nI J.length), .ref aY, .int (nI ms2_72), .ref aM, .int (nI np), .int (nI tot), .int (nI rt), .int (nI pl), .ref bN, .ref bS, .ref bC, .ref bB, .ref bR, .ref bO, .ref aU])), (aY, .inl (cA 0, 200, .inl yf)), (aN, .inl (cA 1, 40, .inl nf2_72)), (aS, .inl (cA 0, 5, .inl sz2_72)), (aC, .inl (cA 0, 5, .inl bc2_72)), (aB, .inl (cA 0, 64, .inl bf2_72)), (aR, .inl (cA 0, 66, .inl rw2_72)), (aO, .inl (cA 0, 66, .inl of2_72)), (aM, .inl (cA 0, 200, .inl mf2_72)), (aU, .inl (cA 0, 66, .inl uf2_72)), (bR, .inl (cA 0, 66, .inl kr2_68)), (bO, .inl (cA 0, 66, .inl ko2_68)), (bB, .inl (cA 0, 64, .inl kb2_68)), (bN, .inl (cA 1, 40, .inl kn2_68)), (bS, .inl (cA 0, 5, .inl ks2_68)), (bC, .inl (cA 0, 5, .inl kc2_68))] := hD
          rcases hq72 with ⟨rfl, hq72⟩ | ⟨rfl, hq72⟩
          ·
            obtain ⟨hch, NM, BS, rt9, G, so, hci, hri, hok⟩ := hq72
            subst hri
            refine lv_if_ne (tgt := 90) hx hb d_Mo_load_75 (by decide) (fun _ => ?_) (fun h9 => absurd h9 (by decide))
            refine lv_aload_n hx hb d_Mo_load_90 rfl (lv_at hl 1 rfl) ?_
            refine lv_iconst (v := 1) hx hb d_Mo_load_91 (by decide) ?_
            refine va_put (D := D) (ci := 8) (v := .int 1) (ty := .boolean) (C := RX8) (T := TX8) (N := 43) hx hb hts inX8 tyX8 tyX8_ok nmX8 hown hK hP hD hS 0 rfl rfl 9 (by decide) (hts _ m_854) (fun _ h9 => h9) rfl (by decide +kernel) rfl rfl (Nat.le_of_ble_eq_true rfl) d_Mo_load_92 (fun H locs hP hD hS => ?_)
            have hP : va_P D vwCl [(mo, .inr (8, [.int (nI 0), .int (nI L.length), .ref ta, .int (nI np2_72), .ref aN, .ref aS, .ref aC, .int (nI tot2_72), .ref aB, .int 1, .int (nI rt9), .int (nI pl2_72), .ref aR, .ref aO, .int (nI sg), .ref aW, .int (bz_c mp), .int (nI rn), .int (nI rs), .int (bz_c gd), .ref aD, .int (nI nh), .ref a1, .ref a2, .ref a3, .ref a4, .int (nI td), .ref aL, .int (nI J.length), .ref aY, .int (nI ms2_72), .ref aM, .int (nI np), .int (nI tot), .int (nI rt), .int (nI pl), .ref bN, .ref bS, .ref bC, .ref bB, .ref bR, .ref bO, .ref aU])), (aY, .inl (cA 0, 200, .inl yf)), (aN, .inl (cA 1, 40, .inl nf2_72)), (aS, .inl (cA 0, 5, .inl sz2_72)), (aC, .inl (cA 0, 5, .inl bc2_72)), (aB, .inl (cA 0, 64, .inl bf2_72)), (aR, .inl (cA 0, 66, .inl rw2_72)), (aO, .inl (cA 0, 66, .inl of2_72)), (aM, .inl (cA 0, 200, .inl mf2_72)), (aU, .inl (cA 0, 66, .inl uf2_72)), (bR, .inl (cA 0, 66, .inl kr2_68)), (bO, .inl (cA 0, 66, .inl ko2_68)), (bB, .inl (cA 0, 64, .inl kb2_68)), (bN, .inl (cA 1, 40, .inl kn2_68)), (bS, .inl (cA 0, 5, .inl ks2_68)), (bC, .inl (cA 0, 5, .inl kc2_68))] H := hP
            have hD : va_D A [(mo, .inr (8, [.int (nI 0), .int (nI L.length), .ref ta, .int (nI np2_72), .ref aN, .ref aS, .ref aC, .int (nI tot2_72), .ref aB, .int 1, .int (nI rt9), .int (nI pl2_72), .ref aR, .ref aO, .int (nI sg), .ref aW, .int (bz_c mp), .int (nI rn), .int (nI rs), .int (bz_c gd), .ref aD, .int (nI nh), .ref a1, .ref a2, .ref a3, .ref a4, .int (nI td), .ref aL, .int (nI J.length), .ref aY, .int (nI ms2_72), .ref aM, .int (nI np), .int (nI tot), .int (nI rt), .int (nI pl), .ref bN, .ref bS, .ref bC, .ref bB, .ref bR, .ref bO, .ref aU])), (aY, .inl (cA 0, 200, .inl yf)), (aN, .inl (cA 1, 40, .inl nf2_72)), (aS, .inl (cA 0, 5, .inl sz2_72)), (aC, .inl (cA 0, 5, .inl bc2_72)), (aB, .inl (cA 0, 64, .inl bf2_72)), (aR, .inl (cA 0, 66, .inl rw2_72)), (aO, .inl (cA 0, 66, .inl of2_72)), (aM, .inl (cA 0, 200, .inl mf2_72)), (aU, .inl (cA 0, 66, .inl uf2_72)), (bR, .inl (cA 0, 66, .inl kr2_68)), (bO, .inl (cA 0, 66, .inl ko2_68)), (bB, .inl (cA 0, 64, .inl kb2_68)), (bN, .inl (cA 1, 40, .inl kn2_68)), (bS, .inl (cA 0, 5, .inl ks2_68)), (bC, .inl (cA 0, 5, .inl kc2_68))] := hD
            have hP : va_P D vwCl [(mo, .inr (8, [.int (nI 0), .int (nI L.length), .ref ta, .int (nI np2_72), .ref aN, .ref aS, .ref aC, .int (nI tot2_72), .ref aB, .int (bz_c true), .int (nI rt9), .int (nI pl2_72), .ref aR, .ref aO, .int (nI sg), .ref aW, .int (bz_c mp), .int (nI rn), .int (nI rs), .int (bz_c gd), .ref aD, .int (nI nh), .ref a1, .ref a2, .ref a3, .ref a4, .int (nI td), .ref aL, .int (nI J.length), .ref aY, .int (nI ms2_72), .ref aM, .int (nI np), .int (nI tot), .int (nI rt), .int (nI pl), .ref bN, .ref bS, .ref bC, .ref bB, .ref bR, .ref bO, .ref aU])), (aY, .inl (cA 0, 200, .inl yf)), (aN, .inl (cA 1, 40, .inl nf2_72)), (aS, .inl (cA 0, 5, .inl sz2_72)), (aC, .inl (cA 0, 5, .inl bc2_72)), (aB, .inl (cA 0, 64, .inl bf2_72)), (aR, .inl (cA 0, 66, .inl rw2_72)), (aO, .inl (cA 0, 66, .inl of2_72)), (aM, .inl (cA 0, 200, .inl mf2_72)), (aU, .inl (cA 0, 66, .inl uf2_72)), (bR, .inl (cA 0, 66, .inl kr2_68)), (bO, .inl (cA 0, 66, .inl ko2_68)), (bB, .inl (cA 0, 64, .inl kb2_68)), (bN, .inl (cA 1, 40, .inl kn2_68)), (bS, .inl (cA 0, 5, .inl ks2_68)), (bC, .inl (cA 0, 5, .inl kc2_68))] H := id hP
            have hD : va_D A [(mo, .inr (8, [.int (nI 0), .int (nI L.length), .ref ta, .int (nI np2_72), .ref aN, .ref aS, .ref aC, .int (nI tot2_72), .ref aB, .int (bz_c true), .int (nI rt9), .int (nI pl2_72), .ref aR, .ref aO, .int (nI sg), .ref aW, .int (bz_c mp), .int (nI rn), .int (nI rs), .int (bz_c gd), .ref aD, .int (nI nh), .ref a1, .ref a2, .ref a3, .ref a4, .int (nI td), .ref aL, .int (nI J.length), .ref aY, .int (nI ms2_72), .ref aM, .int (nI np), .int (nI tot), .int (nI rt), .int (nI pl), .ref bN, .ref bS, .ref bC, .ref bB, .ref bR, .ref bO, .ref aU])), (aY, .inl (cA 0, 200, .inl yf)), (aN, .inl (cA 1, 40, .inl nf2_72)), (aS, .inl (cA 0, 5, .inl sz2_72)), (aC, .inl (cA 0, 5, .inl bc2_72)), (aB, .inl (cA 0, 64, .inl bf2_72)), (aR, .inl (cA 0, 66, .inl rw2_72)), (aO, .inl (cA 0, 66, .inl of2_72)), (aM, .inl (cA 0, 200, .inl mf2_72)), (aU, .inl (cA 0, 66, .inl uf2_72)), (bR, .inl (cA 0, 66, .inl kr2_68)), (bO, .inl (cA 0, 66, .inl ko2_68)), (bB, .inl (cA 0, 64, .inl kb2_68)), (bN, .inl (cA 1, 40, .inl kn2_68)), (bS, .inl (cA 0, 5, .inl ks2_68)), (bC, .inl (cA 0, 5, .inl kc2_68))] := id hD
            refine lv_aload_n hx hb d_Mo_load_95 rfl (lv_at hl 1 rfl) ?_
            refine ck_cVv (C := "ReadMapperModel") (ci := 8) (rest := []) (wr := [(aY, .inl (cA 0, 200, .inl yf)), (aN, .inl (cA 1, 40, .inl nf2_72)), (aS, .inl (cA 0, 5, .inl sz2_72)), (aC, .inl (cA 0, 5, .inl bc2_72)), (aB, .inl (cA 0, 64, .inl bf2_72)), (aR, .inl (cA 0, 66, .inl rw2_72)), (aO, .inl (cA 0, 66, .inl of2_72)), (aM, .inl (cA 0, 200, .inl mf2_72)), (aU, .inl (cA 0, 66, .inl uf2_72)), (bR, .inl (cA 0, 66, .inl kr2_68)), (bO, .inl (cA 0, 66, .inl ko2_68)), (bB, .inl (cA 0, 64, .inl kb2_68)), (bN, .inl (cA 1, 40, .inl kn2_68)), (bS, .inl (cA 0, 5, .inl ks2_68)), (bC, .inl (cA 0, 5, .inl kc2_68))]) (ws2 := fun u => [(mo, .inr (8, [.int (nI 0), .int (nI L.length), .ref ta, .int (nI np2_72), .ref aN, .ref aS, .ref aC, .int (nI tot2_72), .ref aB, .int (bz_c true), .int (nI rt9), .int (nI pl2_72), .ref aR, .ref aO, .int (nI 0), .ref aW, .int (bz_c false), .int (nI rn), .int (nI rs), .int (bz_c gd), .ref aD, .int (nI 0), .ref a1, .ref a2, .ref a3, .ref a4, .int (nI td), .ref aL, .int (nI J.length), .ref aY, .int (nI ms2_72), .ref aM, .int (nI np), .int (nI tot), .int (nI rt), .int (nI pl), .ref bN, .ref bS, .ref bC, .ref bB, .ref bR, .ref bO, .ref aU])), (aY, .inl (cA 0, 200, .inl yf)), (aN, .inl (cA 1, 40, .inl nf2_72)), (aS, .inl (cA 0, 5, .inl sz2_72)), (aC, .inl (cA 0, 5, .inl bc2_72)), (aB, .inl (cA 0, 64, .inl bf2_72)), (aR, .inl (cA 0, 66, .inl rw2_72)), (aO, .inl (cA 0, 66, .inl of2_72)), (aM, .inl (cA 0, 200, .inl mf2_72)), (aU, .inl (cA 0, 66, .inl uf2_72)), (bR, .inl (cA 0, 66, .inl kr2_68)), (bO, .inl (cA 0, 66, .inl ko2_68)), (bB, .inl (cA 0, 64, .inl kb2_68)), (bN, .inl (cA 1, 40, .inl kn2_68)), (bS, .inl (cA 0, 5, .inl ks2_68)), (bC, .inl (cA 0, 5, .inl kc2_68))]) (c_Mo_forget l D cA K mo ta aN aS aC aB aR aO aW aD a1 a2 a3 a4 aL aY aM bN bS bC bB bR bO aU true mp gd (nI 0) (nI rt) np2_72 tot2_72 rt9 pl2_72 sg rn rs nh td ms2_72 np tot pl L J ) hx hb hml hown hts hK hE hA hP hD hS k_Mo_forget m_1019 (by decide) 0 rfl rfl rfl hl.1 rfl (Nat.le_of_ble_eq_true rfl) d_Mo_load_96  [0] [1, 2, 3, 4, 5, 6, 7, 8, 9, 10, 11, 12, 13, 14, 15] [15, 0, 1, 2, 3, 4, 5, 6, 7, 8, 9, 10, 11, 12, 13, 14] rfl rfl (by decide) (fun _ => rfl) (fun u96 H locs hq96 hP hD hS => ?_)
            try dsimp only at hq96
            have hP : va_P D vwCl [(mo, .inr (8, [.int (nI 0), .int (nI L.length), .ref ta, .int (nI np2_72), .ref aN, .ref aS, .ref aC, .int (nI tot2_72), .ref aB, .int (bz_c true), .int (nI rt9), .int (nI pl2_72), .ref aR, .ref aO, .int (nI 0), .ref aW, .int (bz_c false), .int (nI rn), .int (nI rs), .int (bz_c gd), .ref aD, .int (nI 0), .ref a1, .ref a2, .ref a3, .ref a4, .int (nI td), .ref aL, .int (nI J.length), .ref aY, .int (nI ms2_72), .ref aM, .int (nI np), .int (nI tot), .int (nI rt), .int (nI pl), .ref bN, .ref bS, .ref bC, .ref bB, .ref bR, .ref bO, .ref aU])), (aY, .inl (cA 0, 200, .inl yf)), (aN, .inl (cA 1, 40, .inl nf2_72)), (aS, .inl (cA 0, 5, .inl sz2_72)), (aC, .inl (cA 0, 5, .inl bc2_72)), (aB, .inl (cA 0, 64, .inl bf2_72)), (aR, .inl (cA 0, 66, .inl rw2_72)), (aO, .inl (cA 0, 66, .inl of2_72)), (aM, .inl (cA 0, 200, .inl mf2_72)), (aU, .inl (cA 0, 66, .inl uf2_72)), (bR, .inl (cA 0, 66, .inl kr2_68)), (bO, .inl (cA 0, 66, .inl ko2_68)), (bB, .inl (cA 0, 64, .inl kb2_68)), (bN, .inl (cA 1, 40, .inl kn2_68)), (bS, .inl (cA 0, 5, .inl ks2_68)), (bC, .inl (cA 0, 5, .inl kc2_68))] H := hP
            have hD : va_D A [(mo, .inr (8, [.int (nI 0), .int (nI L.length), .ref ta, .int (nI np2_72), .ref aN, .ref aS, .ref aC, .int (nI tot2_72), .ref aB, .int (bz_c true), .int (nI rt9), .int (nI pl2_72), .ref aR, .ref aO, .int (nI 0), .ref aW, .int (bz_c false), .int (nI rn), .int (nI rs), .int (bz_c gd), .ref aD, .int (nI 0), .ref a1, .ref a2, .ref a3, .ref a4, .int (nI td), .ref aL, .int (nI J.length), .ref aY, .int (nI ms2_72), .ref aM, .int (nI np), .int (nI tot), .int (nI rt), .int (nI pl), .ref bN, .ref bS, .ref bC, .ref bB, .ref bR, .ref bO, .ref aU])), (aY, .inl (cA 0, 200, .inl yf)), (aN, .inl (cA 1, 40, .inl nf2_72)), (aS, .inl (cA 0, 5, .inl sz2_72)), (aC, .inl (cA 0, 5, .inl bc2_72)), (aB, .inl (cA 0, 64, .inl bf2_72)), (aR, .inl (cA 0, 66, .inl rw2_72)), (aO, .inl (cA 0, 66, .inl of2_72)), (aM, .inl (cA 0, 200, .inl mf2_72)), (aU, .inl (cA 0, 66, .inl uf2_72)), (bR, .inl (cA 0, 66, .inl kr2_68)), (bO, .inl (cA 0, 66, .inl ko2_68)), (bB, .inl (cA 0, 64, .inl kb2_68)), (bN, .inl (cA 1, 40, .inl kn2_68)), (bS, .inl (cA 0, 5, .inl ks2_68)), (bC, .inl (cA 0, 5, .inl kc2_68))] := hD
            refine lv_aload_n hx hb d_Mo_load_99 rfl (lv_at hl 1 rfl) ?_
            refine va_get (C := RX8) (T := TX8) (N := 43) hx hb hts inX8 hown hK hP 0 rfl rfl 11 (by decide) (hts _ m_856) (fun _ h9 => h9) rfl d_Mo_load_100 ?_
            exact hret (nI pl2_72) (nI 0, true, np2_72, tot2_72, rt9, pl2_72, 0, false, 0, ms2_72, np, tot, nI rt, pl, nf2_72, sz2_72, bc2_72, bf2_72, rw2_72, of2_72, mf2_72, uf2_72, kr2_68, ko2_68, kb2_68, kn2_68, ks2_68, kc2_68) _ _ _ 103 d_Mo_load_103 ⟨hch, Or.inr (Or.inr ⟨rfl, ⟨by omega, h17, h28, h38⟩, ⟨NM, BS, rt9, G, so, hci, rfl, hok⟩, rfl, rfl, rfl, rfl, rfl⟩)⟩ hP hD hS
          ·
            refine lv_if_ne (tgt := 90) hx hb d_Mo_load_75 (by decide) (fun h9 => absurd h9 (by decide)) (fun _ => ?_)
            refine lv_aload_n hx hb d_Mo_load_78 rfl (lv_at hl 1 rfl) ?_
            refine lv_iconst (v := nI 1) hx hb d_Mo_load_79 (by decide) ?_
            refine ck_cVv (C := "ReadMapperModel") (ci := 8) (rest := []) (wr := [(aY, .inl (cA 0, 200, .inl yf)), (aM, .inl (cA 0, 200, .inl mf2_72)), (aU, .inl (cA 0, 66, .inl uf2_72))]) (ws2 := fun u => [(mo, .inr (8, [.int (nI 0), .int (nI L.length), .ref ta, .int (nI np), .ref aN, .ref aS, .ref aC, .int (nI tot), .ref aB, .int (bz_c rd), .int (nI rt), .int (nI pl), .ref aR, .ref aO, .int (nI sg), .ref aW, .int (bz_c mp), .int (nI rn), .int (nI rs), .int (bz_c gd), .ref aD, .int (nI nh), .ref a1, .ref a2, .ref a3, .ref a4, .int (nI td), .ref aL, .int (nI J.length), .ref aY, .int (nI ms2_72), .ref aM, .int (nI np), .int (nI tot), .int (nI rt), .int (nI pl), .ref bN, .ref bS, .ref bC, .ref bB, .ref bR, .ref bO, .ref aU])), (aY, .inl (cA 0, 200, .inl yf)), (aN, .inl (cA 1, 40, .inl u.2.2.2.1)), (aS, .inl (cA 0, 5, .inl u.2.2.2.2.1)), (aC, .inl (cA 0, 5, .inl u.2.2.2.2.2)), (aB, .inl (cA 0, 64, .inl u.2.2.1)), (aR, .inl (cA 0, 66, .inl u.1)), (aO, .inl (cA 0, 66, .inl u.2.1)), (aM, .inl (cA 0, 200, .inl mf2_72)), (aU, .inl (cA 0, 66, .inl uf2_72)), (bR, .inl (cA 0, 66, .inl kr2_68)), (bO, .inl (cA 0, 66, .inl ko2_68)), (bB, .inl (cA 0, 64, .inl kb2_68)), (bN, .inl (cA 1, 40, .inl kn2_68)), (bS, .inl (cA 0, 5, .inl ks2_68)), (bC, .inl (cA 0, 5, .inl kc2_68))]) (c_Mo_hold1 l D cA K mo ta aN aS aC aB aR aO aW aD a1 a2 a3 a4 aL aY aM bN bS bC bB bR bO aU rd mp gd (nI 0) (nI rt) np2_72 tot2_72 pl2_72 sg rn rs nh td ms2_72 np tot pl L J ri2_72 kr2_68 ko2_68 kb2_68 kn2_68 ks2_68 kc2_68 rw2_72 of2_72 bf2_72 nf2_72 sz2_72 bc2_72 (fun z hz => by rw [hh4 z hz]; exact hnc z hz)) hx hb hml hown hts hK hE hA hP hD hS k_Mo_hold m_1173 (by decide) 0 rfl rfl rfl hl.1 rfl (Nat.le_of_ble_eq_true rfl) d_Mo_load_80  [0, 10, 11, 12, 13, 14, 15, 6, 7, 5, 2, 3, 4] [1, 8, 9] [3, 0, 13, 14, 15, 12, 10, 11, 1, 2, 4, 5, 6, 7, 8, 9] rfl rfl (by decide) (fun _ => rfl) (fun u80 H locs hq80 hP hD hS => ?_)
            obtain ⟨rw2_80, of2_80, bf2_80, nf2_80, sz2_80, bc2_80⟩ := u80
            try dsimp only at hq80
            have hP : va_P D vwCl [(mo, .inr (8, [.int (nI 0), .int (nI L.length), .ref ta, .int (nI np), .ref aN, .ref aS, .ref aC, .int (nI tot), .ref aB, .int (bz_c rd), .int (nI rt), .int (nI pl), .ref aR, .ref aO, .int (nI sg), .ref aW, .int (bz_c mp), .int (nI rn), .int (nI rs), .int (bz_c gd), .ref aD, .int (nI nh), .ref a1, .ref a2, .ref a3, .ref a4, .int (nI td), .ref aL, .int (nI J.length), .ref aY, .int (nI ms2_72), .ref aM, .int (nI np), .int (nI tot), .int (nI rt), .int (nI pl), .ref bN, .ref bS, .ref bC, .ref bB, .ref bR, .ref bO, .ref aU])), (aY, .inl (cA 0, 200, .inl yf)), (aN, .inl (cA 1, 40, .inl nf2_80)), (aS, .inl (cA 0, 5, .inl sz2_80)), (aC, .inl (cA 0, 5, .inl bc2_80)), (aB, .inl (cA 0, 64, .inl bf2_80)), (aR, .inl (cA 0, 66, .inl rw2_80)), (aO, .inl (cA 0, 66, .inl of2_80)), (aM, .inl (cA 0, 200, .inl mf2_72)), (aU, .inl (cA 0, 66, .inl uf2_72)), (bR, .inl (cA 0, 66, .inl kr2_68)), (bO, .inl (cA 0, 66, .inl ko2_68)), (bB, .inl (cA 0, 64, .inl kb2_68)), (bN, .inl (cA 1, 40, .inl kn2_68)), (bS, .inl (cA 0, 5, .inl ks2_68)), (bC, .inl (cA 0, 5, .inl kc2_68))] H := hP
            have hD : va_D A [(mo, .inr (8, [.int (nI 0), .int (nI L.length), .ref ta, .int (nI np), .ref aN, .ref aS, .ref aC, .int (nI tot), .ref aB, .int (bz_c rd), .int (nI rt), .int (nI pl), .ref aR, .ref aO, .int (nI sg), .ref aW, .int (bz_c mp), .int (nI rn), .int (nI rs), .int (bz_c gd), .ref aD, .int (nI nh), .ref a1, .ref a2, .ref a3, .ref a4, .int (nI td), .ref aL, .int (nI J.length), .ref aY, .int (nI ms2_72), .ref aM, .int (nI np), .int (nI tot), .int (nI rt), .int (nI pl), .ref bN, .ref bS, .ref bC, .ref bB, .ref bR, .ref bO, .ref aU])), (aY, .inl (cA 0, 200, .inl yf)), (aN, .inl (cA 1, 40, .inl nf2_80)), (aS, .inl (cA 0, 5, .inl sz2_80)), (aC, .inl (cA 0, 5, .inl bc2_80)), (aB, .inl (cA 0, 64, .inl bf2_80)), (aR, .inl (cA 0, 66, .inl rw2_80)), (aO, .inl (cA 0, 66, .inl of2_80)), (aM, .inl (cA 0, 200, .inl mf2_72)), (aU, .inl (cA 0, 66, .inl uf2_72)), (bR, .inl (cA 0, 66, .inl kr2_68)), (bO, .inl (cA 0, 66, .inl ko2_68)), (bB, .inl (cA 0, 64, .inl kb2_68)), (bN, .inl (cA 1, 40, .inl kn2_68)), (bS, .inl (cA 0, 5, .inl ks2_68)), (bC, .inl (cA 0, 5, .inl kc2_68))] := hD
            obtain ⟨hg1, hg2, hg3, hg4, hg5, hg6⟩ := hq80
            refine lv_aload_n hx hb d_Mo_load_83 rfl (lv_at hl 1 rfl) ?_
            refine lv_iconst (v := nI 2) hx hb d_Mo_load_84 (by decide) ?_
            refine va_put (D := D) (ci := 8) (v := .int (nI 2)) (ty := .int) (C := RX8) (T := TX8) (N := 43) hx hb hts inX8 tyX8 tyX8_ok nmX8 hown hK hP hD hS 0 rfl rfl 0 (by decide) (hts _ m_845) (fun _ h9 => h9) rfl (by decide +kernel) rfl rfl (Nat.le_of_ble_eq_true rfl) d_Mo_load_85 (fun H locs hP hD hS => ?_)
            have hP : va_P D vwCl [(mo, .inr (8, [.int (nI 2), .int (nI L.length), .ref ta, .int (nI np), .ref aN, .ref aS, .ref aC, .int (nI tot), .ref aB, .int (bz_c rd), .int (nI rt), .int (nI pl), .ref aR, .ref aO, .int (nI sg), .ref aW, .int (bz_c mp), .int (nI rn), .int (nI rs), .int (bz_c gd), .ref aD, .int (nI nh), .ref a1, .ref a2, .ref a3, .ref a4, .int (nI td), .ref aL, .int (nI J.length), .ref aY, .int (nI ms2_72), .ref aM, .int (nI np), .int (nI tot), .int (nI rt), .int (nI pl), .ref bN, .ref bS, .ref bC, .ref bB, .ref bR, .ref bO, .ref aU])), (aY, .inl (cA 0, 200, .inl yf)), (aN, .inl (cA 1, 40, .inl nf2_80)), (aS, .inl (cA 0, 5, .inl sz2_80)), (aC, .inl (cA 0, 5, .inl bc2_80)), (aB, .inl (cA 0, 64, .inl bf2_80)), (aR, .inl (cA 0, 66, .inl rw2_80)), (aO, .inl (cA 0, 66, .inl of2_80)), (aM, .inl (cA 0, 200, .inl mf2_72)), (aU, .inl (cA 0, 66, .inl uf2_72)), (bR, .inl (cA 0, 66, .inl kr2_68)), (bO, .inl (cA 0, 66, .inl ko2_68)), (bB, .inl (cA 0, 64, .inl kb2_68)), (bN, .inl (cA 1, 40, .inl kn2_68)), (bS, .inl (cA 0, 5, .inl ks2_68)), (bC, .inl (cA 0, 5, .inl kc2_68))] H := hP
            have hD : va_D A [(mo, .inr (8, [.int (nI 2), .int (nI L.length), .ref ta, .int (nI np), .ref aN, .ref aS, .ref aC, .int (nI tot), .ref aB, .int (bz_c rd), .int (nI rt), .int (nI pl), .ref aR, .ref aO, .int (nI sg), .ref aW, .int (bz_c mp), .int (nI rn), .int (nI rs), .int (bz_c gd), .ref aD, .int (nI nh), .ref a1, .ref a2, .ref a3, .ref a4, .int (nI td), .ref aL, .int (nI J.length), .ref aY, .int (nI ms2_72), .ref aM, .int (nI np), .int (nI tot), .int (nI rt), .int (nI pl), .ref bN, .ref bS, .ref bC, .ref bB, .ref bR, .ref bO, .ref aU])), (aY, .inl (cA 0, 200, .inl yf)), (aN, .inl (cA 1, 40, .inl nf2_80)), (aS, .inl (cA 0, 5, .inl sz2_80)), (aC, .inl (cA 0, 5, .inl bc2_80)), (aB, .inl (cA 0, 64, .inl bf2_80)), (aR, .inl (cA 0, 66, .inl rw2_80)), (aO, .inl (cA 0, 66, .inl of2_80)), (aM, .inl (cA 0, 200, .inl mf2_72)), (aU, .inl (cA 0, 66, .inl uf2_72)), (bR, .inl (cA 0, 66, .inl kr2_68)), (bO, .inl (cA 0, 66, .inl ko2_68)), (bB, .inl (cA 0, 64, .inl kb2_68)), (bN, .inl (cA 1, 40, .inl kn2_68)), (bS, .inl (cA 0, 5, .inl ks2_68)), (bC, .inl (cA 0, 5, .inl kc2_68))] := hD
            refine lv_iconst (v := nI 0) hx hb d_Mo_load_88 (by decide) ?_
            exact hret (nI 0) (nI 2, rd, np, tot, rt, pl, sg, mp, nh, ms2_72, np, tot, nI rt, pl, nf2_80, sz2_80, bc2_80, bf2_80, rw2_80, of2_80, mf2_72, uf2_72, kr2_68, ko2_68, kb2_68, kn2_68, ks2_68, kc2_68) _ _ _ 89 d_Mo_load_89 ⟨fun z hz => by show ch_p (nf2_80 z); rw [hg4 z hz, hh4 z hz]; exact hnc z hz, Or.inr (Or.inl ⟨rfl, ⟨by omega, h17, h28, h38⟩, hq72.2, rfl, rfl, rfl, rfl, rfl, rfl, rfl, rfl, fun j h => (hg1 j h).trans (hh1 j h), fun j h => (hg2 j h).trans (hh2 j h), fun j h => (hg3 j h).trans (hh3 j h), fun j h => (hg4 j h).trans (hh4 j h), fun j h => (hg5 j h).trans (hh5 j h), fun j h => (hg6 j h).trans (hh6 j h)⟩)⟩ hP hD hS
theorem k_Mo_load : cf_V y_Mo_load b_Mo_load 2 (some .int) "ReadMapperModel" 0 := ⟨⟨m_1170, m_1171, m_9, m_1172⟩, by decide +kernel⟩
