/-! the law's cases: class and reference answer alike -/
section
variable {np pl mpl rt mrt tot : Nat} {NM BS : Nat → List Int32} {st ln rw nf sz bc bf sf tr mrw of1 : Nat → Int32} {so : Nat → Nat} {rd : Bool}
theorem lw_pl (h : lw_5 np NM BS pl st ln rw nf sz bc bf tot) : pl ≤ 65 := by rw [h.2.1]; exact pl_lb h.1
theorem lw_6c (h5 : lw_5 np NM BS pl st ln rw nf sz bc bf tot) (h6 : lw_6 rd np rt mrt pl mpl rw sf tr mrw of1 so) (z : rd = true) : pl ≤ 65 ∧ (0 < rt ∧ rt ≤ 8) ∧ ∀ j, j < pl → sf j = nI (so j) ∧ so j < pl := by
  have y := h6.2 z
  exact ⟨lw_pl h5, y.2.1, y.2.2.2.2.2.2.1⟩
theorem lw_6m (h6 : lw_6 rd np rt mrt pl mpl rw sf tr mrw of1 so) (z : rd = true) : mpl ≤ 65 ∧ (0 < mrt ∧ mrt ≤ 8) ∧ ∀ j, j < mpl → of1 j = nI (so j) ∧ so j < mpl := by
  obtain ⟨h0, h1⟩ := h6
  obtain ⟨a, b, c, d, e, f, g, h, _⟩ := h1 z
  subst c; subst d
  exact ⟨h0, b, h⟩
theorem px_cg {n : Nat} {f g : Nat → Int32} {i : Int32} (hn : n ≤ 65) (h : ∀ j, j < n → f j = g j) : px_c n f i = px_c n g i := by
  unfold px_c
  split
  · rename_i z
    obtain ⟨k, hk, e⟩ := px_num hn z.1 z.2
    rw [e, nI_clamp (by omega)]
    exact h k hk
  · rfl
theorem ct_cg {f g : Nat → Int32} {x : Int32} {n : Nat} (h : ∀ j, j < n → f j = g j) : ct_c f x n = ct_c g x n := by
  induction n with
  | zero => rfl
  | succ n ih =>
    show ct_c f x n + (if f n = x then 1 else 0) = ct_c g x n + (if g n = x then 1 else 0)
    rw [ih (fun j hj => h j (by omega)), h n (by omega)]
theorem t_steps {i r r' : Int32} (h6 : lw_6 rd np rt mrt pl mpl rw sf tr mrw of1 so) (hA : r = if rd = true then px_c pl (fun j => nI (so j % rt)) i else -1) (hB : r' = if rd = true then px_c mpl (fun j => nI (so j % mrt)) i else -1) : r = r' := by
  rw [hA, hB]
  by_cases z : rd = true
  · obtain ⟨a, b, c, d, _⟩ := h6.2 z
    rw [if_pos z, if_pos z, c, d]
  · rw [if_neg z, if_neg z]
theorem lw_tr (h5 : lw_5 np NM BS pl st ln rw nf sz bc bf tot) (h6 : lw_6 rd np rt mrt pl mpl rw sf tr mrw of1 so) (z : rd = true) : ∀ j, j < pl → tr j = bf_c mrw so j := fun j hj => by
  obtain ⟨a, b, c, d, e, f, g, h, k, t⟩ := h6.2 z
  rw [t j hj]
  exact bf_cg (fun p hp => (f p hp).symm) rfl (g j hj).2
theorem t_turned {i r r' : Int32} (h5 : lw_5 np NM BS pl st ln rw nf sz bc bf tot) (h6 : lw_6 rd np rt mrt pl mpl rw sf tr mrw of1 so) (hA : r = if rd = true then px_c pl tr i else -1) (hB : r' = if rd = true then px_c mpl (bf_c mrw so) i else -1) : r = r' := by
  rw [hA, hB]
  by_cases z : rd = true
  · obtain ⟨a, b, c, d, _⟩ := h6.2 z
    rw [if_pos z, if_pos z, d]
    exact px_cg (lw_pl h5) (lw_tr h5 h6 z)
  · rw [if_neg z, if_neg z]
theorem t_occ {x i r r' : Int32} (h5 : lw_5 np NM BS pl st ln rw nf sz bc bf tot) (h6 : lw_6 rd np rt mrt pl mpl rw sf tr mrw of1 so) (hA : ((rd = true ∧ (¬ x < 0 ∧ ¬ nI 7 ≤ x) ∧ (¬ i < 0 ∧ i ≤ nI pl)) ∧ r = nI (ct_c tr x i.toNatClampNeg)) ∨ (¬ (rd = true ∧ (¬ x < 0 ∧ ¬ nI 7 ≤ x) ∧ (¬ i < 0 ∧ i ≤ nI pl)) ∧ r = -1))
    (hB : ((rd = true ∧ (¬ x < 0 ∧ ¬ nI 7 ≤ x) ∧ (¬ i < 0 ∧ i ≤ nI mpl)) ∧ r' = nI (ct_c (bf_c mrw so) x i.toNatClampNeg)) ∨ (¬ (rd = true ∧ (¬ x < 0 ∧ ¬ nI 7 ≤ x) ∧ (¬ i < 0 ∧ i ≤ nI mpl)) ∧ r' = -1)) : r = r' := by
  rcases hA with ⟨a1, a2⟩ | ⟨a1, a2⟩
  · have e := (h6.2 a1.1).2.2.2.1
    rw [e] at hB
    rcases hB with ⟨b1, b2⟩ | ⟨b1, b2⟩
    · rw [a2, b2]
      obtain ⟨k, hk, ek⟩ := oc_num (lw_pl h5) a1.2.2.1 a1.2.2.2
      have hl := lw_pl h5
      rw [ek, nI_clamp (by omega), ct_cg (fun j hj => lw_tr h5 h6 a1.1 j (by omega))]
    · exact absurd a1 b1
  · rcases hB with ⟨b1, b2⟩ | ⟨b1, b2⟩
    · have e := (h6.2 b1.1).2.2.2.1
      rw [e] at b1
      exact absurd b1 a1
    · rw [a2, b2]
theorem lw_fr (h6 : lw_6 rd np rt mrt pl mpl rw sf tr mrw of1 so) (z : rd = true) : (∀ y, y < mpl → mrw y = rw y) ∧ ∀ j, j < mpl → of1 j = nI (so j) ∧ so j < mpl := by
  obtain ⟨a, b, c, d, e, f, g, h, k, t⟩ := h6.2 z
  rw [d]; exact ⟨f, h⟩
theorem t_first {wf : Nat → Int32} {Wd : List Int32} {fo r r' : Int32} (h6 : lw_6 rd np rt mrt pl mpl rw sf tr mrw of1 so) (h7 : lw_7 wf Wd fo rd pl rw so) (hA : r = fo)
    (hB : ((Wd = [] ∨ rd = false) ∧ r' = -1) ∨ (¬ Wd = [] ∧ rd = true ∧ ((∃ k, r' = nI k ∧ k < mpl ∧ bw_p rw mpl Wd (so k) ∧ ∀ j, j < k → ¬ bw_p rw mpl Wd (so j)) ∨ (r' = -1 ∧ ∀ j, j < mpl → ¬ bw_p rw mpl Wd (so j))))) : r = r' := by
  rw [hA]
  rcases h7.2 with ⟨a1, a2⟩ | ⟨a1, a2, a3⟩
  · rcases hB with ⟨b1, b2⟩ | ⟨b1, b2, b3⟩
    · rw [a2, b2]
    · exact absurd a1 b1
  · rw [(h6.2 a2).2.2.2.1] at hB
    rcases hB with ⟨b1, b2⟩ | ⟨b1, b2, b3⟩
    · rcases b1 with b1 | b1
      · exact absurd b1 a1
      · rw [b1] at a2; exact absurd a2 (by decide)
    · rcases a3 with ⟨k, k1, k2, k3, k4⟩ | ⟨k1, k2⟩
      · rcases b3 with ⟨k', q1, q2, q3, q4⟩ | ⟨q1, q2⟩
        · have e : k = k' := by
            rcases Nat.lt_trichotomy k k' with z | z | z
            · exact absurd k3 (q4 k z)
            · exact z
            · exact absurd q3 (k4 k' z)
          rw [k1, q1, e]
        · exact absurd k3 (q2 k k2)
      · rcases b3 with ⟨k', q1, q2, q3, q4⟩ | ⟨q1, q2⟩
        · exact absurd q3 (k2 k' q2)
        · rw [k1, q1]
end
theorem t_hit {mp rd : Bool} {XC XM : List (Nat × Nat × Nat × Nat)} {rw : Nat → Int32} {BS : Nat → List Int32} {np : Nat} {RN RF RB RQ : List Int32} {bst qn : Nat} {df : Nat → Int32} {RL : List Int32} {mrn mrs : Nat} {gd : Bool} {kk : Nat} {i x r r' : Int32} (h9 : lw_9 mp rd XC XM rw BS np RN RF RB RQ bst qn df RL mrn mrs gd kk) (hA : r = if mp = true then ab_c XC i x else -1) (hB : r' = ab_c XM i x) : r = r' := by
  rw [hA, hB]
  by_cases z : mp = true
  · rw [if_pos z, (h9.2 z).2.1]
  · rw [if_neg z, h9.1 (by cases mp <;> first | rfl | exact absurd rfl z)]
    refine (ab_o1 ?_).symm
    by_cases y : i < 0
    · exact Or.inl y
    · exact Or.inr (Int32.not_lt.mp y)
theorem t_write {cf tf f2 tf2 : Nat → Int32} {L L2 L2' : List Int32} {w : Int64} {r r' : Int32} (h1 : lw_1 cf tf L) (hA : (r = 1 ∧ cd_r 72 f2 L2 ∧ (∀ i, i < 8 → wb_p w i) ∧ L.length + (wb_c w 8).length ≤ 72 ∧ L2 = L ++ wb_c w 8) ∨ (r = 0 ∧ cd_r 72 f2 L2 ∧ ¬ ((∀ i, i < 8 → wb_p w i) ∧ L.length + (wb_c w 8).length ≤ 72) ∧ L2 = L))
    (hB : (r' = 1 ∧ cd_r 72 tf2 L2' ∧ (∀ i, i < 8 → wb_p w i) ∧ L.length + (wb_c w 8).length ≤ 72 ∧ L2' = L ++ wb_c w 8) ∨ (r' = 0 ∧ cd_r 72 tf2 L2' ∧ ¬ ((∀ i, i < 8 → wb_p w i) ∧ L.length + (wb_c w 8).length ≤ 72) ∧ L2' = L)) : r = r' ∧ L2 = L2' ∧ lw_1 f2 tf2 L2 := by
  rcases hA with ⟨a1, a2, a3, a4, a5⟩ | ⟨a1, a2, a3, a4⟩
  · rcases hB with ⟨b1, b2, b3, b4, b5⟩ | ⟨b1, b2, b3, b4⟩
    · refine ⟨by rw [a1, b1], by rw [a5, b5], a2, by rw [a5, ← b5]; exact b2, ?_⟩
      rw [a5]; exact tx_a h1.2.2 (tx_wb (Nat.le_refl _) a3)
    · exact absurd ⟨a3, a4⟩ b3
  · rcases hB with ⟨b1, b2, b3, b4, b5⟩ | ⟨b1, b2, b3, b4⟩
    · exact absurd ⟨b3, b4⟩ a3
    · refine ⟨by rw [a1, b1], by rw [a4, b4], a2, by rw [a4, ← b4]; exact b2, ?_⟩
      rw [a4]; exact h1.2.2
theorem t_cut {imf yf f2 : Nat → Int32} {J L2 J2 : List Int32} {r r' : Int32} (h : lw_10 imf yf J) (hA : (r = 1 ∧ cd_r 189 f2 L2 ∧ ¬ J = [] ∧ L2 = J.dropLast) ∨ (r = 0 ∧ cd_r 189 f2 L2 ∧ J = [] ∧ L2 = J)) (hB : (r' = 1 ∧ cd_r 200 yf J2 ∧ ¬ J = [] ∧ J2 = J.dropLast) ∨ (r' = 0 ∧ cd_r 200 yf J2 ∧ J = [] ∧ J2 = J)) : r = r' ∧ L2 = J2 ∧ lw_10 f2 yf L2 := by
  rcases hA with ⟨a1, a2, a3, a4⟩ | ⟨a1, a2, a3, a4⟩
  · rcases hB with ⟨b1, b2, b3, b4⟩ | ⟨b1, b2, b3, b4⟩
    · exact ⟨by rw [a1, b1], by rw [a4, b4], a2, by rw [a4, ← b4]; exact b2, by rw [a4]; exact by_dl h.2.2⟩
    · exact absurd b3 a3
  · rcases hB with ⟨b1, b2, b3, b4⟩ | ⟨b1, b2, b3, b4⟩
    · exact absurd a3 b3
    · exact ⟨by rw [a1, b1], by rw [a4, b4], a2, by rw [a4, ← b4]; exact b2, by rw [a4]; exact h.2.2⟩
theorem t_spoil {imf yf f2 yf2 : Nat → Int32} {J L2 J2 : List Int32} {i x r r' : Int32} (h : lw_10 imf yf J) (hA : (r = 1 ∧ cd_r 189 f2 L2 ∧ ¬ at_c J i = -1 ∧ ¬ x &&& 255 = 0 ∧ L2 = st_c J i (at_c J i ^^^ (x &&& 255))) ∨ (r = 0 ∧ cd_r 189 f2 L2 ∧ ¬ (¬ at_c J i = -1 ∧ ¬ x &&& 255 = 0) ∧ L2 = J))
    (hB : (r' = 1 ∧ cd_r 200 yf2 J2 ∧ (¬ i < 0 ∧ ¬ nI J.length ≤ i) ∧ ¬ x &&& 255 = 0 ∧ J2 = st_c J i (at_c J i ^^^ (x &&& 255))) ∨ (r' = 0 ∧ cd_r 200 yf2 J2 ∧ ¬ ((¬ i < 0 ∧ ¬ nI J.length ≤ i) ∧ ¬ x &&& 255 = 0) ∧ J2 = J)) : r = r' ∧ L2 = J2 ∧ lw_10 f2 yf2 L2 := by
  have hl : J.length ≤ 1000 := by have := h.1.1; omega
  have key : ¬ at_c J i = -1 ↔ (¬ i < 0 ∧ ¬ nI J.length ≤ i) := by
    constructor
    · intro z
      refine ⟨fun y => z (at_neg y), fun y => z (at_big y)⟩
    · intro z e
      obtain ⟨k, hk, ek⟩ := hx_in hl z.1 z.2
      obtain ⟨a, ha, ea⟩ := h.2.2 k hk
      rw [ek, at_n hk hl, ea] at e
      have := congrArg Int32.toInt e
      rw [nI_toInt (by omega), show (-1 : Int32).toInt = -1 from rfl] at this
      omega
  rw [key] at hA
  rcases hA with ⟨a1, a2, a3, a4, a5⟩ | ⟨a1, a2, a3, a4⟩
  · rcases hB with ⟨b1, b2, b3, b4, b5⟩ | ⟨b1, b2, b3, b4⟩
    · exact ⟨by rw [a1, b1], by rw [a5, b5], a2, by rw [a5, ← b5]; exact b2, by rw [a5]; exact by_st h.2.2 hl a3⟩
    · exact absurd ⟨a3, a4⟩ b3
  · rcases hB with ⟨b1, b2, b3, b4, b5⟩ | ⟨b1, b2, b3, b4⟩
    · exact absurd ⟨b3, b4⟩ a3
    · exact ⟨by rw [a1, b1], by rw [a4, b4], a2, by rw [a4, ← b4]; exact b2, by rw [a4]; exact h.2.2⟩
theorem lw_9f {rd2 : Bool} {XC : List (Nat × Nat × Nat × Nat)} {rw2 : Nat → Int32} {BS2 : Nat → List Int32} {np2 : Nat} {RN2 RF2 RB2 RQ2 : List Int32} {bst2 qn2 : Nat} {df2 : Nat → Int32} {RL2 : List Int32} {mrn2 mrs2 : Nat} {gd2 : Bool} {kk2 : Nat} : lw_9 false rd2 XC [] rw2 BS2 np2 RN2 RF2 RB2 RQ2 bst2 qn2 df2 RL2 mrn2 mrs2 gd2 kk2 := ⟨fun _ => rfl, fun z => absurd z (by decide)⟩
theorem t_drop {mp rd : Bool} {XC XM : List (Nat × Nat × Nat × Nat)} {rw wf h1f h2f h3f h4f g1 g2 g3 g4 : Nat → Int32} {BS : Nat → List Int32} {np pl sg2 nh2 : Nat} {RN RF RB RQ Wd : List Int32} {bst qn : Nat} {df : Nat → Int32} {RL : List Int32} {mrn mrs : Nat} {gd mp2 : Bool} {kk : Nat} {so : Nat → Nat} {fo r r' rd2 fo2 mpc : Int32} (h7 : lw_7 wf Wd fo rd pl rw so) (h8 : lw_8 h1f h2f h3f h4f XC g1 g2 g3 g4 XM) (h9 : lw_9 mp rd XC XM rw BS np RN RF RB RQ bst qn df RL mrn mrs gd kk)
    (hA : (r = 1 ∧ rd = true ∧ rd2 = 0 ∧ fo2 = -1 ∧ mpc = 0) ∨ (r = 0 ∧ rd = false ∧ rd2 = bz_c rd ∧ fo2 = fo ∧ mpc = bz_c mp)) (hB : (r' = 1 ∧ rd = true ∧ sg2 = 0 ∧ mp2 = false ∧ nh2 = 0) ∨ (r' = 0 ∧ rd = false ∧ sg2 = Wd.length ∧ mp2 = mp ∧ nh2 = XM.length)) :
    r = r' ∧ rd2 = bz_c false ∧ mpc = bz_c false ∧ mp2 = false ∧ fo2 = -1 ∧ sg2 = ([] : List Int32).length ∧ nh2 = ([] : List (Nat × Nat × Nat × Nat)).length ∧ lw_7 wf [] (-1) false pl rw so ∧ lw_8 h1f h2f h3f h4f XC g1 g2 g3 g4 [] := by
  have k7 : lw_7 wf [] (-1) false pl rw so := ⟨cd_clear h7.1, Or.inl ⟨rfl, rfl⟩⟩
  have k8 : lw_8 h1f h2f h3f h4f XC g1 g2 g3 g4 [] := ⟨h8.1, cd_clear h8.2.1, cd_clear h8.2.2.1, cd_clear h8.2.2.2.1, cd_clear h8.2.2.2.2⟩
  rcases hA with ⟨a1, a2, a3, a4, a5⟩ | ⟨a1, a2, a3, a4, a5⟩
  · rcases hB with ⟨b1, b2, b3, b4, b5⟩ | ⟨b1, b2, b3, b4, b5⟩
    · exact ⟨by rw [a1, b1], a3, a5, b4, a4, b3, b5, k7, k8⟩
    · rw [a2] at b2; exact absurd b2 (by decide)
  · rcases hB with ⟨b1, b2, b3, b4, b5⟩ | ⟨b1, b2, b3, b4, b5⟩
    · rw [a2] at b2; exact absurd b2 (by decide)
    · subst a2
      have e1 : Wd = [] ∧ fo = -1 := by
        rcases h7.2 with z | z
        · exact z
        · exact absurd z.2.1 (by decide)
      have e2 : mp = false := by
        cases mp with
        | false => rfl
        | true => exact absurd (h9.2 rfl).1 (by decide)
      have e3 := h9.1 e2
      exact ⟨by rw [a1, b1], a3, by rw [a5, e2], by rw [b4, e2], by rw [a4, e1.2], by rw [b3, e1.1], by rw [b5, e3], k7, k8⟩
