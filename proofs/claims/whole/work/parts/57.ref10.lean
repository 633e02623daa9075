/-! the reference: the row out of the turned row -/
/-- at fr stands the turned row of G -/
def un_p (J : List Int32) (fr n : Nat) (G : Nat → Int32) : Prop := rw_k (ky_c G) n ∧ (∀ p, p < n → G p ≤ 6) ∧ ∀ p, p < n → at_c J (nI (fr + rk_a (ky_c G) n p)) = if p = 0 then 0 else G (p - 1)
theorem un_k {c : Nat} (hc : c < 1000) (h : ¬ nI c - 1 < 0) : ∃ k, k + 1 = c ∧ nI c - 1 = nI k := by
  rcases Nat.eq_zero_or_pos c with z | z
  · rw [z] at h; exact absurd (by decide) h
  · exact ⟨c - 1, by omega, by rw [show (1 : Int32) = nI 1 from rfl, pk_sub (by omega)]⟩
theorem un_d (k : Nat) : nI k + Int32.ofInt (-1) = nI k - 1 := by rw [Int32.sub_eq_add_neg]; rfl
theorem un_0 {c : Nat} (hc : c < 1000) (h : nI c - 1 < 0) : c = 0 := by
  rcases Nat.eq_zero_or_pos c with z | z
  · exact z
  · rw [show (1 : Int32) = nI 1 from rfl, pk_sub (by omega)] at h
    exact absurd h (nI_pos (by omega))
theorem un_i6 {n : Nat} {uf : Nat → Int32} (hn : 1 ≤ n) : ∀ p, n - 1 ≤ p → p < n → upd uf (n - 1) (nI 0) p ≤ 6 := fun p h1 h2 => by
  rw [show p = n - 1 by omega, pk_us]; decide
theorem un_i {J : List Int32} {fr n : Nat} {G uf : Nat → Int32} (hn : 1 ≤ n) : un_p J fr n G → 0 = rk_a (ky_c G) n (n - 1) ∧ ∀ p, n - 1 ≤ p → p < n → upd uf (n - 1) (nI 0) p = G p := fun h => by
  refine ⟨(tn_0 h.1).symm, fun p h1 h2 => ?_⟩
  rw [show p = n - 1 by omega, pk_us]
  have := h.1.2.1
  apply Int32.toInt_inj.mp
  rw [show (G (n - 1)).toInt = 0 from this]; rfl
theorem un_s6 {n k : Nat} {uf : Nat → Int32} {x : Int32} (h : ∀ p, k + 1 ≤ p → p < n → uf p ≤ 6) (hx : x ≤ 6) : ∀ p, k ≤ p → p < n → upd uf k x p ≤ 6 := fun p h1 h2 => by
  by_cases e : p = k
  · subst e; rw [pk_us]; exact hx
  · rw [pk_un e]; exact h p (by omega) h2
theorem un_v {J : List Int32} {fr n k i : Nat} {G uf : Nat → Int32} {x : Int32} (z : un_p J fr n G) (hk : k + 1 < n) (hcan : un_p J fr n G → i = rk_a (ky_c G) n (k + 1) ∧ ∀ p, k + 1 ≤ p → p < n → uf p = G p) (hx : x = at_c J (nI (fr + i))) : x = G k := by
  rw [hx, (hcan z).1, z.2.2 (k + 1) hk, if_neg (by omega)]; rfl
theorem un_g {J : List Int32} {fr n k : Nat} {G : Nat → Int32} (z : un_p J fr n G) (hk : k + 1 < n) : cn_t (fun j => at_c J (nI (fr + j)) < G k) n + cn_t (fun j => at_c J (nI (fr + j)) = G k ∧ j < rk_a (ky_c G) n (k + 1)) n = rk_a (ky_c G) n k := by
  have hT : tn_d (ky_c G) (fun j => (at_c J (nI (fr + j))).toInt) n := fun p hp => by
    show (at_c J (nI (fr + rk_a (ky_c G) n p))).toInt = _
    rw [z.2.2 p hp]
    split
    · rfl
    · rfl
  rw [← tn_lf z.1 hT hk, ← cn_or (fun j _ a b => by rw [b.1] at a; exact Int32.lt_irrefl a)]
  refine cn_congr (fun j _ => ?_)
  show (at_c J (nI (fr + j)) < G k ∨ _) ↔ ((at_c J (nI (fr + j))).toInt < (G k).toInt ∨ ((at_c J (nI (fr + j))).toInt = (G k).toInt ∧ _))
  rw [Int32.lt_iff_toInt_lt, Int32.toInt_inj]
theorem un_n {J : List Int32} {fr n k i j less same : Nat} {G uf : Nat → Int32} {x : Int32} (z : un_p J fr n G) (hk : k + 1 < n) (hcan : un_p J fr n G → i = rk_a (ky_c G) n (k + 1) ∧ ∀ p, k + 1 ≤ p → p < n → uf p = G p) (hls : less = cn_t (fun y => at_c J (nI (fr + y)) < x) j) (hsm : same = cn_t (fun y => at_c J (nI (fr + y)) = x ∧ y < i) j) (hj : j = n) (hx : x = at_c J (nI (fr + i))) : less + same = rk_a (ky_c G) n k := by
  have e := un_v z hk hcan hx
  rw [hls, hsm, hj, e, (hcan z).1]
  exact un_g z hk
theorem un_s {J : List Int32} {fr n k i j less same : Nat} {G uf : Nat → Int32} {x : Int32} (hi : i < n) (hk : k + 1 < n) (hcan : un_p J fr n G → i = rk_a (ky_c G) n (k + 1) ∧ ∀ p, k + 1 ≤ p → p < n → uf p = G p) (hls : less = cn_t (fun y => at_c J (nI (fr + y)) < x) j) (hsm : same = cn_t (fun y => at_c J (nI (fr + y)) = x ∧ y < i) j) (hj : j = n) (hx : x = at_c J (nI (fr + i))) :
    un_p J fr n G → less + same = rk_a (ky_c G) n k ∧ ∀ p, k ≤ p → p < n → upd uf k x p = G p := fun z => by
  refine ⟨un_n z hk hcan hls hsm hj hx, fun p h1 h2 => ?_⟩
  by_cases e : p = k
  · subst e; rw [pk_us]; exact un_v z hk hcan hx
  · rw [pk_un e]; exact (hcan z).2 p (by omega) h2
theorem un_x1 {J : List Int32} {fr n k i : Nat} {G uf : Nat → Int32} {x : Int32} (z : un_p J fr n G) (hi : i < n) (hk : k + 1 < n) (hcan : un_p J fr n G → i = rk_a (ky_c G) n (k + 1) ∧ ∀ p, k + 1 ≤ p → p < n → uf p = G p) (hx : x = at_c J (nI (fr + i))) (h : x < 1) : False := by
  rw [un_v z hk hcan hx] at h
  have a := z.1.2.2 k hk
  have b := Int32.lt_iff_toInt_lt.mp h
  have c : (1 : Int32).toInt = 1 := rfl
  have d : ky_c G k = (G k).toInt := rfl
  omega
theorem un_x2 {J : List Int32} {fr n k i : Nat} {G uf : Nat → Int32} {x : Int32} (z : un_p J fr n G) (hi : i < n) (hk : k + 1 < n) (hcan : un_p J fr n G → i = rk_a (ky_c G) n (k + 1) ∧ ∀ p, k + 1 ≤ p → p < n → uf p = G p) (hx : x = at_c J (nI (fr + i))) (h : ¬ x ≤ 6) : False := by
  rw [un_v z hk hcan hx] at h
  exact h (z.2.1 k (by omega))
theorem un_x3 {J : List Int32} {fr n k i j less same : Nat} {G uf : Nat → Int32} {x : Int32} (z : un_p J fr n G) (hi : i < n) (hk : k + 1 < n) (hcan : un_p J fr n G → i = rk_a (ky_c G) n (k + 1) ∧ ∀ p, k + 1 ≤ p → p < n → uf p = G p) (hls : less = cn_t (fun y => at_c J (nI (fr + y)) < x) j) (hsm : same = cn_t (fun y => at_c J (nI (fr + y)) = x ∧ y < i) j) (hj : j = n) (hx : x = at_c J (nI (fr + i))) (h : ¬ less + same < n) : False := by
  have a := un_n z hk hcan hls hsm hj hx
  have b := (rk_ij z.1).1 k (by omega)
  omega

theorem d_Mo_undo_0 : decode b_Mo_undo 0 = .ok (.iconst 0, 1) := by decide +kernel
theorem d_Mo_undo_1 : decode b_Mo_undo 1 = .ok (.istore_n 3, 1) := by decide +kernel
theorem d_Mo_undo_2 : decode b_Mo_undo 2 = .ok (.aload_n 0, 1) := by decide +kernel
theorem d_Mo_undo_3 : decode b_Mo_undo 3 = .ok (.getfield 77, 3) := by decide +kernel
theorem d_Mo_undo_6 : decode b_Mo_undo 6 = .ok (.iload_n 2, 1) := by decide +kernel
theorem d_Mo_undo_7 : decode b_Mo_undo 7 = .ok (.iconst 1, 1) := by decide +kernel
theorem d_Mo_undo_8 : decode b_Mo_undo 8 = .ok (.isub, 1) := by decide +kernel
theorem d_Mo_undo_9 : decode b_Mo_undo 9 = .ok (.iconst 0, 1) := by decide +kernel
theorem d_Mo_undo_10 : decode b_Mo_undo 10 = .ok (.iastore, 1) := by decide +kernel
theorem d_Mo_undo_11 : decode b_Mo_undo 11 = .ok (.iload_n 2, 1) := by decide +kernel
theorem d_Mo_undo_12 : decode b_Mo_undo 12 = .ok (.iconst 2, 1) := by decide +kernel
theorem d_Mo_undo_13 : decode b_Mo_undo 13 = .ok (.isub, 1) := by decide +kernel
theorem d_Mo_undo_14 : decode b_Mo_undo 14 = .ok (.istore 4, 2) := by decide +kernel
theorem d_Mo_undo_16 : decode b_Mo_undo 16 = .ok (.iload 4, 2) := by decide +kernel
theorem d_Mo_undo_18 : decode b_Mo_undo 18 = .ok (.ifCond .lt 128, 3) := by decide +kernel
theorem d_Mo_undo_21 : decode b_Mo_undo 21 = .ok (.aload_n 0, 1) := by decide +kernel
theorem d_Mo_undo_22 : decode b_Mo_undo 22 = .ok (.iload_n 1, 1) := by decide +kernel
theorem d_Mo_undo_23 : decode b_Mo_undo 23 = .ok (.iload_n 3, 1) := by decide +kernel
theorem d_Mo_undo_24 : decode b_Mo_undo 24 = .ok (.iadd, 1) := by decide +kernel
theorem d_Mo_undo_25 : decode b_Mo_undo 25 = .ok (.invokevirtual 245, 3) := by decide +kernel
theorem d_Mo_undo_28 : decode b_Mo_undo 28 = .ok (.istore 5, 2) := by decide +kernel
theorem d_Mo_undo_30 : decode b_Mo_undo 30 = .ok (.iload 5, 2) := by decide +kernel
theorem d_Mo_undo_32 : decode b_Mo_undo 32 = .ok (.iconst 1, 1) := by decide +kernel
theorem d_Mo_undo_33 : decode b_Mo_undo 33 = .ok (.if_icmp .lt 10, 3) := by decide +kernel
theorem d_Mo_undo_36 : decode b_Mo_undo 36 = .ok (.iload 5, 2) := by decide +kernel
theorem d_Mo_undo_38 : decode b_Mo_undo 38 = .ok (.bipush 6, 2) := by decide +kernel
theorem d_Mo_undo_40 : decode b_Mo_undo 40 = .ok (.if_icmp .le 5, 3) := by decide +kernel
theorem d_Mo_undo_43 : decode b_Mo_undo 43 = .ok (.iconst 0, 1) := by decide +kernel
theorem d_Mo_undo_44 : decode b_Mo_undo 44 = .ok (.ireturn, 1) := by decide +kernel
theorem d_Mo_undo_45 : decode b_Mo_undo 45 = .ok (.aload_n 0, 1) := by decide +kernel
theorem d_Mo_undo_46 : decode b_Mo_undo 46 = .ok (.getfield 77, 3) := by decide +kernel
theorem d_Mo_undo_49 : decode b_Mo_undo 49 = .ok (.iload 4, 2) := by decide +kernel
theorem d_Mo_undo_51 : decode b_Mo_undo 51 = .ok (.iload 5, 2) := by decide +kernel
theorem d_Mo_undo_53 : decode b_Mo_undo 53 = .ok (.iastore, 1) := by decide +kernel
theorem d_Mo_undo_54 : decode b_Mo_undo 54 = .ok (.iconst 0, 1) := by decide +kernel
theorem d_Mo_undo_55 : decode b_Mo_undo 55 = .ok (.istore 6, 2) := by decide +kernel
theorem d_Mo_undo_57 : decode b_Mo_undo 57 = .ok (.iconst 0, 1) := by decide +kernel
theorem d_Mo_undo_58 : decode b_Mo_undo 58 = .ok (.istore 7, 2) := by decide +kernel
theorem d_Mo_undo_60 : decode b_Mo_undo 60 = .ok (.iconst 0, 1) := by decide +kernel
theorem d_Mo_undo_61 : decode b_Mo_undo 61 = .ok (.istore 8, 2) := by decide +kernel
theorem d_Mo_undo_63 : decode b_Mo_undo 63 = .ok (.iload 8, 2) := by decide +kernel
theorem d_Mo_undo_65 : decode b_Mo_undo 65 = .ok (.iload_n 2, 1) := by decide +kernel
theorem d_Mo_undo_66 : decode b_Mo_undo 66 = .ok (.if_icmp .ge 61, 3) := by decide +kernel
theorem d_Mo_undo_69 : decode b_Mo_undo 69 = .ok (.aload_n 0, 1) := by decide +kernel
theorem d_Mo_undo_70 : decode b_Mo_undo 70 = .ok (.iload_n 1, 1) := by decide +kernel
theorem d_Mo_undo_71 : decode b_Mo_undo 71 = .ok (.iload 8, 2) := by decide +kernel
theorem d_Mo_undo_73 : decode b_Mo_undo 73 = .ok (.iadd, 1) := by decide +kernel
theorem d_Mo_undo_74 : decode b_Mo_undo 74 = .ok (.invokevirtual 245, 3) := by decide +kernel
theorem d_Mo_undo_77 : decode b_Mo_undo 77 = .ok (.istore 9, 2) := by decide +kernel
theorem d_Mo_undo_79 : decode b_Mo_undo 79 = .ok (.iload 9, 2) := by decide +kernel
theorem d_Mo_undo_81 : decode b_Mo_undo 81 = .ok (.iload 5, 2) := by decide +kernel
theorem d_Mo_undo_83 : decode b_Mo_undo 83 = .ok (.if_icmp .ge 10, 3) := by decide +kernel
theorem d_Mo_undo_86 : decode b_Mo_undo 86 = .ok (.iload 6, 2) := by decide +kernel
theorem d_Mo_undo_88 : decode b_Mo_undo 88 = .ok (.iconst 1, 1) := by decide +kernel
theorem d_Mo_undo_89 : decode b_Mo_undo 89 = .ok (.iadd, 1) := by decide +kernel
theorem d_Mo_undo_90 : decode b_Mo_undo 90 = .ok (.goto 5, 3) := by decide +kernel
theorem d_Mo_undo_93 : decode b_Mo_undo 93 = .ok (.iload 6, 2) := by decide +kernel
theorem d_Mo_undo_95 : decode b_Mo_undo 95 = .ok (.istore 6, 2) := by decide +kernel
theorem d_Mo_undo_97 : decode b_Mo_undo 97 = .ok (.iload 9, 2) := by decide +kernel
theorem d_Mo_undo_99 : decode b_Mo_undo 99 = .ok (.iload 5, 2) := by decide +kernel
theorem d_Mo_undo_101 : decode b_Mo_undo 101 = .ok (.if_icmp .ne 16, 3) := by decide +kernel
theorem d_Mo_undo_104 : decode b_Mo_undo 104 = .ok (.iload 8, 2) := by decide +kernel
theorem d_Mo_undo_106 : decode b_Mo_undo 106 = .ok (.iload_n 3, 1) := by decide +kernel
theorem d_Mo_undo_107 : decode b_Mo_undo 107 = .ok (.if_icmp .ge 10, 3) := by decide +kernel
theorem d_Mo_undo_110 : decode b_Mo_undo 110 = .ok (.iload 7, 2) := by decide +kernel
theorem d_Mo_undo_112 : decode b_Mo_undo 112 = .ok (.iconst 1, 1) := by decide +kernel
theorem d_Mo_undo_113 : decode b_Mo_undo 113 = .ok (.iadd, 1) := by decide +kernel
theorem d_Mo_undo_114 : decode b_Mo_undo 114 = .ok (.goto 5, 3) := by decide +kernel
theorem d_Mo_undo_117 : decode b_Mo_undo 117 = .ok (.iload 7, 2) := by decide +kernel
theorem d_Mo_undo_119 : decode b_Mo_undo 119 = .ok (.istore 7, 2) := by decide +kernel
theorem d_Mo_undo_121 : decode b_Mo_undo 121 = .ok (.iinc 8 1, 3) := by decide +kernel
theorem d_Mo_undo_124 : decode b_Mo_undo 124 = .ok (.goto (-61), 3) := by decide +kernel
theorem d_Mo_undo_127 : decode b_Mo_undo 127 = .ok (.iload 6, 2) := by decide +kernel
theorem d_Mo_undo_129 : decode b_Mo_undo 129 = .ok (.iload 7, 2) := by decide +kernel
theorem d_Mo_undo_131 : decode b_Mo_undo 131 = .ok (.iadd, 1) := by decide +kernel
theorem d_Mo_undo_132 : decode b_Mo_undo 132 = .ok (.istore_n 3, 1) := by decide +kernel
theorem d_Mo_undo_133 : decode b_Mo_undo 133 = .ok (.iload_n 3, 1) := by decide +kernel
theorem d_Mo_undo_134 : decode b_Mo_undo 134 = .ok (.iload_n 2, 1) := by decide +kernel
theorem d_Mo_undo_135 : decode b_Mo_undo 135 = .ok (.if_icmp .lt 5, 3) := by decide +kernel
theorem d_Mo_undo_138 : decode b_Mo_undo 138 = .ok (.iconst 0, 1) := by decide +kernel
theorem d_Mo_undo_139 : decode b_Mo_undo 139 = .ok (.ireturn, 1) := by decide +kernel
theorem d_Mo_undo_140 : decode b_Mo_undo 140 = .ok (.iinc 4 (-1), 3) := by decide +kernel
theorem d_Mo_undo_143 : decode b_Mo_undo 143 = .ok (.goto (-127), 3) := by decide +kernel
theorem d_Mo_undo_146 : decode b_Mo_undo 146 = .ok (.iconst 1, 1) := by decide +kernel
theorem d_Mo_undo_147 : decode b_Mo_undo 147 = .ok (.ireturn, 1) := by decide +kernel
set_option maxHeartbeats 4000000 in
set_option maxRecDepth 100000 in
theorem c_Mo_undo (l : Launch) (D : va_G) (cA : Nat → ClassId) (K : Nat → Nat) (mo ta aN aS aC aB aR aO aW aD a1 a2 a3 a4 aL aY aM bN bS bC bB bR bO aU : Nat) (rd mp gd : Bool) (zt ir : Int32) (np tot rt pl sg rn rs nh td ms ip it il : Nat) (L J : List Int32) (yf : Nat → Int32) (uf : Nat → Int32) (fr n : Nat) (hj : cd_r 200 yf J) (hfr : fr ≤ 1000) (hn1 : 1 ≤ n) (hn : n ≤ 65) : ck_I l y_Mo_undo (Cond.code y_Mo_undo b_Mo_undo 10 (some .boolean) :: w_all) 2 D cA K [.ref mo, .int (nI fr), .int (nI n)] [(mo, .inr (8, [.int zt, .int (nI L.length), .ref ta, .int (nI np), .ref aN, .ref aS, .ref aC, .int (nI tot), .ref aB, .int (bz_c rd), .int (nI rt), .int (nI pl), .ref aR, .ref aO, .int (nI sg), .ref aW, .int (bz_c mp), .int (nI rn), .int (nI rs), .int (bz_c gd), .ref aD, .int (nI nh), .ref a1, .ref a2, .ref a3, .ref a4, .int (nI td), .ref aL, .int (nI J.length), .ref aY, .int (nI ms), .ref aM, .int (nI ip), .int (nI it), .int ir, .int (nI il), .ref bN, .ref bS, .ref bC, .ref bB, .ref bR, .ref bO, .ref aU])), (aY, .inl (cA 0, 200, .inl yf)), (aU, .inl (cA 0, 66, .inl uf))] (fun (r : Int32) (u : Nat → Int32) => (r = 1 ∧ (∀ p, p < n → u p ≤ 6) ∧ (∀ G, un_p J fr n G → ∀ p, p < n → u p = G p)) ∨ (r = 0 ∧ ∀ G, ¬ un_p J fr n G)) (fun u => [(mo, .inr (8, [.int zt, .int (nI L.length), .ref ta, .int (nI np), .ref aN, .ref aS, .ref aC, .int (nI tot), .ref aB, .int (bz_c rd), .int (nI rt), .int (nI pl), .ref aR, .ref aO, .int (nI sg), .ref aW, .int (bz_c mp), .int (nI rn), .int (nI rs), .int (bz_c gd), .ref aD, .int (nI nh), .ref a1, .ref a2, .ref a3, .ref a4, .int (nI td), .ref aL, .int (nI J.length), .ref aY, .int (nI ms), .ref aM, .int (nI ip), .int (nI it), .int ir, .int (nI il), .ref bN, .ref bS, .ref bC, .ref bB, .ref bR, .ref bO, .ref aU])), (aY, .inl (cA 0, 200, .inl yf)), (aU, .inl (cA 0, 66, .inl u))]) := by
  refine ck_mkI (by decide) (fun r u h => by rcases h with ⟨rfl, _⟩ | ⟨rfl, _⟩ <;> rfl) (Nat.le_of_ble_eq_true rfl) ?_
  intro pG eG sG mG argsG belowG methG cG Q A H locs ls hx hb hml hown hts hK hE hA hP hD hS hl hret
  have hl : lv_has ls 10 [(0, .ref mo), (1, .int (nI fr)), (2, .int (nI n))] := hl
  have hl1 := cd_len hj
  have hl0 := hj.1
  refine lv_iconst (v := nI 0) hx hb d_Mo_undo_0 (by decide) ?_
  refine lv_istore_n (lv' := [(3, .int (nI 0)), (0, .ref mo), (1, .int (nI fr)), (2, .int (nI n))]) hx hb d_Mo_undo_1 rfl hl (by decide) rfl (fun ls hl => ?_)
  refine lv_aload_n hx hb d_Mo_undo_2 rfl (lv_at hl 1 rfl) ?_
  refine va_get (C := RX8) (T := TX8) (N := 43) hx hb hts inX8 hown hK hP 0 rfl rfl 42 (by decide) (hts _ m_887) (fun _ h9 => h9) rfl d_Mo_undo_3 ?_
  refine lv_iload_n hx hb d_Mo_undo_6 rfl (lv_at hl 3 rfl) ?_
  refine lv_iconst (v := nI 1) hx hb d_Mo_undo_7 (by decide) ?_
  refine wn_isub (by omega) hx hb d_Mo_undo_8 ?_
  refine lv_iconst (v := nI 0) hx hb d_Mo_undo_9 (by decide) ?_
  refine wn_iast hx hb hK hP hD hS 2 0 rfl rfl (by omega) (by omega) d_Mo_undo_10 (fun H locs hP hD hS => ?_)
  have hP : va_P D vwCl [(mo, .inr (8, [.int zt, .int (nI L.length), .ref ta, .int (nI np), .ref aN, .ref aS, .ref aC, .int (nI tot), .ref aB, .int (bz_c rd), .int (nI rt), .int (nI pl), .ref aR, .ref aO, .int (nI sg), .ref aW, .int (bz_c mp), .int (nI rn), .int (nI rs), .int (bz_c gd), .ref aD, .int (nI nh), .ref a1, .ref a2, .ref a3, .ref a4, .int (nI td), .ref aL, .int (nI J.length), .ref aY, .int (nI ms), .ref aM, .int (nI ip), .int (nI it), .int ir, .int (nI il), .ref bN, .ref bS, .ref bC, .ref bB, .ref bR, .ref bO, .ref aU])), (aY, .inl (cA 0, 200, .inl yf)), (aU, .inl (cA 0, 66, .inl (upd uf (n - 1) (nI 0))))] H := hP
  have hD : va_D A [(mo, .inr (8, [.int zt, .int (nI L.length), .ref ta, .int (nI np), .ref aN, .ref aS, .ref aC, .int (nI tot), .ref aB, .int (bz_c rd), .int (nI rt), .int (nI pl), .ref aR, .ref aO, .int (nI sg), .ref aW, .int (bz_c mp), .int (nI rn), .int (nI rs), .int (bz_c gd), .ref aD, .int (nI nh), .ref a1, .ref a2, .ref a3, .ref a4, .int (nI td), .ref aL, .int (nI J.length), .ref aY, .int (nI ms), .ref aM, .int (nI ip), .int (nI it), .int ir, .int (nI il), .ref bN, .ref bS, .ref bC, .ref bB, .ref bR, .ref bO, .ref aU])), (aY, .inl (cA 0, 200, .inl yf)), (aU, .inl (cA 0, 66, .inl (upd uf (n - 1) (nI 0))))] := hD
  refine lv_iload_n hx hb d_Mo_undo_11 rfl (lv_at hl 3 rfl) ?_
  refine lv_iconst (v := 2) hx hb d_Mo_undo_12 (by decide) ?_
  refine lv_isub hx hb d_Mo_undo_13 ?_
  refine wn_eq (y := nI (n - 1) - 1) (wi_m2 (by omega)) ?_
  refine lv_istore (lv' := [(4, .int (nI (n - 1) - 1)), (3, .int (nI 0)), (0, .ref mo), (1, .int (nI fr)), (2, .int (nI n))]) hx hb d_Mo_undo_14 hl (by decide) rfl (fun ls hl => ?_)
  have L16 : ∀ (nG : Nat) (c i : Nat) (uf1 : Nat → Int32) (H : Heap) (locs : List Loc) (ls : Array Slot), c = nG → (c + 1 ≤ n) → (i < n) → (∀ p, c ≤ p → p < n → uf1 p ≤ 6) → (∀ G, un_p J fr n G → i = rk_a (ky_c G) n c ∧ ∀ p, c ≤ p → p < n → uf1 p = G p) →  va_P D vwCl [(mo, .inr (8, [.int zt, .int (nI L.length), .ref ta, .int (nI np), .ref aN, .ref aS, .ref aC, .int (nI tot), .ref aB, .int (bz_c rd), .int (nI rt), .int (nI pl), .ref aR, .ref aO, .int (nI sg), .ref aW, .int (bz_c mp), .int (nI rn), .int (nI rs), .int (bz_c gd), .ref aD, .int (nI nh), .ref a1, .ref a2, .ref a3, .ref a4, .int (nI td), .ref aL, .int (nI J.length), .ref aY, .int (nI ms), .ref aM, .int (nI ip), .int (nI it), .int ir, .int (nI il), .ref bN, .ref bS, .ref bC, .ref bB, .ref bR, .ref bO, .ref aU])), (aY, .inl (cA 0, 200, .inl yf)), (aU, .inl (cA 0, 66, .inl uf1))] H → va_D A [(mo, .inr (8, [.int zt, .int (nI L.length), .ref ta, .int (nI np), .ref aN, .ref aS, .ref aC, .int (nI tot), .ref aB, .int (bz_c rd), .int (nI rt), .int (nI pl), .ref aR, .ref aO, .int (nI sg), .ref aW, .int (bz_c mp), .int (nI rn), .int (nI rs), .int (bz_c gd), .ref aD, .int (nI nh), .ref a1, .ref a2, .ref a3, .ref a4, .int (nI td), .ref aL, .int (nI J.length), .ref aY, .int (nI ms), .ref aM, .int (nI ip), .int (nI it), .int ir, .int (nI il), .ref bN, .ref bS, .ref bC, .ref bB, .ref bR, .ref bO, .ref aU])), (aY, .inl (cA 0, 200, .inl yf)), (aU, .inl (cA 0, 66, .inl uf1))] → va_S A sG.heap H locs → lv_has ls 10 [(0, .ref mo), (1, .int (nI fr)), (2, .int (nI n)), (3, .int (nI i)), (4, .int (nI c - 1))] → W pG l eG (rm_d 2) sG mG argsG belowG methG cG H locs 0 0 Q (F0 mG 16 ls []) := by
    intro nG
    induction nG using Nat.strongRecOn with
    | ind nG ih16 =>
      intro c i uf1 H locs ls hn16 hc hi hu6 hcan hP hD hS hl
      refine lv_iload hx hb d_Mo_undo_16 (lv_at hl 4 rfl) ?_
      refine lv_if_lt (tgt := 146) hx hb d_Mo_undo_18 (by decide) ?_ ?_
      · intro h18
        refine lv_iconst (v := 1) hx hb d_Mo_undo_146 (by decide) ?_
        exact hret 1 uf1 _ _ _ 147 d_Mo_undo_147 (by have hc0 : c = 0 := un_0 (by omega) h18; exact Or.inl ⟨rfl, fun p hp => hu6 p (by omega) hp, fun G z p hp => (hcan G z).2 p (by omega) hp⟩) hP hD hS
      · intro h18
        obtain ⟨k, hk⟩ := un_k (by omega) h18
        have hc1 : k + 1 = c := hk.1
        subst hc1
        have hl : lv_has ls 10 [(0, .ref mo), (1, .int (nI fr)), (2, .int (nI n)), (3, .int (nI i)), (4, .int (nI k))] := by rw [hk.2] at hl; exact hl
        refine lv_aload_n hx hb d_Mo_undo_21 rfl (lv_at hl 0 rfl) ?_
        refine lv_iload_n hx hb d_Mo_undo_22 rfl (lv_at hl 1 rfl) ?_
        refine lv_iload_n hx hb d_Mo_undo_23 rfl (lv_at hl 3 rfl) ?_
        refine wn_iadd hx hb d_Mo_undo_24 ?_
        refine ck_cV (C := "ReadMapperModel") (ci := 8) (rest := []) (wr := [(aU, .inl (cA 0, 66, .inl uf1))]) (ws2 := fun u => [(mo, .inr (8, [.int zt, .int (nI L.length), .ref ta, .int (nI np), .ref aN, .ref aS, .ref aC, .int (nI tot), .ref aB, .int (bz_c rd), .int (nI rt), .int (nI pl), .ref aR, .ref aO, .int (nI sg), .ref aW, .int (bz_c mp), .int (nI rn), .int (nI rs), .int (bz_c gd), .ref aD, .int (nI nh), .ref a1, .ref a2, .ref a3, .ref a4, .int (nI td), .ref aL, .int (nI J.length), .ref aY, .int (nI ms), .ref aM, .int (nI ip), .int (nI it), .int ir, .int (nI il), .ref bN, .ref bS, .ref bC, .ref bB, .ref bR, .ref bO, .ref aU])), (aY, .inl (cA 0, 200, .inl yf)), (aU, .inl (cA 0, 66, .inl uf1))]) (c_Mo_at l D cA K mo ta aN aS aC aB aR aO aW aD a1 a2 a3 a4 aL aY aM bN bS bC bB bR bO aU rd mp gd zt ir np tot rt pl sg rn rs nh td ms ip it il L J yf (fr + i) (by first | assumption | omega) (by first | assumption | omega)) hx hb hml hown hts hK hE hA hP hD hS k_Mo_at m_1185 (by decide) 0 rfl rfl rfl hl.1 rfl (Nat.le_of_ble_eq_true rfl) d_Mo_undo_25  [0, 1] [2] [1, 2, 0] rfl rfl (by decide) (fun _ => rfl) (fun r25 u25 H locs hq25 hP hD hS => ?_)
        try dsimp only at hq25
        have hP : va_P D vwCl [(mo, .inr (8, [.int zt, .int (nI L.length), .ref ta, .int (nI np), .ref aN, .ref aS, .ref aC, .int (nI tot), .ref aB, .int (bz_c rd), .int (nI rt), .int (nI pl), .ref aR, .ref aO, .int (nI sg), .ref aW, .int (bz_c mp), .int (nI rn), .int (nI rs), .int (bz_c gd), .ref aD, .int (nI nh), .ref a1, .ref a2, .ref a3, .ref a4, .int (nI td), .ref aL, .int (nI J.length), .ref aY, .int (nI ms), .ref aM, .int (nI ip), .int (nI it), .int ir, .int (nI il), .ref bN, .ref bS, .ref bC, .ref bB, .ref bR, .ref bO, .ref aU])), (aY, .inl (cA 0, 200, .inl yf)), (aU, .inl (cA 0, 66, .inl uf1))] H := hP
        have hD : va_D A [(mo, .inr (8, [.int zt, .int (nI L.length), .ref ta, .int (nI np), .ref aN, .ref aS, .ref aC, .int (nI tot), .ref aB, .int (bz_c rd), .int (nI rt), .int (nI pl), .ref aR, .ref aO, .int (nI sg), .ref aW, .int (bz_c mp), .int (nI rn), .int (nI rs), .int (bz_c gd), .ref aD, .int (nI nh), .ref a1, .ref a2, .ref a3, .ref a4, .int (nI td), .ref aL, .int (nI J.length), .ref aY, .int (nI ms), .ref aM, .int (nI ip), .int (nI it), .int ir, .int (nI il), .ref bN, .ref bS, .ref bC, .ref bB, .ref bR, .ref bO, .ref aU])), (aY, .inl (cA 0, 200, .inl yf)), (aU, .inl (cA 0, 66, .inl uf1))] := hD
        subst r25
        obtain ⟨x5, hx5⟩ : ∃ z, z = at_c J (nI (fr + i)) := ⟨_, rfl⟩
        refine wn_eq (y := x5) hx5.symm ?_
        refine lv_istore (lv' := [(5, .int x5), (0, .ref mo), (1, .int (nI fr)), (2, .int (nI n)), (3, .int (nI i)), (4, .int (nI k))]) hx hb d_Mo_undo_28 hl (by decide) rfl (fun ls hl => ?_)
        refine lv_iload hx hb d_Mo_undo_30 (lv_at hl 0 rfl) ?_
        refine lv_iconst (v := 1) hx hb d_Mo_undo_32 (by decide) ?_
        refine lv_icmp_lt (tgt := 43) hx hb d_Mo_undo_33 (by decide) ?_ ?_
        · intro h33
          refine lv_iconst (v := 0) hx hb d_Mo_undo_43 (by decide) ?_
          exact hret 0 uf1 _ _ _ 44 d_Mo_undo_44 (by first | exact Or.inr ⟨rfl, fun G z => un_x1 z hi (by omega) (hcan G) hx5 h33⟩ | exact Or.inr ⟨rfl, fun G z => un_x2 z hi (by omega) (hcan G) hx5 h40⟩) hP hD hS
        · intro h33
          refine lv_iload hx hb d_Mo_undo_36 (lv_at hl 0 rfl) ?_
          refine lv_bipush (v := 6) hx hb d_Mo_undo_38 (by decide) ?_
          refine lv_icmp_le (tgt := 45) hx hb d_Mo_undo_40 (by decide) ?_ ?_
          · intro h40
            refine lv_aload_n hx hb d_Mo_undo_45 rfl (lv_at hl 1 rfl) ?_
            refine va_get (C := RX8) (T := TX8) (N := 43) hx hb hts inX8 hown hK hP 0 rfl rfl 42 (by decide) (hts _ m_887) (fun _ h9 => h9) rfl d_Mo_undo_46 ?_
            refine lv_iload hx hb d_Mo_undo_49 (lv_at hl 5 rfl) ?_
            refine lv_iload hx hb d_Mo_undo_51 (lv_at hl 0 rfl) ?_
            refine wn_iast hx hb hK hP hD hS 2 0 rfl rfl (by omega) (by omega) d_Mo_undo_53 (fun H locs hP hD hS => ?_)
            have hP : va_P D vwCl [(mo, .inr (8, [.int zt, .int (nI L.length), .ref ta, .int (nI np), .ref aN, .ref aS, .ref aC, .int (nI tot), .ref aB, .int (bz_c rd), .int (nI rt), .int (nI pl), .ref aR, .ref aO, .int (nI sg), .ref aW, .int (bz_c mp), .int (nI rn), .int (nI rs), .int (bz_c gd), .ref aD, .int (nI nh), .ref a1, .ref a2, .ref a3, .ref a4, .int (nI td), .ref aL, .int (nI J.length), .ref aY, .int (nI ms), .ref aM, .int (nI ip), .int (nI it), .int ir, .int (nI il), .ref bN, .ref bS, .ref bC, .ref bB, .ref bR, .ref bO, .ref aU])), (aY, .inl (cA 0, 200, .inl yf)), (aU, .inl (cA 0, 66, .inl (upd uf1 k x5)))] H := hP
            have hD : va_D A [(mo, .inr (8, [.int zt, .int (nI L.length), .ref ta, .int (nI np), .ref aN, .ref aS, .ref aC, .int (nI tot), .ref aB, .int (bz_c rd), .int (nI rt), .int (nI pl), .ref aR, .ref aO, .int (nI sg), .ref aW, .int (bz_c mp), .int (nI rn), .int (nI rs), .int (bz_c gd), .ref aD, .int (nI nh), .ref a1, .ref a2, .ref a3, .ref a4, .int (nI td), .ref aL, .int (nI J.length), .ref aY, .int (nI ms), .ref aM, .int (nI ip), .int (nI it), .int ir, .int (nI il), .ref bN, .ref bS, .ref bC, .ref bB, .ref bR, .ref bO, .ref aU])), (aY, .inl (cA 0, 200, .inl yf)), (aU, .inl (cA 0, 66, .inl (upd uf1 k x5)))] := hD
            refine lv_iconst (v := nI 0) hx hb d_Mo_undo_54 (by decide) ?_
            refine lv_istore (lv' := [(6, .int (nI 0)), (5, .int x5), (0, .ref mo), (1, .int (nI fr)), (2, .int (nI n)), (3, .int (nI i)), (4, .int (nI k))]) hx hb d_Mo_undo_55 hl (by decide) rfl (fun ls hl => ?_)
            refine lv_iconst (v := nI 0) hx hb d_Mo_undo_57 (by decide) ?_
            refine lv_istore (lv' := [(7, .int (nI 0)), (6, .int (nI 0)), (5, .int x5), (0, .ref mo), (1, .int (nI fr)), (2, .int (nI n)), (3, .int (nI i)), (4, .int (nI k))]) hx hb d_Mo_undo_58 hl (by decide) rfl (fun ls hl => ?_)
            refine lv_iconst (v := nI 0) hx hb d_Mo_undo_60 (by decide) ?_
            refine lv_istore (lv' := [(8, .int (nI 0)), (7, .int (nI 0)), (6, .int (nI 0)), (5, .int x5), (0, .ref mo), (1, .int (nI fr)), (2, .int (nI n)), (3, .int (nI i)), (4, .int (nI k))]) hx hb d_Mo_undo_61 hl (by decide) rfl (fun ls hl => ?_)
            have L63 : ∀ (nG : Nat) (less same j : Nat) (H : Heap) (locs : List Loc) (ls : Array Slot), n - j = nG → (j ≤ n) → (less = cn_t (fun z => at_c J (nI (fr + z)) < x5) j) → (same = cn_t (fun z => at_c J (nI (fr + z)) = x5 ∧ z < i) j) →  va_P D vwCl [(mo, .inr (8, [.int zt, .int (nI L.length), .ref ta, .int (nI np), .ref aN, .ref aS, .ref aC, .int (nI tot), .ref aB, .int (bz_c rd), .int (nI rt), .int (nI pl), .ref aR, .ref aO, .int (nI sg), .ref aW, .int (bz_c mp), .int (nI rn), .int (nI rs), .int (bz_c gd), .ref aD, .int (nI nh), .ref a1, .ref a2, .ref a3, .ref a4, .int (nI td), .ref aL, .int (nI J.length), .ref aY, .int (nI ms), .ref aM, .int (nI ip), .int (nI it), .int ir, .int (nI il), .ref bN, .ref bS, .ref bC, .ref bB, .ref bR, .ref bO, .ref aU])), (aY, .inl (cA 0, 200, .inl yf)), (aU, .inl (cA 0, 66, .inl (upd uf1 k x5)))] H → va_D A [(mo, .inr (8, [.int zt, .int (nI L.length), .ref ta, .int (nI np), .ref aN, .ref aS, .ref aC, .int (nI tot), .ref aB, .int (bz_c rd), .int (nI rt), .int (nI pl), .ref aR, .ref aO, .int (nI sg), .ref aW, .int (bz_c mp), .int (nI rn), .int (nI rs), .int (bz_c gd), .ref aD, .int (nI nh), .ref a1, .ref a2, .ref a3, .ref a4, .int (nI td), .ref aL, .int (nI J.length), .ref aY, .int (nI ms), .ref aM, .int (nI ip), .int (nI it), .int ir, .int (nI il), .ref bN, .ref bS, .ref bC, .ref bB, .ref bR, .ref bO, .ref aU])), (aY, .inl (cA 0, 200, .inl yf)), (aU, .inl (cA 0, 66, .inl (upd uf1 k x5)))] → va_S A sG.heap H locs → lv_has ls 10 [(0, .ref mo), (1, .int (nI fr)), (2, .int (nI n)), (3, .int (nI i)), (4, .int (nI k)), (5, .int x5), (6, .int (nI less)), (7, .int (nI same)), (8, .int (nI j))] → W pG l eG (rm_d 2) sG mG argsG belowG methG cG H locs 0 0 Q (F0 mG 63 ls []) := by
              intro nG
              induction nG using Nat.strongRecOn with
              | ind nG ih63 =>
                intro less same j H locs ls hn63 hj hls hsm hP hD hS hl
                have hc2 := cn_le (fun z => at_c J (nI (fr + z)) < x5) j
                rw [← hls] at hc2
                have hc3 := cn_le (fun z => at_c J (nI (fr + z)) = x5 ∧ z < i) j
                rw [← hsm] at hc3
                refine lv_iload hx hb d_Mo_undo_63 (lv_at hl 8 rfl) ?_
                refine lv_iload_n hx hb d_Mo_undo_65 rfl (lv_at hl 2 rfl) ?_
                refine wn_icmp_ge (by omega) (by omega) (tgt := 127) hx hb d_Mo_undo_66 (by decide) ?_ ?_
                · intro h66
                  refine lv_iload hx hb d_Mo_undo_127 (lv_at hl 6 rfl) ?_
                  refine lv_iload hx hb d_Mo_undo_129 (lv_at hl 7 rfl) ?_
                  refine wn_iadd hx hb d_Mo_undo_131 ?_
                  refine lv_istore_n (lv' := [(3, .int (nI (less + same))), (0, .ref mo), (1, .int (nI fr)), (2, .int (nI n)), (4, .int (nI k)), (5, .int x5), (6, .int (nI less)), (7, .int (nI same)), (8, .int (nI j))]) hx hb d_Mo_undo_132 rfl hl (by decide) rfl (fun ls hl => ?_)
                  refine lv_iload_n hx hb d_Mo_undo_133 rfl (lv_at hl 0 rfl) ?_
                  refine lv_iload_n hx hb d_Mo_undo_134 rfl (lv_at hl 3 rfl) ?_
                  refine wn_icmp_lt (by omega) (by omega) (tgt := 140) hx hb d_Mo_undo_135 (by decide) ?_ ?_
                  · intro h135
                    refine lv_iinc (k := 4) (v := nI k - 1) (lv' := [(4, .int (nI k - 1)), (3, .int (nI (less + same))), (0, .ref mo), (1, .int (nI fr)), (2, .int (nI n)), (5, .int x5), (6, .int (nI less)), (7, .int (nI same)), (8, .int (nI j))]) hx hb d_Mo_undo_140 hl rfl (un_d k) (by decide) rfl (fun ls hl => ?_)
                    refine lv_goto (tgt := 16) hx hb d_Mo_undo_143 (by decide) ?_
                    exact ih16 _ (by omega) k (less + same) (upd uf1 k x5) _ _ _ rfl (by first | assumption | omega) (by first | assumption | omega) (un_s6 hu6 h40) (fun G => un_s hi (by omega) (hcan G) hls hsm (by omega) hx5) hP hD hS (lv_sub hl [2, 3, 4, 1, 0] rfl)
                  · intro h135
                    refine lv_iconst (v := 0) hx hb d_Mo_undo_138 (by decide) ?_
                    exact hret 0 (upd uf1 k x5) _ _ _ 139 d_Mo_undo_139 (Or.inr ⟨rfl, fun G z => un_x3 z hi (by omega) (hcan G) hls hsm (by omega) hx5 (by omega)⟩) hP hD hS
                · intro h66
                  refine lv_aload_n hx hb d_Mo_undo_69 rfl (lv_at hl 0 rfl) ?_
                  refine lv_iload_n hx hb d_Mo_undo_70 rfl (lv_at hl 1 rfl) ?_
                  refine lv_iload hx hb d_Mo_undo_71 (lv_at hl 8 rfl) ?_
                  refine wn_iadd hx hb d_Mo_undo_73 ?_
                  refine ck_cV (C := "ReadMapperModel") (ci := 8) (rest := []) (wr := [(aU, .inl (cA 0, 66, .inl (upd uf1 k x5)))]) (ws2 := fun u => [(mo, .inr (8, [.int zt, .int (nI L.length), .ref ta, .int (nI np), .ref aN, .ref aS, .ref aC, .int (nI tot), .ref aB, .int (bz_c rd), .int (nI rt), .int (nI pl), .ref aR, .ref aO, .int (nI sg), .ref aW, .int (bz_c mp), .int (nI rn), .int (nI rs), .int (bz_c gd), .ref aD, .int (nI nh), .ref a1, .ref a2, .ref a3, .ref a4, .int (nI td), .ref aL, .int (nI J.length), .ref aY, .int (nI ms), .ref aM, .int (nI ip), .int (nI it), .int ir, .int (nI il), .ref bN, .ref bS, .ref bC, .ref bB, .ref bR, .ref bO, .ref aU])), (aY, .inl (cA 0, 200, .inl yf)), (aU, .inl (cA 0, 66, .inl (upd uf1 k x5)))]) (c_Mo_at l D cA K mo ta aN aS aC aB aR aO aW aD a1 a2 a3 a4 aL aY aM bN bS bC bB bR bO aU rd mp gd zt ir np tot rt pl sg rn rs nh td ms ip it il L J yf (fr + j) (by first | assumption | omega) (by first | assumption | omega)) hx hb hml hown hts hK hE hA hP hD hS k_Mo_at m_1185 (by decide) 0 rfl rfl rfl hl.1 rfl (Nat.le_of_ble_eq_true rfl) d_Mo_undo_74  [0, 1] [2] [1, 2, 0] rfl rfl (by decide) (fun _ => rfl) (fun r74 u74 H locs hq74 hP hD hS => ?_)
                  try dsimp only at hq74
                  have hP : va_P D vwCl [(mo, .inr (8, [.int zt, .int (nI L.length), .ref ta, .int (nI np), .ref aN, .ref aS, .ref aC, .int (nI tot), .ref aB, .int (bz_c rd), .int (nI rt), .int (nI pl), .ref aR, .ref aO, .int (nI sg), .ref aW, .int (bz_c mp), .int (nI rn), .int (nI rs), .int (bz_c gd), .ref aD, .int (nI nh), .ref a1, .ref a2, .ref a3, .ref a4, .int (nI td), .ref aL, .int (nI J.length), .ref aY, .int (nI ms), .ref aM, .int (nI ip), .int (nI it), .int ir, .int (nI il), .ref bN, .ref bS, .ref bC, .ref bB, .ref bR, .ref bO, .ref aU])), (aY, .inl (cA 0, 200, .inl yf)), (aU, .inl (cA 0, 66, .inl (upd uf1 k x5)))] H := hP
                  have hD : va_D A [(mo, .inr (8, [.int zt, .int (nI L.length), .ref ta, .int (nI np), .ref aN, .ref aS, .ref aC, .int (nI tot), .ref aB, .int (bz_c rd), .int (nI rt), .int (nI pl), .ref aR, .ref aO, .int (nI sg), .ref aW, .int (bz_c mp), .int (nI rn), .int (nI rs), .int (bz_c gd), .ref aD, .int (nI nh), .ref a1, .ref a2, .ref a3, .ref a4, .int (nI td), .ref aL, .int (nI J.length), .ref aY, .int (nI ms), .ref aM, .int (nI ip), .int (nI it), .int ir, .int (nI il), .ref bN, .ref bS, .ref bC, .ref bB, .ref bR, .ref bO, .ref aU])), (aY, .inl (cA 0, 200, .inl yf)), (aU, .inl (cA 0, 66, .inl (upd uf1 k x5)))] := hD
                  subst r74
                  refine lv_istore (lv' := [(9, .int (at_c J (nI (fr + j)))), (0, .ref mo), (1, .int (nI fr)), (2, .int (nI n)), (3, .int (nI i)), (4, .int (nI k)), (5, .int x5), (6, .int (nI less)), (7, .int (nI same)), (8, .int (nI j))]) hx hb d_Mo_undo_77 hl (by decide) rfl (fun ls hl => ?_)
                  refine lv_iload hx hb d_Mo_undo_79 (lv_at hl 0 rfl) ?_
                  refine lv_iload hx hb d_Mo_undo_81 (lv_at hl 6 rfl) ?_
                  refine lv_icmp_ge (tgt := 93) hx hb d_Mo_undo_83 (by decide) ?_ ?_
                  · intro h83
                    refine lv_iload hx hb d_Mo_undo_93 (lv_at hl 7 rfl) ?_
                    refine lv_istore (lv' := [(6, .int (nI less)), (9, .int (at_c J (nI (fr + j)))), (0, .ref mo), (1, .int (nI fr)), (2, .int (nI n)), (3, .int (nI i)), (4, .int (nI k)), (5, .int x5), (7, .int (nI same)), (8, .int (nI j))]) hx hb d_Mo_undo_95 hl (by decide) rfl (fun ls hl => ?_)
                    refine lv_iload hx hb d_Mo_undo_97 (lv_at hl 1 rfl) ?_
                    refine lv_iload hx hb d_Mo_undo_99 (lv_at hl 7 rfl) ?_
                    refine lv_icmp_ne (tgt := 117) hx hb d_Mo_undo_101 (by decide) ?_ ?_
                    · intro h101
                      refine lv_iload hx hb d_Mo_undo_117 (lv_at hl 8 rfl) ?_
                      refine lv_istore (lv' := [(7, .int (nI same)), (6, .int (nI less)), (9, .int (at_c J (nI (fr + j)))), (0, .ref mo), (1, .int (nI fr)), (2, .int (nI n)), (3, .int (nI i)), (4, .int (nI k)), (5, .int x5), (8, .int (nI j))]) hx hb d_Mo_undo_119 hl (by decide) rfl (fun ls hl => ?_)
                      refine lv_iinc (k := 9) (v := nI (j + 1)) (lv' := [(8, .int (nI (j + 1))), (7, .int (nI same)), (6, .int (nI less)), (9, .int (at_c J (nI (fr + j)))), (0, .ref mo), (1, .int (nI fr)), (2, .int (nI n)), (3, .int (nI i)), (4, .int (nI k)), (5, .int x5)]) hx hb d_Mo_undo_121 hl rfl (wi_inc1 _) (by decide) rfl (fun ls hl => ?_)
                      refine lv_goto (tgt := 63) hx hb d_Mo_undo_124 (by decide) ?_
                      exact ih63 _ (by omega) less same (j + 1) _ _ _ rfl (by first | assumption | omega) (by first | exact lo_y hls (Int32.not_le.mp h83) | exact lo_n hls (Int32.not_lt.mpr h83)) (by first | exact lo_y hsm ⟨h101, by omega⟩ | exact lo_n hsm (fun y => h101 y.1) | exact lo_n hsm (fun y => by have y2 := y.2; omega)) hP hD hS (lv_sub hl [4, 5, 6, 7, 8, 9, 2, 1, 0] rfl)
                    · intro h101
                      refine lv_iload hx hb d_Mo_undo_104 (lv_at hl 9 rfl) ?_
                      refine lv_iload_n hx hb d_Mo_undo_106 rfl (lv_at hl 5 rfl) ?_
                      refine wn_icmp_ge (by omega) (by omega) (tgt := 117) hx hb d_Mo_undo_107 (by decide) ?_ ?_
                      · intro h107
                        refine lv_iload hx hb d_Mo_undo_117 (lv_at hl 8 rfl) ?_
                        refine lv_istore (lv' := [(7, .int (nI same)), (6, .int (nI less)), (9, .int (at_c J (nI (fr + j)))), (0, .ref mo), (1, .int (nI fr)), (2, .int (nI n)), (3, .int (nI i)), (4, .int (nI k)), (5, .int x5), (8, .int (nI j))]) hx hb d_Mo_undo_119 hl (by decide) rfl (fun ls hl => ?_)
                        refine lv_iinc (k := 9) (v := nI (j + 1)) (lv' := [(8, .int (nI (j + 1))), (7, .int (nI same)), (6, .int (nI less)), (9, .int (at_c J (nI (fr + j)))), (0, .ref mo), (1, .int (nI fr)), (2, .int (nI n)), (3, .int (nI i)), (4, .int (nI k)), (5, .int x5)]) hx hb d_Mo_undo_121 hl rfl (wi_inc1 _) (by decide) rfl (fun ls hl => ?_)
                        refine lv_goto (tgt := 63) hx hb d_Mo_undo_124 (by decide) ?_
                        exact ih63 _ (by omega) less same (j + 1) _ _ _ rfl (by first | assumption | omega) (by first | exact lo_y hls (Int32.not_le.mp h83) | exact lo_n hls (Int32.not_lt.mpr h83)) (by first | exact lo_y hsm ⟨h101, by omega⟩ | exact lo_n hsm (fun y => h101 y.1) | exact lo_n hsm (fun y => by have y2 := y.2; omega)) hP hD hS (lv_sub hl [4, 5, 6, 7, 8, 9, 2, 1, 0] rfl)
                      · intro h107
                        refine lv_iload hx hb d_Mo_undo_110 (lv_at hl 8 rfl) ?_
                        refine lv_iconst (v := nI 1) hx hb d_Mo_undo_112 (by decide) ?_
                        refine wn_iadd hx hb d_Mo_undo_113 ?_
                        refine lv_goto (tgt := 119) hx hb d_Mo_undo_114 (by decide) ?_
                        refine lv_istore (lv' := [(7, .int (nI (same + 1))), (6, .int (nI less)), (9, .int (at_c J (nI (fr + j)))), (0, .ref mo), (1, .int (nI fr)), (2, .int (nI n)), (3, .int (nI i)), (4, .int (nI k)), (5, .int x5), (8, .int (nI j))]) hx hb d_Mo_undo_119 hl (by decide) rfl (fun ls hl => ?_)
                        refine lv_iinc (k := 9) (v := nI (j + 1)) (lv' := [(8, .int (nI (j + 1))), (7, .int (nI (same + 1))), (6, .int (nI less)), (9, .int (at_c J (nI (fr + j)))), (0, .ref mo), (1, .int (nI fr)), (2, .int (nI n)), (3, .int (nI i)), (4, .int (nI k)), (5, .int x5)]) hx hb d_Mo_undo_121 hl rfl (wi_inc1 _) (by decide) rfl (fun ls hl => ?_)
                        refine lv_goto (tgt := 63) hx hb d_Mo_undo_124 (by decide) ?_
                        exact ih63 _ (by omega) less (same + 1) (j + 1) _ _ _ rfl (by first | assumption | omega) (by first | exact lo_y hls (Int32.not_le.mp h83) | exact lo_n hls (Int32.not_lt.mpr h83)) (by first | exact lo_y hsm ⟨h101, by omega⟩ | exact lo_n hsm (fun y => h101 y.1) | exact lo_n hsm (fun y => by have y2 := y.2; omega)) hP hD hS (lv_sub hl [4, 5, 6, 7, 8, 9, 2, 1, 0] rfl)
                  · intro h83
                    refine lv_iload hx hb d_Mo_undo_86 (lv_at hl 7 rfl) ?_
                    refine lv_iconst (v := nI 1) hx hb d_Mo_undo_88 (by decide) ?_
                    refine wn_iadd hx hb d_Mo_undo_89 ?_
                    refine lv_goto (tgt := 95) hx hb d_Mo_undo_90 (by decide) ?_
                    refine lv_istore (lv' := [(6, .int (nI (less + 1))), (9, .int (at_c J (nI (fr + j)))), (0, .ref mo), (1, .int (nI fr)), (2, .int (nI n)), (3, .int (nI i)), (4, .int (nI k)), (5, .int x5), (7, .int (nI same)), (8, .int (nI j))]) hx hb d_Mo_undo_95 hl (by decide) rfl (fun ls hl => ?_)
                    refine lv_iload hx hb d_Mo_undo_97 (lv_at hl 1 rfl) ?_
                    refine lv_iload hx hb d_Mo_undo_99 (lv_at hl 7 rfl) ?_
                    refine lv_icmp_ne (tgt := 117) hx hb d_Mo_undo_101 (by decide) ?_ ?_
                    · intro h101
                      refine lv_iload hx hb d_Mo_undo_117 (lv_at hl 8 rfl) ?_
                      refine lv_istore (lv' := [(7, .int (nI same)), (6, .int (nI (less + 1))), (9, .int (at_c J (nI (fr + j)))), (0, .ref mo), (1, .int (nI fr)), (2, .int (nI n)), (3, .int (nI i)), (4, .int (nI k)), (5, .int x5), (8, .int (nI j))]) hx hb d_Mo_undo_119 hl (by decide) rfl (fun ls hl => ?_)
                      refine lv_iinc (k := 9) (v := nI (j + 1)) (lv' := [(8, .int (nI (j + 1))), (7, .int (nI same)), (6, .int (nI (less + 1))), (9, .int (at_c J (nI (fr + j)))), (0, .ref mo), (1, .int (nI fr)), (2, .int (nI n)), (3, .int (nI i)), (4, .int (nI k)), (5, .int x5)]) hx hb d_Mo_undo_121 hl rfl (wi_inc1 _) (by decide) rfl (fun ls hl => ?_)
                      refine lv_goto (tgt := 63) hx hb d_Mo_undo_124 (by decide) ?_
                      exact ih63 _ (by omega) (less + 1) same (j + 1) _ _ _ rfl (by first | assumption | omega) (by first | exact lo_y hls (Int32.not_le.mp h83) | exact lo_n hls (Int32.not_lt.mpr h83)) (by first | exact lo_y hsm ⟨h101, by omega⟩ | exact lo_n hsm (fun y => h101 y.1) | exact lo_n hsm (fun y => by have y2 := y.2; omega)) hP hD hS (lv_sub hl [4, 5, 6, 7, 8, 9, 2, 1, 0] rfl)
                    · intro h101
                      refine lv_iload hx hb d_Mo_undo_104 (lv_at hl 9 rfl) ?_
                      refine lv_iload_n hx hb d_Mo_undo_106 rfl (lv_at hl 5 rfl) ?_
                      refine wn_icmp_ge (by omega) (by omega) (tgt := 117) hx hb d_Mo_undo_107 (by decide) ?_ ?_
                      · intro h107
                        refine lv_iload hx hb d_Mo_undo_117 (lv_at hl 8 rfl) ?_
                        refine lv_istore (lv' := [(7, .int (nI same)), (6, .int (nI (less + 1))), (9, .int (at_c J (nI (fr + j)))), (0, .ref mo), (1, .int (nI fr)), (2, .int (nI n)), (3, .int (nI i)), (4, .int (nI k)), (5, .int x5), (8, .int (nI j))]) hx hb d_Mo_undo_119 hl (by decide) rfl (fun ls hl => ?_)
                        refine lv_iinc (k := 9) (v := nI (j + 1)) (lv' := [(8, .int (nI (j + 1))), (7, .int (nI same)), (6, .int (nI (less + 1))), (9, .int (at_c J (nI (fr + j)))), (0, .ref mo), (1, .int (nI fr)), (2, .int (nI n)), (3, .int (nI i)), (4, .int (nI k)), (5, .int x5)]) hx hb d_Mo_undo_121 hl rfl (wi_inc1 _) (by decide) rfl (fun ls hl => ?_)
                        refine lv_goto (tgt := 63) hx hb d_Mo_undo_124 (by decide) ?_
                        exact ih63 _ (by omega) (less + 1) same (j + 1) _ _ _ rfl (by first | assumption | omega) (by first | exact lo_y hls (Int32.not_le.mp h83) | exact lo_n hls (Int32.not_lt.mpr h83)) (by first | exact lo_y hsm ⟨h101, by omega⟩ | exact lo_n hsm (fun y => h101 y.1) | exact lo_n hsm (fun y => by have y2 := y.2; omega)) hP hD hS (lv_sub hl [4, 5, 6, 7, 8, 9, 2, 1, 0] rfl)
                      · intro h107
                        refine lv_iload hx hb d_Mo_undo_110 (lv_at hl 8 rfl) ?_
                        refine lv_iconst (v := nI 1) hx hb d_Mo_undo_112 (by decide) ?_
                        refine wn_iadd hx hb d_Mo_undo_113 ?_
                        refine lv_goto (tgt := 119) hx hb d_Mo_undo_114 (by decide) ?_
                        refine lv_istore (lv' := [(7, .int (nI (same + 1))), (6, .int (nI (less + 1))), (9, .int (at_c J (nI (fr + j)))), (0, .ref mo), (1, .int (nI fr)), (2, .int (nI n)), (3, .int (nI i)), (4, .int (nI k)), (5, .int x5), (8, .int (nI j))]) hx hb d_Mo_undo_119 hl (by decide) rfl (fun ls hl => ?_)
                        refine lv_iinc (k := 9) (v := nI (j + 1)) (lv' := [(8, .int (nI (j + 1))), (7, .int (nI (same + 1))), (6, .int (nI (less + 1))), (9, .int (at_c J (nI (fr + j)))), (0, .ref mo), (1, .int (nI fr)), (2, .int (nI n)), (3, .int (nI i)), (4, .int (nI k)), (5, .int x5)]) hx hb d_Mo_undo_121 hl rfl (wi_inc1 _) (by decide) rfl (fun ls hl => ?_)
                        refine lv_goto (tgt := 63) hx hb d_Mo_undo_124 (by decide) ?_
                        exact ih63 _ (by omega) (less + 1) (same + 1) (j + 1) _ _ _ rfl (by first | assumption | omega) (by first | exact lo_y hls (Int32.not_le.mp h83) | exact lo_n hls (Int32.not_lt.mpr h83)) (by first | exact lo_y hsm ⟨h101, by omega⟩ | exact lo_n hsm (fun y => h101 y.1) | exact lo_n hsm (fun y => by have y2 := y.2; omega)) hP hD hS (lv_sub hl [4, 5, 6, 7, 8, 9, 2, 1, 0] rfl)
            exact L63 _ 0 0 0 _ _ _ rfl (by first | assumption | omega) rfl rfl hP hD hS (lv_sub hl [4, 5, 6, 7, 8, 3, 2, 1, 0] rfl)
          · intro h40
            refine lv_iconst (v := 0) hx hb d_Mo_undo_43 (by decide) ?_
            exact hret 0 uf1 _ _ _ 44 d_Mo_undo_44 (by first | exact Or.inr ⟨rfl, fun G z => un_x1 z hi (by omega) (hcan G) hx5 h33⟩ | exact Or.inr ⟨rfl, fun G z => un_x2 z hi (by omega) (hcan G) hx5 h40⟩) hP hD hS
  exact L16 _ (n - 1) 0 (upd uf (n - 1) (nI 0)) _ _ _ rfl (by first | assumption | omega) (by first | assumption | omega) (un_i6 hn1) (fun _ => un_i hn1) hP hD hS (lv_sub hl [2, 3, 4, 1, 0] rfl)
theorem k_Mo_undo : cf_V y_Mo_undo b_Mo_undo 10 (some .boolean) "ReadMapperModel" 2 := ⟨⟨m_1195, (wm_s (q := (y_Mo_undo, 43)) (by decide +kernel)), m_9, m_1196⟩, by decide +kernel⟩
