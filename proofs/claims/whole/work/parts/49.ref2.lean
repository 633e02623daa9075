/-! the reference: its pieces, the row, the order of its endings -/
def bl_c (BS : Nat → List Int32) : Nat → Nat := fun p => (BS p).length
def nm_p (np : Nat) (NM : Nat → List Int32) (nf sz : Nat → Int32) : Prop := ∀ p, p < np → (NM p).length ≤ 8 ∧ sz p = nI (NM p).length ∧ ∀ j, j < (NM p).length → nf (8 * p + j) = (NM p).getD j 0
def bf_c (rw : Nat → Int32) (so : Nat → Nat) (i : Nat) : Int32 := if so i = 0 then 0 else rw (so i - 1)
theorem up_s {f g : Nat → Int32} {n : Nat} {x : Int32} (h : ∀ z, z < n → f z = g z) (hx : x = g n) : ∀ z, z < n + 1 → upd f n x z = g z := by
  intro z hz
  rcases Nat.lt_or_ge z n with y | y
  · rw [pk_un (by omega)]; exact h z y
  · have e : z = n := by omega
    subst e
    rw [pk_us]; exact hx
theorem il_lt {G : Nat → Int32} {n p q k : Nat} (hk : rw_k (ky_c G) n) (hp : p < n) (hq : q < n) (hne : ¬ p = q) (h1 : p + k ≤ n) (h2 : q + k ≤ n) (hs : ∀ i, i < k → G (p + i) = G (q + i)) : p + k < n ∧ q + k < n := by
  have key : ∀ {p q : Nat}, p < n → q < n → ¬ p = q → p + k ≤ n → q + k ≤ n → (∀ i, i < k → G (p + i) = G (q + i)) → p + k < n := by
    intro p q hp hq hne h1 h2 hs
    rcases Nat.lt_or_ge (p + k) n with z | z
    · exact z
    · exfalso
      have e := hs (k - 1) (by omega)
      have e1 : ky_c G (n - 1) = 0 := hk.2.1
      rw [show p + (k - 1) = n - 1 by omega] at e
      have e2 : ky_c G (q + (k - 1)) = 0 := by
        show (G (q + (k - 1))).toInt = 0
        rw [← e]; exact e1
      have e3 := hk.2.2 (q + (k - 1)) (by omega)
      omega
  exact ⟨key hp hq hne h1 h2 hs, key hq hp (fun e => hne e.symm) h2 h1 (fun i hi => (hs i hi).symm)⟩
theorem il_1 {G : Nat → Int32} {n p q k : Nat} (hz : p + k < n ∧ q + k < n) (hs : ∀ i, i < k → G (p + i) = G (q + i)) (h : ¬ G (q + k) ≤ G (p + k)) : el_t (ky_c G) n p q :=
  ⟨k, hz.1, hz.2, fun i hi => by show (G (p + i)).toInt = (G (q + i)).toInt; rw [hs i hi], by show (G (p + k)).toInt < (G (q + k)).toInt; have := mt Int32.le_iff_toInt_le.mpr h; omega⟩
theorem il_0 {G : Nat → Int32} {n p q k : Nat} (hz : p + k < n ∧ q + k < n) (hs : ∀ i, i < k → G (p + i) = G (q + i)) (h0 : ¬ G (p + k) = G (q + k)) (h : G (q + k) ≤ G (p + k)) : ¬ el_t (ky_c G) n p q :=
  el_asym ⟨k, hz.2, hz.1, fun i hi => by show (G (q + i)).toInt = (G (p + i)).toInt; rw [hs i hi], by
    show (G (q + k)).toInt < (G (p + k)).toInt
    have h1 := Int32.le_iff_toInt_le.mp h
    have h2 : ¬ (G (p + k)).toInt = (G (q + k)).toInt := fun e => h0 (Int32.toInt_inj.mp e)
    omega⟩
theorem lo_0 {tot np k : Nat} {q : Nat → Nat} (h : tot = tt_c q np) (hk : k ≤ np) : tt_c q k ≤ tot := h ▸ tt_mono q hk
theorem lo_1 {np k pn : Nat} {q : Nat → Nat} {B : Nat → Nat → Int32} {G : Nat → Int32} (hG : ly_p np q B G) (hk : k < np) (h : np - 1 ≤ k) (hpn : pn = tt_c q k + k + q k) : nI 0 = G pn := by
  rw [hpn, (hG k hk).2, if_neg (by omega)]; rfl
theorem lo_2 {np k pn : Nat} {q : Nat → Nat} {B : Nat → Nat → Int32} {G : Nat → Int32} (hG : ly_p np q B G) (hk : k < np) (h : k < np - 1) (hpn : pn = tt_c q k + k + q k) : nI 1 = G pn := by
  rw [hpn, (hG k hk).2, if_pos (by omega)]; rfl
theorem lo_n {P : Nat → Prop} {n z : Nat} (h : n = cn_t P z) (hz : ¬ P z) : n = cn_t P (z + 1) := by rw [cn_no hz]; exact h
theorem lo_y {P : Nat → Prop} {n z : Nat} (h : n = cn_t P z) (hz : P z) : n + 1 = cn_t P (z + 1) := by rw [cn_yes hz, h]
theorem lo_o {G of1 : Nat → Int32} {n p less : Nat} (hk : rw_k (ky_c G) n) (hp : p ≤ n) (ho : ∀ j, j < p → of1 (rk_a (ky_c G) n j) = nI j) (hle : less = rk_a (ky_c G) n p) (hp2 : p < n) : ∀ j, j < p + 1 → upd of1 less (nI p) (rk_a (ky_c G) n j) = nI j := by
  intro j hj
  rcases Nat.lt_or_ge j p with z | z
  · rw [pk_un (fun e => by have := (rk_ij hk).2 j p (by omega) hp2 (e.trans hle); omega)]
    exact ho j z
  · have e : j = p := by omega
    subst e
    rw [← hle, pk_us]
theorem if_px {rd : Bool} {n : Nat} {f : Nat → Int32} {i : Int32} (h : ¬ (rd = true ∧ ¬ i < 0 ∧ ¬ nI n ≤ i)) : (if rd = true then px_c n f i else -1) = -1 := by
  split
  · rename_i e
    exact if_neg (fun z => h ⟨e, z⟩)
  · rfl
theorem oc_6 {x : Int32} (h : 6 < x) : nI 7 ≤ x := by
  have h1 := Int32.lt_iff_toInt_lt.mp h
  apply Int32.le_iff_toInt_le.mpr
  have e1 : (6 : Int32).toInt = 6 := rfl
  have e2 : (nI 7).toInt = 7 := rfl
  omega
theorem oc_7 {x : Int32} (h : ¬ 6 < x) : ¬ nI 7 ≤ x := by
  have h1 := mt Int32.lt_iff_toInt_lt.mpr h
  intro h2
  have h2 := Int32.le_iff_toInt_le.mp h2
  have e1 : (6 : Int32).toInt = 6 := rfl
  have e2 : (nI 7).toInt = 7 := rfl
  omega

theorem d_Mo_isThere_0 : decode b_Mo_isThere 0 = .ok (.iconst 0, 1) := by decide +kernel
theorem d_Mo_isThere_1 : decode b_Mo_isThere 1 = .ok (.istore_n 2, 1) := by decide +kernel
theorem d_Mo_isThere_2 : decode b_Mo_isThere 2 = .ok (.iload_n 2, 1) := by decide +kernel
theorem d_Mo_isThere_3 : decode b_Mo_isThere 3 = .ok (.aload_n 0, 1) := by decide +kernel
theorem d_Mo_isThere_4 : decode b_Mo_isThere 4 = .ok (.getfield 97, 3) := by decide +kernel
theorem d_Mo_isThere_7 : decode b_Mo_isThere 7 = .ok (.if_icmp .ge 78, 3) := by decide +kernel
theorem d_Mo_isThere_10 : decode b_Mo_isThere 10 = .ok (.aload_n 0, 1) := by decide +kernel
theorem d_Mo_isThere_11 : decode b_Mo_isThere 11 = .ok (.getfield 16, 3) := by decide +kernel
theorem d_Mo_isThere_14 : decode b_Mo_isThere 14 = .ok (.iload_n 2, 1) := by decide +kernel
theorem d_Mo_isThere_15 : decode b_Mo_isThere 15 = .ok (.iaload, 1) := by decide +kernel
theorem d_Mo_isThere_16 : decode b_Mo_isThere 16 = .ok (.iload_n 1, 1) := by decide +kernel
theorem d_Mo_isThere_17 : decode b_Mo_isThere 17 = .ok (.if_icmp .ne 7, 3) := by decide +kernel
theorem d_Mo_isThere_20 : decode b_Mo_isThere 20 = .ok (.iconst 1, 1) := by decide +kernel
theorem d_Mo_isThere_21 : decode b_Mo_isThere 21 = .ok (.goto 4, 3) := by decide +kernel
theorem d_Mo_isThere_24 : decode b_Mo_isThere 24 = .ok (.iconst 0, 1) := by decide +kernel
theorem d_Mo_isThere_25 : decode b_Mo_isThere 25 = .ok (.istore_n 3, 1) := by decide +kernel
theorem d_Mo_isThere_26 : decode b_Mo_isThere 26 = .ok (.iconst 0, 1) := by decide +kernel
theorem d_Mo_isThere_27 : decode b_Mo_isThere 27 = .ok (.istore 4, 2) := by decide +kernel
theorem d_Mo_isThere_29 : decode b_Mo_isThere 29 = .ok (.iload 4, 2) := by decide +kernel
theorem d_Mo_isThere_31 : decode b_Mo_isThere 31 = .ok (.iload_n 1, 1) := by decide +kernel
theorem d_Mo_isThere_32 : decode b_Mo_isThere 32 = .ok (.if_icmp .ge 41, 3) := by decide +kernel
theorem d_Mo_isThere_35 : decode b_Mo_isThere 35 = .ok (.iload_n 3, 1) := by decide +kernel
theorem d_Mo_isThere_36 : decode b_Mo_isThere 36 = .ok (.ifCond .eq 37, 3) := by decide +kernel
theorem d_Mo_isThere_39 : decode b_Mo_isThere 39 = .ok (.aload_n 0, 1) := by decide +kernel
theorem d_Mo_isThere_40 : decode b_Mo_isThere 40 = .ok (.getfield 13, 3) := by decide +kernel
theorem d_Mo_isThere_43 : decode b_Mo_isThere 43 = .ok (.bipush 8, 2) := by decide +kernel
theorem d_Mo_isThere_45 : decode b_Mo_isThere 45 = .ok (.iload_n 2, 1) := by decide +kernel
theorem d_Mo_isThere_46 : decode b_Mo_isThere 46 = .ok (.imul, 1) := by decide +kernel
theorem d_Mo_isThere_47 : decode b_Mo_isThere 47 = .ok (.iload 4, 2) := by decide +kernel
theorem d_Mo_isThere_49 : decode b_Mo_isThere 49 = .ok (.iadd, 1) := by decide +kernel
theorem d_Mo_isThere_50 : decode b_Mo_isThere 50 = .ok (.caload, 1) := by decide +kernel
theorem d_Mo_isThere_51 : decode b_Mo_isThere 51 = .ok (.aload_n 0, 1) := by decide +kernel
theorem d_Mo_isThere_52 : decode b_Mo_isThere 52 = .ok (.getfield 7, 3) := by decide +kernel
theorem d_Mo_isThere_55 : decode b_Mo_isThere 55 = .ok (.iload 4, 2) := by decide +kernel
theorem d_Mo_isThere_57 : decode b_Mo_isThere 57 = .ok (.caload, 1) := by decide +kernel
theorem d_Mo_isThere_58 : decode b_Mo_isThere 58 = .ok (.if_icmp .ne 7, 3) := by decide +kernel
theorem d_Mo_isThere_61 : decode b_Mo_isThere 61 = .ok (.iconst 1, 1) := by decide +kernel
theorem d_Mo_isThere_62 : decode b_Mo_isThere 62 = .ok (.goto 4, 3) := by decide +kernel
theorem d_Mo_isThere_65 : decode b_Mo_isThere 65 = .ok (.iconst 0, 1) := by decide +kernel
theorem d_Mo_isThere_66 : decode b_Mo_isThere 66 = .ok (.istore_n 3, 1) := by decide +kernel
theorem d_Mo_isThere_67 : decode b_Mo_isThere 67 = .ok (.iinc 4 1, 3) := by decide +kernel
theorem d_Mo_isThere_70 : decode b_Mo_isThere 70 = .ok (.goto (-41), 3) := by decide +kernel
theorem d_Mo_isThere_73 : decode b_Mo_isThere 73 = .ok (.iload_n 3, 1) := by decide +kernel
theorem d_Mo_isThere_74 : decode b_Mo_isThere 74 = .ok (.ifCond .eq 5, 3) := by decide +kernel
theorem d_Mo_isThere_77 : decode b_Mo_isThere 77 = .ok (.iconst 1, 1) := by decide +kernel
theorem d_Mo_isThere_78 : decode b_Mo_isThere 78 = .ok (.ireturn, 1) := by decide +kernel
theorem d_Mo_isThere_79 : decode b_Mo_isThere 79 = .ok (.iinc 2 1, 3) := by decide +kernel
theorem d_Mo_isThere_82 : decode b_Mo_isThere 82 = .ok (.goto (-80), 3) := by decide +kernel
theorem d_Mo_isThere_85 : decode b_Mo_isThere 85 = .ok (.iconst 0, 1) := by decide +kernel
theorem d_Mo_isThere_86 : decode b_Mo_isThere 86 = .ok (.ireturn, 1) := by decide +kernel
theorem d_Mo_isLess_0 : decode b_Mo_isLess 0 = .ok (.iconst 0, 1) := by decide +kernel
theorem d_Mo_isLess_1 : decode b_Mo_isLess 1 = .ok (.istore_n 3, 1) := by decide +kernel
theorem d_Mo_isLess_2 : decode b_Mo_isLess 2 = .ok (.iload_n 1, 1) := by decide +kernel
theorem d_Mo_isLess_3 : decode b_Mo_isLess 3 = .ok (.iload_n 3, 1) := by decide +kernel
theorem d_Mo_isLess_4 : decode b_Mo_isLess 4 = .ok (.iadd, 1) := by decide +kernel
theorem d_Mo_isLess_5 : decode b_Mo_isLess 5 = .ok (.aload_n 0, 1) := by decide +kernel
theorem d_Mo_isLess_6 : decode b_Mo_isLess 6 = .ok (.getfield 128, 3) := by decide +kernel
theorem d_Mo_isLess_9 : decode b_Mo_isLess 9 = .ok (.if_icmp .ge 63, 3) := by decide +kernel
theorem d_Mo_isLess_12 : decode b_Mo_isLess 12 = .ok (.iload_n 2, 1) := by decide +kernel
theorem d_Mo_isLess_13 : decode b_Mo_isLess 13 = .ok (.iload_n 3, 1) := by decide +kernel
theorem d_Mo_isLess_14 : decode b_Mo_isLess 14 = .ok (.iadd, 1) := by decide +kernel
theorem d_Mo_isLess_15 : decode b_Mo_isLess 15 = .ok (.aload_n 0, 1) := by decide +kernel
theorem d_Mo_isLess_16 : decode b_Mo_isLess 16 = .ok (.getfield 128, 3) := by decide +kernel
theorem d_Mo_isLess_19 : decode b_Mo_isLess 19 = .ok (.if_icmp .ge 53, 3) := by decide +kernel
theorem d_Mo_isLess_22 : decode b_Mo_isLess 22 = .ok (.aload_n 0, 1) := by decide +kernel
theorem d_Mo_isLess_23 : decode b_Mo_isLess 23 = .ok (.getfield 26, 3) := by decide +kernel
theorem d_Mo_isLess_26 : decode b_Mo_isLess 26 = .ok (.iload_n 1, 1) := by decide +kernel
theorem d_Mo_isLess_27 : decode b_Mo_isLess 27 = .ok (.iload_n 3, 1) := by decide +kernel
theorem d_Mo_isLess_28 : decode b_Mo_isLess 28 = .ok (.iadd, 1) := by decide +kernel
theorem d_Mo_isLess_29 : decode b_Mo_isLess 29 = .ok (.iaload, 1) := by decide +kernel
theorem d_Mo_isLess_30 : decode b_Mo_isLess 30 = .ok (.aload_n 0, 1) := by decide +kernel
theorem d_Mo_isLess_31 : decode b_Mo_isLess 31 = .ok (.getfield 26, 3) := by decide +kernel
theorem d_Mo_isLess_34 : decode b_Mo_isLess 34 = .ok (.iload_n 2, 1) := by decide +kernel
theorem d_Mo_isLess_35 : decode b_Mo_isLess 35 = .ok (.iload_n 3, 1) := by decide +kernel
theorem d_Mo_isLess_36 : decode b_Mo_isLess 36 = .ok (.iadd, 1) := by decide +kernel
theorem d_Mo_isLess_37 : decode b_Mo_isLess 37 = .ok (.iaload, 1) := by decide +kernel
theorem d_Mo_isLess_38 : decode b_Mo_isLess 38 = .ok (.if_icmp .eq 28, 3) := by decide +kernel
theorem d_Mo_isLess_41 : decode b_Mo_isLess 41 = .ok (.aload_n 0, 1) := by decide +kernel
theorem d_Mo_isLess_42 : decode b_Mo_isLess 42 = .ok (.getfield 26, 3) := by decide +kernel
theorem d_Mo_isLess_45 : decode b_Mo_isLess 45 = .ok (.iload_n 1, 1) := by decide +kernel
theorem d_Mo_isLess_46 : decode b_Mo_isLess 46 = .ok (.iload_n 3, 1) := by decide +kernel
theorem d_Mo_isLess_47 : decode b_Mo_isLess 47 = .ok (.iadd, 1) := by decide +kernel
theorem d_Mo_isLess_48 : decode b_Mo_isLess 48 = .ok (.iaload, 1) := by decide +kernel
theorem d_Mo_isLess_49 : decode b_Mo_isLess 49 = .ok (.aload_n 0, 1) := by decide +kernel
theorem d_Mo_isLess_50 : decode b_Mo_isLess 50 = .ok (.getfield 26, 3) := by decide +kernel
theorem d_Mo_isLess_53 : decode b_Mo_isLess 53 = .ok (.iload_n 2, 1) := by decide +kernel
theorem d_Mo_isLess_54 : decode b_Mo_isLess 54 = .ok (.iload_n 3, 1) := by decide +kernel
theorem d_Mo_isLess_55 : decode b_Mo_isLess 55 = .ok (.iadd, 1) := by decide +kernel
theorem d_Mo_isLess_56 : decode b_Mo_isLess 56 = .ok (.iaload, 1) := by decide +kernel
theorem d_Mo_isLess_57 : decode b_Mo_isLess 57 = .ok (.if_icmp .ge 7, 3) := by decide +kernel
theorem d_Mo_isLess_60 : decode b_Mo_isLess 60 = .ok (.iconst 1, 1) := by decide +kernel
theorem d_Mo_isLess_61 : decode b_Mo_isLess 61 = .ok (.goto 4, 3) := by decide +kernel
theorem d_Mo_isLess_64 : decode b_Mo_isLess 64 = .ok (.iconst 0, 1) := by decide +kernel
theorem d_Mo_isLess_65 : decode b_Mo_isLess 65 = .ok (.ireturn, 1) := by decide +kernel
theorem d_Mo_isLess_66 : decode b_Mo_isLess 66 = .ok (.iinc 3 1, 3) := by decide +kernel
theorem d_Mo_isLess_69 : decode b_Mo_isLess 69 = .ok (.goto (-67), 3) := by decide +kernel
theorem d_Mo_isLess_72 : decode b_Mo_isLess 72 = .ok (.iload_n 1, 1) := by decide +kernel
theorem d_Mo_isLess_73 : decode b_Mo_isLess 73 = .ok (.iload_n 3, 1) := by decide +kernel
theorem d_Mo_isLess_74 : decode b_Mo_isLess 74 = .ok (.iadd, 1) := by decide +kernel
theorem d_Mo_isLess_75 : decode b_Mo_isLess 75 = .ok (.aload_n 0, 1) := by decide +kernel
theorem d_Mo_isLess_76 : decode b_Mo_isLess 76 = .ok (.getfield 128, 3) := by decide +kernel
theorem d_Mo_isLess_79 : decode b_Mo_isLess 79 = .ok (.if_icmp .ne 7, 3) := by decide +kernel
theorem d_Mo_isLess_82 : decode b_Mo_isLess 82 = .ok (.iconst 1, 1) := by decide +kernel
theorem d_Mo_isLess_83 : decode b_Mo_isLess 83 = .ok (.goto 4, 3) := by decide +kernel
theorem d_Mo_isLess_86 : decode b_Mo_isLess 86 = .ok (.iconst 0, 1) := by decide +kernel
theorem d_Mo_isLess_87 : decode b_Mo_isLess 87 = .ok (.ireturn, 1) := by decide +kernel
theorem d_Mo_layOut_0 : decode b_Mo_layOut 0 = .ok (.aload_n 0, 1) := by decide +kernel
theorem d_Mo_layOut_1 : decode b_Mo_layOut 1 = .ok (.iconst 0, 1) := by decide +kernel
theorem d_Mo_layOut_2 : decode b_Mo_layOut 2 = .ok (.putfield 128, 3) := by decide +kernel
theorem d_Mo_layOut_5 : decode b_Mo_layOut 5 = .ok (.iconst 0, 1) := by decide +kernel
theorem d_Mo_layOut_6 : decode b_Mo_layOut 6 = .ok (.istore_n 1, 1) := by decide +kernel
theorem d_Mo_layOut_7 : decode b_Mo_layOut 7 = .ok (.iconst 0, 1) := by decide +kernel
theorem d_Mo_layOut_8 : decode b_Mo_layOut 8 = .ok (.istore_n 2, 1) := by decide +kernel
theorem d_Mo_layOut_9 : decode b_Mo_layOut 9 = .ok (.iload_n 2, 1) := by decide +kernel
theorem d_Mo_layOut_10 : decode b_Mo_layOut 10 = .ok (.aload_n 0, 1) := by decide +kernel
theorem d_Mo_layOut_11 : decode b_Mo_layOut 11 = .ok (.getfield 97, 3) := by decide +kernel
theorem d_Mo_layOut_14 : decode b_Mo_layOut 14 = .ok (.if_icmp .ge 89, 3) := by decide +kernel
theorem d_Mo_layOut_17 : decode b_Mo_layOut 17 = .ok (.iconst 0, 1) := by decide +kernel
theorem d_Mo_layOut_18 : decode b_Mo_layOut 18 = .ok (.istore_n 3, 1) := by decide +kernel
theorem d_Mo_layOut_19 : decode b_Mo_layOut 19 = .ok (.iload_n 3, 1) := by decide +kernel
theorem d_Mo_layOut_20 : decode b_Mo_layOut 20 = .ok (.aload_n 0, 1) := by decide +kernel
theorem d_Mo_layOut_21 : decode b_Mo_layOut 21 = .ok (.getfield 20, 3) := by decide +kernel
theorem d_Mo_layOut_24 : decode b_Mo_layOut 24 = .ok (.iload_n 2, 1) := by decide +kernel
theorem d_Mo_layOut_25 : decode b_Mo_layOut 25 = .ok (.iaload, 1) := by decide +kernel
theorem d_Mo_layOut_26 : decode b_Mo_layOut 26 = .ok (.if_icmp .ge 37, 3) := by decide +kernel
theorem d_Mo_layOut_29 : decode b_Mo_layOut 29 = .ok (.aload_n 0, 1) := by decide +kernel
theorem d_Mo_layOut_30 : decode b_Mo_layOut 30 = .ok (.getfield 26, 3) := by decide +kernel
theorem d_Mo_layOut_33 : decode b_Mo_layOut 33 = .ok (.aload_n 0, 1) := by decide +kernel
theorem d_Mo_layOut_34 : decode b_Mo_layOut 34 = .ok (.getfield 128, 3) := by decide +kernel
theorem d_Mo_layOut_37 : decode b_Mo_layOut 37 = .ok (.aload_n 0, 1) := by decide +kernel
theorem d_Mo_layOut_38 : decode b_Mo_layOut 38 = .ok (.getfield 23, 3) := by decide +kernel
theorem d_Mo_layOut_41 : decode b_Mo_layOut 41 = .ok (.iload_n 1, 1) := by decide +kernel
theorem d_Mo_layOut_42 : decode b_Mo_layOut 42 = .ok (.iaload, 1) := by decide +kernel
theorem d_Mo_layOut_43 : decode b_Mo_layOut 43 = .ok (.iastore, 1) := by decide +kernel
theorem d_Mo_layOut_44 : decode b_Mo_layOut 44 = .ok (.aload_n 0, 1) := by decide +kernel
theorem d_Mo_layOut_45 : decode b_Mo_layOut 45 = .ok (.dup, 1) := by decide +kernel
theorem d_Mo_layOut_46 : decode b_Mo_layOut 46 = .ok (.getfield 128, 3) := by decide +kernel
theorem d_Mo_layOut_49 : decode b_Mo_layOut 49 = .ok (.iconst 1, 1) := by decide +kernel
theorem d_Mo_layOut_50 : decode b_Mo_layOut 50 = .ok (.iadd, 1) := by decide +kernel
theorem d_Mo_layOut_51 : decode b_Mo_layOut 51 = .ok (.putfield 128, 3) := by decide +kernel
theorem d_Mo_layOut_54 : decode b_Mo_layOut 54 = .ok (.iinc 1 1, 3) := by decide +kernel
theorem d_Mo_layOut_57 : decode b_Mo_layOut 57 = .ok (.iinc 3 1, 3) := by decide +kernel
theorem d_Mo_layOut_60 : decode b_Mo_layOut 60 = .ok (.goto (-41), 3) := by decide +kernel
theorem d_Mo_layOut_63 : decode b_Mo_layOut 63 = .ok (.aload_n 0, 1) := by decide +kernel
theorem d_Mo_layOut_64 : decode b_Mo_layOut 64 = .ok (.getfield 26, 3) := by decide +kernel
theorem d_Mo_layOut_67 : decode b_Mo_layOut 67 = .ok (.aload_n 0, 1) := by decide +kernel
theorem d_Mo_layOut_68 : decode b_Mo_layOut 68 = .ok (.getfield 128, 3) := by decide +kernel
theorem d_Mo_layOut_71 : decode b_Mo_layOut 71 = .ok (.iload_n 2, 1) := by decide +kernel
theorem d_Mo_layOut_72 : decode b_Mo_layOut 72 = .ok (.aload_n 0, 1) := by decide +kernel
theorem d_Mo_layOut_73 : decode b_Mo_layOut 73 = .ok (.getfield 97, 3) := by decide +kernel
theorem d_Mo_layOut_76 : decode b_Mo_layOut 76 = .ok (.iconst 1, 1) := by decide +kernel
theorem d_Mo_layOut_77 : decode b_Mo_layOut 77 = .ok (.isub, 1) := by decide +kernel
theorem d_Mo_layOut_78 : decode b_Mo_layOut 78 = .ok (.if_icmp .ge 7, 3) := by decide +kernel
theorem d_Mo_layOut_81 : decode b_Mo_layOut 81 = .ok (.iconst 1, 1) := by decide +kernel
theorem d_Mo_layOut_82 : decode b_Mo_layOut 82 = .ok (.goto 4, 3) := by decide +kernel
theorem d_Mo_layOut_85 : decode b_Mo_layOut 85 = .ok (.iconst 0, 1) := by decide +kernel
theorem d_Mo_layOut_86 : decode b_Mo_layOut 86 = .ok (.iastore, 1) := by decide +kernel
theorem d_Mo_layOut_87 : decode b_Mo_layOut 87 = .ok (.aload_n 0, 1) := by decide +kernel
theorem d_Mo_layOut_88 : decode b_Mo_layOut 88 = .ok (.dup, 1) := by decide +kernel
theorem d_Mo_layOut_89 : decode b_Mo_layOut 89 = .ok (.getfield 128, 3) := by decide +kernel
theorem d_Mo_layOut_92 : decode b_Mo_layOut 92 = .ok (.iconst 1, 1) := by decide +kernel
theorem d_Mo_layOut_93 : decode b_Mo_layOut 93 = .ok (.iadd, 1) := by decide +kernel
theorem d_Mo_layOut_94 : decode b_Mo_layOut 94 = .ok (.putfield 128, 3) := by decide +kernel
theorem d_Mo_layOut_97 : decode b_Mo_layOut 97 = .ok (.iinc 2 1, 3) := by decide +kernel
theorem d_Mo_layOut_100 : decode b_Mo_layOut 100 = .ok (.goto (-91), 3) := by decide +kernel
theorem d_Mo_layOut_103 : decode b_Mo_layOut 103 = .ok (.iconst 0, 1) := by decide +kernel
theorem d_Mo_layOut_104 : decode b_Mo_layOut 104 = .ok (.istore_n 2, 1) := by decide +kernel
theorem d_Mo_layOut_105 : decode b_Mo_layOut 105 = .ok (.iload_n 2, 1) := by decide +kernel
theorem d_Mo_layOut_106 : decode b_Mo_layOut 106 = .ok (.aload_n 0, 1) := by decide +kernel
theorem d_Mo_layOut_107 : decode b_Mo_layOut 107 = .ok (.getfield 128, 3) := by decide +kernel
theorem d_Mo_layOut_110 : decode b_Mo_layOut 110 = .ok (.if_icmp .ge 60, 3) := by decide +kernel
theorem d_Mo_layOut_113 : decode b_Mo_layOut 113 = .ok (.iconst 0, 1) := by decide +kernel
theorem d_Mo_layOut_114 : decode b_Mo_layOut 114 = .ok (.istore_n 3, 1) := by decide +kernel
theorem d_Mo_layOut_115 : decode b_Mo_layOut 115 = .ok (.iconst 0, 1) := by decide +kernel
theorem d_Mo_layOut_116 : decode b_Mo_layOut 116 = .ok (.istore 4, 2) := by decide +kernel
theorem d_Mo_layOut_118 : decode b_Mo_layOut 118 = .ok (.iload 4, 2) := by decide +kernel
theorem d_Mo_layOut_120 : decode b_Mo_layOut 120 = .ok (.aload_n 0, 1) := by decide +kernel
theorem d_Mo_layOut_121 : decode b_Mo_layOut 121 = .ok (.getfield 128, 3) := by decide +kernel
theorem d_Mo_layOut_124 : decode b_Mo_layOut 124 = .ok (.if_icmp .ge 33, 3) := by decide +kernel
theorem d_Mo_layOut_127 : decode b_Mo_layOut 127 = .ok (.iload_n 2, 1) := by decide +kernel
theorem d_Mo_layOut_128 : decode b_Mo_layOut 128 = .ok (.iload 4, 2) := by decide +kernel
theorem d_Mo_layOut_130 : decode b_Mo_layOut 130 = .ok (.if_icmp .eq 19, 3) := by decide +kernel
theorem d_Mo_layOut_133 : decode b_Mo_layOut 133 = .ok (.aload_n 0, 1) := by decide +kernel
theorem d_Mo_layOut_134 : decode b_Mo_layOut 134 = .ok (.iload 4, 2) := by decide +kernel
theorem d_Mo_layOut_136 : decode b_Mo_layOut 136 = .ok (.iload_n 2, 1) := by decide +kernel
theorem d_Mo_layOut_137 : decode b_Mo_layOut 137 = .ok (.invokevirtual 131, 3) := by decide +kernel
theorem d_Mo_layOut_140 : decode b_Mo_layOut 140 = .ok (.ifCond .eq 9, 3) := by decide +kernel
theorem d_Mo_layOut_143 : decode b_Mo_layOut 143 = .ok (.iload_n 3, 1) := by decide +kernel
theorem d_Mo_layOut_144 : decode b_Mo_layOut 144 = .ok (.iconst 1, 1) := by decide +kernel
theorem d_Mo_layOut_145 : decode b_Mo_layOut 145 = .ok (.iadd, 1) := by decide +kernel
theorem d_Mo_layOut_146 : decode b_Mo_layOut 146 = .ok (.goto 4, 3) := by decide +kernel
theorem d_Mo_layOut_149 : decode b_Mo_layOut 149 = .ok (.iload_n 3, 1) := by decide +kernel
theorem d_Mo_layOut_150 : decode b_Mo_layOut 150 = .ok (.istore_n 3, 1) := by decide +kernel
theorem d_Mo_layOut_151 : decode b_Mo_layOut 151 = .ok (.iinc 4 1, 3) := by decide +kernel
theorem d_Mo_layOut_154 : decode b_Mo_layOut 154 = .ok (.goto (-36), 3) := by decide +kernel
theorem d_Mo_layOut_157 : decode b_Mo_layOut 157 = .ok (.aload_n 0, 1) := by decide +kernel
theorem d_Mo_layOut_158 : decode b_Mo_layOut 158 = .ok (.getfield 29, 3) := by decide +kernel
theorem d_Mo_layOut_161 : decode b_Mo_layOut 161 = .ok (.iload_n 3, 1) := by decide +kernel
theorem d_Mo_layOut_162 : decode b_Mo_layOut 162 = .ok (.iload_n 2, 1) := by decide +kernel
theorem d_Mo_layOut_163 : decode b_Mo_layOut 163 = .ok (.iastore, 1) := by decide +kernel
theorem d_Mo_layOut_164 : decode b_Mo_layOut 164 = .ok (.iinc 2 1, 3) := by decide +kernel
theorem d_Mo_layOut_167 : decode b_Mo_layOut 167 = .ok (.goto (-62), 3) := by decide +kernel
theorem d_Mo_layOut_170 : decode b_Mo_layOut 170 = .ok (.return_, 1) := by decide +kernel
theorem d_Mo_build_0 : decode b_Mo_build 0 = .ok (.aload_n 0, 1) := by decide +kernel
theorem d_Mo_build_1 : decode b_Mo_build 1 = .ok (.aload_n 0, 1) := by decide +kernel
theorem d_Mo_build_2 : decode b_Mo_build 2 = .ok (.getfield 112, 3) := by decide +kernel
theorem d_Mo_build_5 : decode b_Mo_build 5 = .ok (.ifCond .ne 10, 3) := by decide +kernel
theorem d_Mo_build_8 : decode b_Mo_build 8 = .ok (.aload_n 0, 1) := by decide +kernel
theorem d_Mo_build_9 : decode b_Mo_build 9 = .ok (.getfield 97, 3) := by decide +kernel
theorem d_Mo_build_12 : decode b_Mo_build 12 = .ok (.ifCond .ne 7, 3) := by decide +kernel
theorem d_Mo_build_15 : decode b_Mo_build 15 = .ok (.iconst 1, 1) := by decide +kernel
theorem d_Mo_build_16 : decode b_Mo_build 16 = .ok (.goto 4, 3) := by decide +kernel
theorem d_Mo_build_19 : decode b_Mo_build 19 = .ok (.iconst 0, 1) := by decide +kernel
theorem d_Mo_build_20 : decode b_Mo_build 20 = .ok (.putfield 80, 3) := by decide +kernel
theorem d_Mo_build_23 : decode b_Mo_build 23 = .ok (.aload_n 0, 1) := by decide +kernel
theorem d_Mo_build_24 : decode b_Mo_build 24 = .ok (.getfield 80, 3) := by decide +kernel
theorem d_Mo_build_27 : decode b_Mo_build 27 = .ok (.ifCond .le 5, 3) := by decide +kernel
theorem d_Mo_build_30 : decode b_Mo_build 30 = .ok (.iconst 0, 1) := by decide +kernel
theorem d_Mo_build_31 : decode b_Mo_build 31 = .ok (.ireturn, 1) := by decide +kernel
theorem d_Mo_build_32 : decode b_Mo_build 32 = .ok (.aload_n 0, 1) := by decide +kernel
theorem d_Mo_build_33 : decode b_Mo_build 33 = .ok (.iconst 1, 1) := by decide +kernel
theorem d_Mo_build_34 : decode b_Mo_build 34 = .ok (.iload_n 1, 1) := by decide +kernel
theorem d_Mo_build_35 : decode b_Mo_build 35 = .ok (.bipush 7, 2) := by decide +kernel
theorem d_Mo_build_37 : decode b_Mo_build 37 = .ok (.iand, 1) := by decide +kernel
theorem d_Mo_build_38 : decode b_Mo_build 38 = .ok (.iadd, 1) := by decide +kernel
theorem d_Mo_build_39 : decode b_Mo_build 39 = .ok (.putfield 135, 3) := by decide +kernel
theorem d_Mo_build_42 : decode b_Mo_build 42 = .ok (.aload_n 0, 1) := by decide +kernel
theorem d_Mo_build_43 : decode b_Mo_build 43 = .ok (.invokevirtual 138, 3) := by decide +kernel
theorem d_Mo_build_46 : decode b_Mo_build 46 = .ok (.aload_n 0, 1) := by decide +kernel
theorem d_Mo_build_47 : decode b_Mo_build 47 = .ok (.iconst 1, 1) := by decide +kernel
theorem d_Mo_build_48 : decode b_Mo_build 48 = .ok (.putfield 112, 3) := by decide +kernel
theorem d_Mo_build_51 : decode b_Mo_build 51 = .ok (.aload_n 0, 1) := by decide +kernel
theorem d_Mo_build_52 : decode b_Mo_build 52 = .ok (.invokevirtual 141, 3) := by decide +kernel
theorem d_Mo_build_55 : decode b_Mo_build 55 = .ok (.aload_n 0, 1) := by decide +kernel
theorem d_Mo_build_56 : decode b_Mo_build 56 = .ok (.getfield 128, 3) := by decide +kernel
theorem d_Mo_build_59 : decode b_Mo_build 59 = .ok (.ireturn, 1) := by decide +kernel
theorem d_Mo_suffix_0 : decode b_Mo_suffix 0 = .ok (.aload_n 0, 1) := by decide +kernel
theorem d_Mo_suffix_1 : decode b_Mo_suffix 1 = .ok (.aload_n 0, 1) := by decide +kernel
theorem d_Mo_suffix_2 : decode b_Mo_suffix 2 = .ok (.getfield 112, 3) := by decide +kernel
theorem d_Mo_suffix_5 : decode b_Mo_suffix 5 = .ok (.ifCond .ne 7, 3) := by decide +kernel
theorem d_Mo_suffix_8 : decode b_Mo_suffix 8 = .ok (.iconst 1, 1) := by decide +kernel
theorem d_Mo_suffix_9 : decode b_Mo_suffix 9 = .ok (.goto 16, 3) := by decide +kernel
theorem d_Mo_suffix_12 : decode b_Mo_suffix 12 = .ok (.aload_n 0, 1) := by decide +kernel
theorem d_Mo_suffix_13 : decode b_Mo_suffix 13 = .ok (.iload_n 1, 1) := by decide +kernel
theorem d_Mo_suffix_14 : decode b_Mo_suffix 14 = .ok (.invokevirtual 144, 3) := by decide +kernel
theorem d_Mo_suffix_17 : decode b_Mo_suffix 17 = .ok (.ifCond .ne 7, 3) := by decide +kernel
theorem d_Mo_suffix_20 : decode b_Mo_suffix 20 = .ok (.iconst 2, 1) := by decide +kernel
theorem d_Mo_suffix_21 : decode b_Mo_suffix 21 = .ok (.goto 4, 3) := by decide +kernel
theorem d_Mo_suffix_24 : decode b_Mo_suffix 24 = .ok (.iconst 0, 1) := by decide +kernel
theorem d_Mo_suffix_25 : decode b_Mo_suffix 25 = .ok (.putfield 80, 3) := by decide +kernel
theorem d_Mo_suffix_28 : decode b_Mo_suffix 28 = .ok (.aload_n 0, 1) := by decide +kernel
theorem d_Mo_suffix_29 : decode b_Mo_suffix 29 = .ok (.getfield 80, 3) := by decide +kernel
theorem d_Mo_suffix_32 : decode b_Mo_suffix 32 = .ok (.ifCond .le 7, 3) := by decide +kernel
theorem d_Mo_suffix_35 : decode b_Mo_suffix 35 = .ok (.iconst 0, 1) := by decide +kernel
theorem d_Mo_suffix_36 : decode b_Mo_suffix 36 = .ok (.goto 9, 3) := by decide +kernel
theorem d_Mo_suffix_39 : decode b_Mo_suffix 39 = .ok (.aload_n 0, 1) := by decide +kernel
theorem d_Mo_suffix_40 : decode b_Mo_suffix 40 = .ok (.getfield 29, 3) := by decide +kernel
theorem d_Mo_suffix_43 : decode b_Mo_suffix 43 = .ok (.iload_n 1, 1) := by decide +kernel
theorem d_Mo_suffix_44 : decode b_Mo_suffix 44 = .ok (.iaload, 1) := by decide +kernel
theorem d_Mo_suffix_45 : decode b_Mo_suffix 45 = .ok (.ireturn, 1) := by decide +kernel
theorem d_Mo_steps_0 : decode b_Mo_steps 0 = .ok (.aload_n 0, 1) := by decide +kernel
theorem d_Mo_steps_1 : decode b_Mo_steps 1 = .ok (.iconst 0, 1) := by decide +kernel
theorem d_Mo_steps_2 : decode b_Mo_steps 2 = .ok (.putfield 80, 3) := by decide +kernel
theorem d_Mo_steps_5 : decode b_Mo_steps 5 = .ok (.aload_n 0, 1) := by decide +kernel
theorem d_Mo_steps_6 : decode b_Mo_steps 6 = .ok (.iload_n 1, 1) := by decide +kernel
theorem d_Mo_steps_7 : decode b_Mo_steps 7 = .ok (.invokevirtual 144, 3) := by decide +kernel
theorem d_Mo_steps_10 : decode b_Mo_steps 10 = .ok (.ifCond .eq 17, 3) := by decide +kernel
theorem d_Mo_steps_13 : decode b_Mo_steps 13 = .ok (.aload_n 0, 1) := by decide +kernel
theorem d_Mo_steps_14 : decode b_Mo_steps 14 = .ok (.getfield 29, 3) := by decide +kernel
theorem d_Mo_steps_17 : decode b_Mo_steps 17 = .ok (.iload_n 1, 1) := by decide +kernel
theorem d_Mo_steps_18 : decode b_Mo_steps 18 = .ok (.iaload, 1) := by decide +kernel
theorem d_Mo_steps_19 : decode b_Mo_steps 19 = .ok (.aload_n 0, 1) := by decide +kernel
theorem d_Mo_steps_20 : decode b_Mo_steps 20 = .ok (.getfield 135, 3) := by decide +kernel
theorem d_Mo_steps_23 : decode b_Mo_steps 23 = .ok (.irem, 1) := by decide +kernel
theorem d_Mo_steps_24 : decode b_Mo_steps 24 = .ok (.goto 4, 3) := by decide +kernel
theorem d_Mo_steps_27 : decode b_Mo_steps 27 = .ok (.iconst (-1), 1) := by decide +kernel
theorem d_Mo_steps_28 : decode b_Mo_steps 28 = .ok (.ireturn, 1) := by decide +kernel
theorem d_Mo_before_0 : decode b_Mo_before 0 = .ok (.aload_n 0, 1) := by decide +kernel
theorem d_Mo_before_1 : decode b_Mo_before 1 = .ok (.getfield 29, 3) := by decide +kernel
theorem d_Mo_before_4 : decode b_Mo_before 4 = .ok (.iload_n 1, 1) := by decide +kernel
theorem d_Mo_before_5 : decode b_Mo_before 5 = .ok (.iaload, 1) := by decide +kernel
theorem d_Mo_before_6 : decode b_Mo_before 6 = .ok (.ifCond .ne 7, 3) := by decide +kernel
theorem d_Mo_before_9 : decode b_Mo_before 9 = .ok (.iconst 0, 1) := by decide +kernel
theorem d_Mo_before_10 : decode b_Mo_before 10 = .ok (.goto 16, 3) := by decide +kernel
theorem d_Mo_before_13 : decode b_Mo_before 13 = .ok (.aload_n 0, 1) := by decide +kernel
theorem d_Mo_before_14 : decode b_Mo_before 14 = .ok (.getfield 26, 3) := by decide +kernel
theorem d_Mo_before_17 : decode b_Mo_before 17 = .ok (.aload_n 0, 1) := by decide +kernel
theorem d_Mo_before_18 : decode b_Mo_before 18 = .ok (.getfield 29, 3) := by decide +kernel
theorem d_Mo_before_21 : decode b_Mo_before 21 = .ok (.iload_n 1, 1) := by decide +kernel
theorem d_Mo_before_22 : decode b_Mo_before 22 = .ok (.iaload, 1) := by decide +kernel
theorem d_Mo_before_23 : decode b_Mo_before 23 = .ok (.iconst 1, 1) := by decide +kernel
theorem d_Mo_before_24 : decode b_Mo_before 24 = .ok (.isub, 1) := by decide +kernel
theorem d_Mo_before_25 : decode b_Mo_before 25 = .ok (.iaload, 1) := by decide +kernel
theorem d_Mo_before_26 : decode b_Mo_before 26 = .ok (.ireturn, 1) := by decide +kernel
theorem d_Mo_turned_0 : decode b_Mo_turned 0 = .ok (.aload_n 0, 1) := by decide +kernel
theorem d_Mo_turned_1 : decode b_Mo_turned 1 = .ok (.iconst 0, 1) := by decide +kernel
theorem d_Mo_turned_2 : decode b_Mo_turned 2 = .ok (.putfield 80, 3) := by decide +kernel
theorem d_Mo_turned_5 : decode b_Mo_turned 5 = .ok (.aload_n 0, 1) := by decide +kernel
theorem d_Mo_turned_6 : decode b_Mo_turned 6 = .ok (.iload_n 1, 1) := by decide +kernel
theorem d_Mo_turned_7 : decode b_Mo_turned 7 = .ok (.invokevirtual 144, 3) := by decide +kernel
theorem d_Mo_turned_10 : decode b_Mo_turned 10 = .ok (.ifCond .eq 11, 3) := by decide +kernel
theorem d_Mo_turned_13 : decode b_Mo_turned 13 = .ok (.aload_n 0, 1) := by decide +kernel
theorem d_Mo_turned_14 : decode b_Mo_turned 14 = .ok (.iload_n 1, 1) := by decide +kernel
theorem d_Mo_turned_15 : decode b_Mo_turned 15 = .ok (.invokevirtual 147, 3) := by decide +kernel
theorem d_Mo_turned_18 : decode b_Mo_turned 18 = .ok (.goto 4, 3) := by decide +kernel
theorem d_Mo_turned_21 : decode b_Mo_turned 21 = .ok (.iconst (-1), 1) := by decide +kernel
theorem d_Mo_turned_22 : decode b_Mo_turned 22 = .ok (.ireturn, 1) := by decide +kernel
theorem d_Mo_occ_0 : decode b_Mo_occ 0 = .ok (.aload_n 0, 1) := by decide +kernel
theorem d_Mo_occ_1 : decode b_Mo_occ 1 = .ok (.iconst 0, 1) := by decide +kernel
theorem d_Mo_occ_2 : decode b_Mo_occ 2 = .ok (.putfield 80, 3) := by decide +kernel
theorem d_Mo_occ_5 : decode b_Mo_occ 5 = .ok (.aload_n 0, 1) := by decide +kernel
theorem d_Mo_occ_6 : decode b_Mo_occ 6 = .ok (.getfield 112, 3) := by decide +kernel
theorem d_Mo_occ_9 : decode b_Mo_occ 9 = .ok (.ifCond .eq 25, 3) := by decide +kernel
theorem d_Mo_occ_12 : decode b_Mo_occ 12 = .ok (.iload_n 1, 1) := by decide +kernel
theorem d_Mo_occ_13 : decode b_Mo_occ 13 = .ok (.ifCond .lt 21, 3) := by decide +kernel
theorem d_Mo_occ_16 : decode b_Mo_occ 16 = .ok (.iload_n 1, 1) := by decide +kernel
theorem d_Mo_occ_17 : decode b_Mo_occ 17 = .ok (.bipush 6, 2) := by decide +kernel
theorem d_Mo_occ_19 : decode b_Mo_occ 19 = .ok (.if_icmp .gt 15, 3) := by decide +kernel
theorem d_Mo_occ_22 : decode b_Mo_occ 22 = .ok (.iload_n 2, 1) := by decide +kernel
theorem d_Mo_occ_23 : decode b_Mo_occ 23 = .ok (.ifCond .lt 11, 3) := by decide +kernel
theorem d_Mo_occ_26 : decode b_Mo_occ 26 = .ok (.iload_n 2, 1) := by decide +kernel
theorem d_Mo_occ_27 : decode b_Mo_occ 27 = .ok (.aload_n 0, 1) := by decide +kernel
theorem d_Mo_occ_28 : decode b_Mo_occ 28 = .ok (.getfield 128, 3) := by decide +kernel
theorem d_Mo_occ_31 : decode b_Mo_occ 31 = .ok (.if_icmp .le 5, 3) := by decide +kernel
theorem d_Mo_occ_34 : decode b_Mo_occ 34 = .ok (.iconst (-1), 1) := by decide +kernel
theorem d_Mo_occ_35 : decode b_Mo_occ 35 = .ok (.ireturn, 1) := by decide +kernel
theorem d_Mo_occ_36 : decode b_Mo_occ 36 = .ok (.iconst 0, 1) := by decide +kernel
theorem d_Mo_occ_37 : decode b_Mo_occ 37 = .ok (.istore_n 3, 1) := by decide +kernel
theorem d_Mo_occ_38 : decode b_Mo_occ 38 = .ok (.iconst 0, 1) := by decide +kernel
theorem d_Mo_occ_39 : decode b_Mo_occ 39 = .ok (.istore 4, 2) := by decide +kernel
theorem d_Mo_occ_41 : decode b_Mo_occ 41 = .ok (.iload 4, 2) := by decide +kernel
theorem d_Mo_occ_43 : decode b_Mo_occ 43 = .ok (.iload_n 2, 1) := by decide +kernel
theorem d_Mo_occ_44 : decode b_Mo_occ 44 = .ok (.if_icmp .ge 27, 3) := by decide +kernel
theorem d_Mo_occ_47 : decode b_Mo_occ 47 = .ok (.aload_n 0, 1) := by decide +kernel
theorem d_Mo_occ_48 : decode b_Mo_occ 48 = .ok (.iload 4, 2) := by decide +kernel
theorem d_Mo_occ_50 : decode b_Mo_occ 50 = .ok (.invokevirtual 147, 3) := by decide +kernel
theorem d_Mo_occ_53 : decode b_Mo_occ 53 = .ok (.iload_n 1, 1) := by decide +kernel
theorem d_Mo_occ_54 : decode b_Mo_occ 54 = .ok (.if_icmp .ne 9, 3) := by decide +kernel
theorem d_Mo_occ_57 : decode b_Mo_occ 57 = .ok (.iload_n 3, 1) := by decide +kernel
theorem d_Mo_occ_58 : decode b_Mo_occ 58 = .ok (.iconst 1, 1) := by decide +kernel
theorem d_Mo_occ_59 : decode b_Mo_occ 59 = .ok (.iadd, 1) := by decide +kernel
theorem d_Mo_occ_60 : decode b_Mo_occ 60 = .ok (.goto 4, 3) := by decide +kernel
theorem d_Mo_occ_63 : decode b_Mo_occ 63 = .ok (.iload_n 3, 1) := by decide +kernel
theorem d_Mo_occ_64 : decode b_Mo_occ 64 = .ok (.istore_n 3, 1) := by decide +kernel
theorem d_Mo_occ_65 : decode b_Mo_occ 65 = .ok (.iinc 4 1, 3) := by decide +kernel
theorem d_Mo_occ_68 : decode b_Mo_occ 68 = .ok (.goto (-27), 3) := by decide +kernel
theorem d_Mo_occ_71 : decode b_Mo_occ 71 = .ok (.iload_n 3, 1) := by decide +kernel
theorem d_Mo_occ_72 : decode b_Mo_occ 72 = .ok (.ireturn, 1) := by decide +kernel
set_option maxHeartbeats 4000000 in
set_option maxRecDepth 100000 in
theorem c_Mo_isThere (l : Launch) (D : va_G) (cA : Nat → ClassId) (K : Nat → Nat) (mo ta aN aS aC aB aR aO aW aD a1 a2 a3 a4 aL aY aM bN bS bC bB bR bO aU : Nat) (rd mp gd : Bool) (zt ir : Int32) (np tot rt pl sg rn rs nh td ms ip it il : Nat) (L J : List Int32) (tf : Nat → Int32) (nf : Nat → Int32) (sz : Nat → Int32) (NM : Nat → List Int32) (n : Nat) (hc : cd_r 72 tf L) (hn8 : n ≤ 8) (hnl : n ≤ L.length) (hnp : np ≤ 5) (hnm : nm_p np NM nf sz) : ck_I l y_Mo_isThere (Cond.code y_Mo_isThere b_Mo_isThere 5 (some .boolean) :: w_all) 1 D cA K [.ref mo, .int (nI n)] [(mo, .inr (8, [.int zt, .int (nI L.length), .ref ta, .int (nI np), .ref aN, .ref aS, .ref aC, .int (nI tot), .ref aB, .int (bz_c rd), .int (nI rt), .int (nI pl), .ref aR, .ref aO, .int (nI sg), .ref aW, .int (bz_c mp), .int (nI rn), .int (nI rs), .int (bz_c gd), .ref aD, .int (nI nh), .ref a1, .ref a2, .ref a3, .ref a4, .int (nI td), .ref aL, .int (nI J.length), .ref aY, .int (nI ms), .ref aM, .int (nI ip), .int (nI it), .int ir, .int (nI il), .ref bN, .ref bS, .ref bC, .ref bB, .ref bR, .ref bO, .ref aU])), (ta, .inl (cA 1, 72, .inl tf)), (aN, .inl (cA 1, 40, .inl nf)), (aS, .inl (cA 0, 5, .inl sz))] (fun (r : Int32) (u : Unit) => (r = 1 ∧ ∃ p, p < np ∧ NM p = sl_p L 0 n) ∨ (r = 0 ∧ ∀ p, p < np → ¬ NM p = sl_p L 0 n)) (fun u => [(mo, .inr (8, [.int zt, .int (nI L.length), .ref ta, .int (nI np), .ref aN, .ref aS, .ref aC, .int (nI tot), .ref aB, .int (bz_c rd), .int (nI rt), .int (nI pl), .ref aR, .ref aO, .int (nI sg), .ref aW, .int (bz_c mp), .int (nI rn), .int (nI rs), .int (bz_c gd), .ref aD, .int (nI nh), .ref a1, .ref a2, .ref a3, .ref a4, .int (nI td), .ref aL, .int (nI J.length), .ref aY, .int (nI ms), .ref aM, .int (nI ip), .int (nI it), .int ir, .int (nI il), .ref bN, .ref bS, .ref bC, .ref bB, .ref bR, .ref bO, .ref aU])), (ta, .inl (cA 1, 72, .inl tf)), (aN, .inl (cA 1, 40, .inl nf)), (aS, .inl (cA 0, 5, .inl sz))]) := by
  refine ck_mkI (by decide) (fun r u h => by rcases h with ⟨rfl, _⟩ | ⟨rfl, _⟩ <;> rfl) (Nat.le_of_ble_eq_true rfl) ?_
  intro pG eG sG mG argsG belowG methG cG Q A H locs ls hx hb hml hown hts hK hE hA hP hD hS hl hret
  have hl : lv_has ls 5 [(0, .ref mo), (1, .int (nI n))] := hl
  have hl1 := cd_len hc
  have hl0 := hc.1
  refine lv_iconst (v := nI 0) hx hb d_Mo_isThere_0 (by decide) ?_
  refine lv_istore_n (lv' := [(2, .int (nI 0)), (0, .ref mo), (1, .int (nI n))]) hx hb d_Mo_isThere_1 rfl hl (by decide) rfl (fun ls hl => ?_)
  have L2 : ∀ (nG : Nat) (k : Nat) (H : Heap) (locs : List Loc) (ls : Array Slot), np - k = nG → (k ≤ np) → (∀ p, p < k → ¬ NM p = sl_p L 0 n) →  va_P D vwCl [(mo, .inr (8, [.int zt, .int (nI L.length), .ref ta, .int (nI np), .ref aN, .ref aS, .ref aC, .int (nI tot), .ref aB, .int (bz_c rd), .int (nI rt), .int (nI pl), .ref aR, .ref aO, .int (nI sg), .ref aW, .int (bz_c mp), .int (nI rn), .int (nI rs), .int (bz_c gd), .ref aD, .int (nI nh), .ref a1, .ref a2, .ref a3, .ref a4, .int (nI td), .ref aL, .int (nI J.length), .ref aY, .int (nI ms), .ref aM, .int (nI ip), .int (nI it), .int ir, .int (nI il), .ref bN, .ref bS, .ref bC, .ref bB, .ref bR, .ref bO, .ref aU])), (ta, .inl (cA 1, 72, .inl tf)), (aN, .inl (cA 1, 40, .inl nf)), (aS, .inl (cA 0, 5, .inl sz))] H → va_D A [(mo, .inr (8, [.int zt, .int (nI L.length), .ref ta, .int (nI np), .ref aN, .ref aS, .ref aC, .int (nI tot), .ref aB, .int (bz_c rd), .int (nI rt), .int (nI pl), .ref aR, .ref aO, .int (nI sg), .ref aW, .int (bz_c mp), .int (nI rn), .int (nI rs), .int (bz_c gd), .ref aD, .int (nI nh), .ref a1, .ref a2, .ref a3, .ref a4, .int (nI td), .ref aL, .int (nI J.length), .ref aY, .int (nI ms), .ref aM, .int (nI ip), .int (nI it), .int ir, .int (nI il), .ref bN, .ref bS, .ref bC, .ref bB, .ref bR, .ref bO, .ref aU])), (ta, .inl (cA 1, 72, .inl tf)), (aN, .inl (cA 1, 40, .inl nf)), (aS, .inl (cA 0, 5, .inl sz))] → va_S A sG.heap H locs → lv_has ls 5 [(0, .ref mo), (1, .int (nI n)), (2, .int (nI k))] → W pG l eG (rm_d 1) sG mG argsG belowG methG cG H locs 0 0 Q (F0 mG 2 ls []) := by
    intro nG
    induction nG using Nat.strongRecOn with
    | ind nG ih2 =>
      intro k H locs ls hn2 hk hs hP hD hS hl
      refine lv_iload_n hx hb d_Mo_isThere_2 rfl (lv_at hl 2 rfl) ?_
      refine lv_aload_n hx hb d_Mo_isThere_3 rfl (lv_at hl 0 rfl) ?_
      refine va_get (C := RX8) (T := TX8) (N := 43) hx hb hts inX8 hown hK hP 0 rfl rfl 3 (by decide) (hts _ m_848) (fun _ h9 => h9) rfl d_Mo_isThere_4 ?_
      refine wn_icmp_ge (by omega) (by omega) (tgt := 85) hx hb d_Mo_isThere_7 (by decide) ?_ ?_
      · intro h7
        refine lv_iconst (v := 0) hx hb d_Mo_isThere_85 (by decide) ?_
        exact hret 0 () _ _ _ 86 d_Mo_isThere_86 (Or.inr ⟨rfl, fun p hp => hs p (by omega)⟩) hP hD hS
      · intro h7
        have hk8 := hnm k (by omega)
        have hk9 := hk8.1
        refine lv_aload_n hx hb d_Mo_isThere_10 rfl (lv_at hl 0 rfl) ?_
        refine va_get (C := RX8) (T := TX8) (N := 43) hx hb hts inX8 hown hK hP 0 rfl rfl 5 (by decide) (hts _ m_850) (fun _ h9 => h9) rfl d_Mo_isThere_11 ?_
        refine lv_iload_n hx hb d_Mo_isThere_14 rfl (lv_at hl 2 rfl) ?_
        refine wn_iald hx hb hK hP 3 0 rfl rfl (by omega) (by omega) d_Mo_isThere_15 ?_
        refine wn_eq (y := nI ((NM k).length)) hk8.2.1 ?_
        refine lv_iload_n hx hb d_Mo_isThere_16 rfl (lv_at hl 1 rfl) ?_
        refine wn_icmp_ne (by omega) (by omega) (tgt := 24) hx hb d_Mo_isThere_17 (by decide) ?_ ?_
        · intro h17
          have hne : ¬ NM k = sl_p L 0 n := fun e => h17 (by rw [e, sl_len hnl]; rfl)
          refine lv_iconst (v := nI 0) hx hb d_Mo_isThere_24 (by decide) ?_
          refine lv_istore_n (lv' := [(3, .int (nI 0)), (0, .ref mo), (1, .int (nI n)), (2, .int (nI k))]) hx hb d_Mo_isThere_25 rfl hl (by decide) rfl (fun ls hl => ?_)
          refine lv_iconst (v := nI 0) hx hb d_Mo_isThere_26 (by decide) ?_
          refine lv_istore (lv' := [(4, .int (nI 0)), (3, .int (nI 0)), (0, .ref mo), (1, .int (nI n)), (2, .int (nI k))]) hx hb d_Mo_isThere_27 hl (by decide) rfl (fun ls hl => ?_)
          refine lv_iload hx hb d_Mo_isThere_29 (lv_at hl 0 rfl) ?_
          refine lv_iload_n hx hb d_Mo_isThere_31 rfl (lv_at hl 3 rfl) ?_
          refine wn_icmp_ge (by omega) (by omega) (tgt := 73) hx hb d_Mo_isThere_32 (by decide) ?_ ?_
          · intro h32
            refine lv_iload_n hx hb d_Mo_isThere_73 rfl (lv_at hl 1 rfl) ?_
            refine lv_if_eq (tgt := 79) hx hb d_Mo_isThere_74 (by decide) (fun _ => ?_) (fun h9 => absurd h9 (by decide))
            refine lv_iinc (k := 4) (v := nI (k + 1)) (lv' := [(2, .int (nI (k + 1))), (4, .int (nI 0)), (3, .int (nI 0)), (0, .ref mo), (1, .int (nI n))]) hx hb d_Mo_isThere_79 hl rfl (wi_inc1 _) (by decide) rfl (fun ls hl => ?_)
            refine lv_goto (tgt := 2) hx hb d_Mo_isThere_82 (by decide) ?_
            exact ih2 _ (by omega) (k + 1) _ _ _ rfl (by first | assumption | omega) (lt_s hs hne) hP hD hS (lv_sub hl [3, 4, 0] rfl)
          · intro h32
            refine lv_iload_n hx hb d_Mo_isThere_35 rfl (lv_at hl 1 rfl) ?_
            refine lv_if_eq (tgt := 73) hx hb d_Mo_isThere_36 (by decide) (fun _ => ?_) (fun h9 => absurd h9 (by decide))
            refine lv_iload_n hx hb d_Mo_isThere_73 rfl (lv_at hl 1 rfl) ?_
            refine lv_if_eq (tgt := 79) hx hb d_Mo_isThere_74 (by decide) (fun _ => ?_) (fun h9 => absurd h9 (by decide))
            refine lv_iinc (k := 4) (v := nI (k + 1)) (lv' := [(2, .int (nI (k + 1))), (4, .int (nI 0)), (3, .int (nI 0)), (0, .ref mo), (1, .int (nI n))]) hx hb d_Mo_isThere_79 hl rfl (wi_inc1 _) (by decide) rfl (fun ls hl => ?_)
            refine lv_goto (tgt := 2) hx hb d_Mo_isThere_82 (by decide) ?_
            exact ih2 _ (by omega) (k + 1) _ _ _ rfl (by first | assumption | omega) (lt_s hs hne) hP hD hS (lv_sub hl [3, 4, 0] rfl)
        · intro h17
          refine lv_iconst (v := 1) hx hb d_Mo_isThere_20 (by decide) ?_
          refine lv_goto (tgt := 25) hx hb d_Mo_isThere_21 (by decide) ?_
          refine lv_istore_n (lv' := [(3, .int 1), (0, .ref mo), (1, .int (nI n)), (2, .int (nI k))]) hx hb d_Mo_isThere_25 rfl hl (by decide) rfl (fun ls hl => ?_)
          refine lv_iconst (v := nI 0) hx hb d_Mo_isThere_26 (by decide) ?_
          refine lv_istore (lv' := [(4, .int (nI 0)), (3, .int 1), (0, .ref mo), (1, .int (nI n)), (2, .int (nI k))]) hx hb d_Mo_isThere_27 hl (by decide) rfl (fun ls hl => ?_)
          have L29 : ∀ (nG : Nat) (j : Nat) (H : Heap) (locs : List Loc) (ls : Array Slot), n - j = nG → (j ≤ n) → (∀ i, i < j → (NM k).getD i 0 = L.getD i 0) →  va_P D vwCl [(mo, .inr (8, [.int zt, .int (nI L.length), .ref ta, .int (nI np), .ref aN, .ref aS, .ref aC, .int (nI tot), .ref aB, .int (bz_c rd), .int (nI rt), .int (nI pl), .ref aR, .ref aO, .int (nI sg), .ref aW, .int (bz_c mp), .int (nI rn), .int (nI rs), .int (bz_c gd), .ref aD, .int (nI nh), .ref a1, .ref a2, .ref a3, .ref a4, .int (nI td), .ref aL, .int (nI J.length), .ref aY, .int (nI ms), .ref aM, .int (nI ip), .int (nI it), .int ir, .int (nI il), .ref bN, .ref bS, .ref bC, .ref bB, .ref bR, .ref bO, .ref aU])), (ta, .inl (cA 1, 72, .inl tf)), (aN, .inl (cA 1, 40, .inl nf)), (aS, .inl (cA 0, 5, .inl sz))] H → va_D A [(mo, .inr (8, [.int zt, .int (nI L.length), .ref ta, .int (nI np), .ref aN, .ref aS, .ref aC, .int (nI tot), .ref aB, .int (bz_c rd), .int (nI rt), .int (nI pl), .ref aR, .ref aO, .int (nI sg), .ref aW, .int (bz_c mp), .int (nI rn), .int (nI rs), .int (bz_c gd), .ref aD, .int (nI nh), .ref a1, .ref a2, .ref a3, .ref a4, .int (nI td), .ref aL, .int (nI J.length), .ref aY, .int (nI ms), .ref aM, .int (nI ip), .int (nI it), .int ir, .int (nI il), .ref bN, .ref bS, .ref bC, .ref bB, .ref bR, .ref bO, .ref aU])), (ta, .inl (cA 1, 72, .inl tf)), (aN, .inl (cA 1, 40, .inl nf)), (aS, .inl (cA 0, 5, .inl sz))] → va_S A sG.heap H locs → lv_has ls 5 [(0, .ref mo), (1, .int (nI n)), (2, .int (nI k)), (3, .int 1), (4, .int (nI j))] → W pG l eG (rm_d 1) sG mG argsG belowG methG cG H locs 0 0 Q (F0 mG 29 ls []) := by
            intro nG
            induction nG using Nat.strongRecOn with
            | ind nG ih29 =>
              intro j H locs ls hn29 hj hjs hP hD hS hl
              refine lv_iload hx hb d_Mo_isThere_29 (lv_at hl 4 rfl) ?_
              refine lv_iload_n hx hb d_Mo_isThere_31 rfl (lv_at hl 1 rfl) ?_
              refine wn_icmp_ge (by omega) (by omega) (tgt := 73) hx hb d_Mo_isThere_32 (by decide) ?_ ?_
              · intro h32
                refine lv_iload_n hx hb d_Mo_isThere_73 rfl (lv_at hl 3 rfl) ?_
                refine lv_if_eq (tgt := 79) hx hb d_Mo_isThere_74 (by decide) (fun h9 => absurd h9 (by decide)) (fun _ => ?_)
                refine lv_iconst (v := 1) hx hb d_Mo_isThere_77 (by decide) ?_
                exact hret 1 () _ _ _ 78 d_Mo_isThere_78 (Or.inl ⟨rfl, k, by omega, li_ext (by rw [sl_len hnl]; omega) (fun i hi => by rw [sl_get (by omega), Nat.zero_add]; exact hjs i (by omega))⟩) hP hD hS
              · intro h32
                refine lv_iload_n hx hb d_Mo_isThere_35 rfl (lv_at hl 3 rfl) ?_
                refine lv_if_eq (tgt := 73) hx hb d_Mo_isThere_36 (by decide) (fun h9 => absurd h9 (by decide)) (fun _ => ?_)
                refine lv_aload_n hx hb d_Mo_isThere_39 rfl (lv_at hl 0 rfl) ?_
                refine va_get (C := RX8) (T := TX8) (N := 43) hx hb hts inX8 hown hK hP 0 rfl rfl 4 (by decide) (hts _ m_849) (fun _ h9 => h9) rfl d_Mo_isThere_40 ?_
                refine lv_bipush (v := nI 8) hx hb d_Mo_isThere_43 (by decide) ?_
                refine lv_iload_n hx hb d_Mo_isThere_45 rfl (lv_at hl 2 rfl) ?_
                refine wn_imul hx hb d_Mo_isThere_46 ?_
                refine lv_iload hx hb d_Mo_isThere_47 (lv_at hl 4 rfl) ?_
                refine wn_iadd hx hb d_Mo_isThere_49 ?_
                refine wn_cald hx hb hK hP 2 1 rfl rfl (by omega) (by omega) d_Mo_isThere_50 ?_
                refine wn_eq (y := (NM k).getD j 0) (hk8.2.2 j (by omega)) ?_
                refine lv_aload_n hx hb d_Mo_isThere_51 rfl (lv_at hl 0 rfl) ?_
                refine va_get (C := RX8) (T := TX8) (N := 43) hx hb hts inX8 hown hK hP 0 rfl rfl 2 (by decide) (hts _ m_847) (fun _ h9 => h9) rfl d_Mo_isThere_52 ?_
                refine lv_iload hx hb d_Mo_isThere_55 (lv_at hl 4 rfl) ?_
                refine wn_cald hx hb hK hP 1 1 rfl rfl (by omega) (by omega) d_Mo_isThere_57 ?_
                refine wn_eq (y := L.getD j 0) (hc.2.2 j (by omega)) ?_
                refine lv_icmp_ne (tgt := 65) hx hb d_Mo_isThere_58 (by decide) ?_ ?_
                · intro h58
                  have hne : ¬ NM k = sl_p L 0 n := fun e => h58 (by rw [e, sl_get (by omega), Nat.zero_add])
                  refine lv_iconst (v := nI 0) hx hb d_Mo_isThere_65 (by decide) ?_
                  refine lv_istore_n (lv' := [(3, .int (nI 0)), (0, .ref mo), (1, .int (nI n)), (2, .int (nI k)), (4, .int (nI j))]) hx hb d_Mo_isThere_66 rfl hl (by decide) rfl (fun ls hl => ?_)
                  refine lv_iinc (k := 4) (v := nI (j + 1)) (lv' := [(4, .int (nI (j + 1))), (3, .int (nI 0)), (0, .ref mo), (1, .int (nI n)), (2, .int (nI k))]) hx hb d_Mo_isThere_67 hl rfl (wi_inc1 _) (by decide) rfl (fun ls hl => ?_)
                  refine lv_goto (tgt := 29) hx hb d_Mo_isThere_70 (by decide) ?_
                  refine lv_iload hx hb d_Mo_isThere_29 (lv_at hl 0 rfl) ?_
                  refine lv_iload_n hx hb d_Mo_isThere_31 rfl (lv_at hl 3 rfl) ?_
                  refine wn_icmp_ge (by omega) (by omega) (tgt := 73) hx hb d_Mo_isThere_32 (by decide) ?_ ?_
                  · intro h32_2
                    refine lv_iload_n hx hb d_Mo_isThere_73 rfl (lv_at hl 1 rfl) ?_
                    refine lv_if_eq (tgt := 79) hx hb d_Mo_isThere_74 (by decide) (fun _ => ?_) (fun h9 => absurd h9 (by decide))
                    refine lv_iinc (k := 4) (v := nI (k + 1)) (lv' := [(2, .int (nI (k + 1))), (4, .int (nI (j + 1))), (3, .int (nI 0)), (0, .ref mo), (1, .int (nI n))]) hx hb d_Mo_isThere_79 hl rfl (wi_inc1 _) (by decide) rfl (fun ls hl => ?_)
                    refine lv_goto (tgt := 2) hx hb d_Mo_isThere_82 (by decide) ?_
                    exact ih2 _ (by omega) (k + 1) _ _ _ rfl (by first | assumption | omega) (lt_s hs hne) hP hD hS (lv_sub hl [3, 4, 0] rfl)
                  · intro h32_2
                    refine lv_iload_n hx hb d_Mo_isThere_35 rfl (lv_at hl 1 rfl) ?_
                    refine lv_if_eq (tgt := 73) hx hb d_Mo_isThere_36 (by decide) (fun _ => ?_) (fun h9 => absurd h9 (by decide))
                    refine lv_iload_n hx hb d_Mo_isThere_73 rfl (lv_at hl 1 rfl) ?_
                    refine lv_if_eq (tgt := 79) hx hb d_Mo_isThere_74 (by decide) (fun _ => ?_) (fun h9 => absurd h9 (by decide))
                    refine lv_iinc (k := 4) (v := nI (k + 1)) (lv' := [(2, .int (nI (k + 1))), (4, .int (nI (j + 1))), (3, .int (nI 0)), (0, .ref mo), (1, .int (nI n))]) hx hb d_Mo_isThere_79 hl rfl (wi_inc1 _) (by decide) rfl (fun ls hl => ?_)
                    refine lv_goto (tgt := 2) hx hb d_Mo_isThere_82 (by decide) ?_
                    exact ih2 _ (by omega) (k + 1) _ _ _ rfl (by first | assumption | omega) (lt_s hs hne) hP hD hS (lv_sub hl [3, 4, 0] rfl)
                · intro h58
                  refine lv_iconst (v := 1) hx hb d_Mo_isThere_61 (by decide) ?_
                  refine lv_goto (tgt := 66) hx hb d_Mo_isThere_62 (by decide) ?_
                  refine lv_istore_n (lv' := [(3, .int 1), (0, .ref mo), (1, .int (nI n)), (2, .int (nI k)), (4, .int (nI j))]) hx hb d_Mo_isThere_66 rfl hl (by decide) rfl (fun ls hl => ?_)
                  refine lv_iinc (k := 4) (v := nI (j + 1)) (lv' := [(4, .int (nI (j + 1))), (3, .int 1), (0, .ref mo), (1, .int (nI n)), (2, .int (nI k))]) hx hb d_Mo_isThere_67 hl rfl (wi_inc1 _) (by decide) rfl (fun ls hl => ?_)
                  refine lv_goto (tgt := 29) hx hb d_Mo_isThere_70 (by decide) ?_
                  exact ih29 _ (by omega) (j + 1) _ _ _ rfl (by first | assumption | omega) (lt_s hjs h58) hP hD hS (lv_sub hl [2, 3, 4, 1, 0] rfl)
          exact L29 _ 0 _ _ _ rfl (by first | assumption | omega) (fun j hj => absurd hj (Nat.not_lt_zero j)) hP hD hS (lv_sub hl [2, 3, 4, 1, 0] rfl)
  exact L2 _ 0 _ _ _ rfl (by first | assumption | omega) (fun j hj => absurd hj (Nat.not_lt_zero j)) hP hD hS (lv_sub hl [1, 2, 0] rfl)
theorem k_Mo_isThere : cf_V y_Mo_isThere b_Mo_isThere 5 (some .boolean) "ReadMapperModel" 1 := ⟨⟨m_1005, (wm_s (q := (y_Mo_isThere, 43)) (by decide +kernel)), m_9, m_1006⟩, by decide +kernel⟩
set_option maxHeartbeats 4000000 in
set_option maxRecDepth 100000 in
theorem c_Mo_isLess (l : Launch) (D : va_G) (cA : Nat → ClassId) (K : Nat → Nat) (mo ta aN aS aC aB aR aO aW aD a1 a2 a3 a4 aL aY aM bN bS bC bB bR bO aU : Nat) (rd mp gd : Bool) (zt ir : Int32) (np tot rt pl sg rn rs nh td ms ip it il : Nat) (L J : List Int32) (rw : Nat → Int32) (G : Nat → Int32) (p q : Nat) (hpl : pl ≤ 65) (hr : ∀ z, z < pl → rw z = G z) (hk : rw_k (ky_c G) pl) (hp0 : p < pl) (hq0 : q < pl) (hne : ¬ p = q) : ck_I l y_Mo_isLess (Cond.code y_Mo_isLess b_Mo_isLess 4 (some .boolean) :: w_all) 1 D cA K [.ref mo, .int (nI p), .int (nI q)] [(mo, .inr (8, [.int zt, .int (nI L.length), .ref ta, .int (nI np), .ref aN, .ref aS, .ref aC, .int (nI tot), .ref aB, .int (bz_c rd), .int (nI rt), .int (nI pl), .ref aR, .ref aO, .int (nI sg), .ref aW, .int (bz_c mp), .int (nI rn), .int (nI rs), .int (bz_c gd), .ref aD, .int (nI nh), .ref a1, .ref a2, .ref a3, .ref a4, .int (nI td), .ref aL, .int (nI J.length), .ref aY, .int (nI ms), .ref aM, .int (nI ip), .int (nI it), .int ir, .int (nI il), .ref bN, .ref bS, .ref bC, .ref bB, .ref bR, .ref bO, .ref aU])), (aR, .inl (cA 0, 66, .inl rw))] (fun (r : Int32) (u : Unit) => (r = 1 ∧ el_t (ky_c G) pl p q) ∨ (r = 0 ∧ ¬ el_t (ky_c G) pl p q)) (fun u => [(mo, .inr (8, [.int zt, .int (nI L.length), .ref ta, .int (nI np), .ref aN, .ref aS, .ref aC, .int (nI tot), .ref aB, .int (bz_c rd), .int (nI rt), .int (nI pl), .ref aR, .ref aO, .int (nI sg), .ref aW, .int (bz_c mp), .int (nI rn), .int (nI rs), .int (bz_c gd), .ref aD, .int (nI nh), .ref a1, .ref a2, .ref a3, .ref a4, .int (nI td), .ref aL, .int (nI J.length), .ref aY, .int (nI ms), .ref aM, .int (nI ip), .int (nI it), .int ir, .int (nI il), .ref bN, .ref bS, .ref bC, .ref bB, .ref bR, .ref bO, .ref aU])), (aR, .inl (cA 0, 66, .inl rw))]) := by
  refine ck_mkI (by decide) (fun r u h => by rcases h with ⟨rfl, _⟩ | ⟨rfl, _⟩ <;> rfl) (Nat.le_of_ble_eq_true rfl) ?_
  intro pG eG sG mG argsG belowG methG cG Q A H locs ls hx hb hml hown hts hK hE hA hP hD hS hl hret
  have hl : lv_has ls 4 [(0, .ref mo), (1, .int (nI p)), (2, .int (nI q))] := hl
  refine lv_iconst (v := nI 0) hx hb d_Mo_isLess_0 (by decide) ?_
  refine lv_istore_n (lv' := [(3, .int (nI 0)), (0, .ref mo), (1, .int (nI p)), (2, .int (nI q))]) hx hb d_Mo_isLess_1 rfl hl (by decide) rfl (fun ls hl => ?_)
  have L2 : ∀ (nG : Nat) (k : Nat) (H : Heap) (locs : List Loc) (ls : Array Slot), pl - (p + k) = nG → (p + k ≤ pl) → (q + k ≤ pl) → (∀ i, i < k → G (p + i) = G (q + i)) →  va_P D vwCl [(mo, .inr (8, [.int zt, .int (nI L.length), .ref ta, .int (nI np), .ref aN, .ref aS, .ref aC, .int (nI tot), .ref aB, .int (bz_c rd), .int (nI rt), .int (nI pl), .ref aR, .ref aO, .int (nI sg), .ref aW, .int (bz_c mp), .int (nI rn), .int (nI rs), .int (bz_c gd), .ref aD, .int (nI nh), .ref a1, .ref a2, .ref a3, .ref a4, .int (nI td), .ref aL, .int (nI J.length), .ref aY, .int (nI ms), .ref aM, .int (nI ip), .int (nI it), .int ir, .int (nI il), .ref bN, .ref bS, .ref bC, .ref bB, .ref bR, .ref bO, .ref aU])), (aR, .inl (cA 0, 66, .inl rw))] H → va_D A [(mo, .inr (8, [.int zt, .int (nI L.length), .ref ta, .int (nI np), .ref aN, .ref aS, .ref aC, .int (nI tot), .ref aB, .int (bz_c rd), .int (nI rt), .int (nI pl), .ref aR, .ref aO, .int (nI sg), .ref aW, .int (bz_c mp), .int (nI rn), .int (nI rs), .int (bz_c gd), .ref aD, .int (nI nh), .ref a1, .ref a2, .ref a3, .ref a4, .int (nI td), .ref aL, .int (nI J.length), .ref aY, .int (nI ms), .ref aM, .int (nI ip), .int (nI it), .int ir, .int (nI il), .ref bN, .ref bS, .ref bC, .ref bB, .ref bR, .ref bO, .ref aU])), (aR, .inl (cA 0, 66, .inl rw))] → va_S A sG.heap H locs → lv_has ls 4 [(0, .ref mo), (1, .int (nI p)), (2, .int (nI q)), (3, .int (nI k))] → W pG l eG (rm_d 1) sG mG argsG belowG methG cG H locs 0 0 Q (F0 mG 2 ls []) := by
    intro nG
    induction nG using Nat.strongRecOn with
    | ind nG ih2 =>
      intro k H locs ls hn2 h1 h2 hs hP hD hS hl
      have hz := il_lt hk hp0 hq0 hne h1 h2 hs
      refine lv_iload_n hx hb d_Mo_isLess_2 rfl (lv_at hl 1 rfl) ?_
      refine lv_iload_n hx hb d_Mo_isLess_3 rfl (lv_at hl 3 rfl) ?_
      refine wn_iadd hx hb d_Mo_isLess_4 ?_
      refine lv_aload_n hx hb d_Mo_isLess_5 rfl (lv_at hl 0 rfl) ?_
      refine va_get (C := RX8) (T := TX8) (N := 43) hx hb hts inX8 hown hK hP 0 rfl rfl 11 (by decide) (hts _ m_856) (fun _ h9 => h9) rfl d_Mo_isLess_6 ?_
      refine wn_icmp_ge (by omega) (by omega) (tgt := 72) hx hb d_Mo_isLess_9 (by decide) (fun h9 => absurd h9 (by omega)) (fun h9 => ?_)
      refine lv_iload_n hx hb d_Mo_isLess_12 rfl (lv_at hl 2 rfl) ?_
      refine lv_iload_n hx hb d_Mo_isLess_13 rfl (lv_at hl 3 rfl) ?_
      refine wn_iadd hx hb d_Mo_isLess_14 ?_
      refine lv_aload_n hx hb d_Mo_isLess_15 rfl (lv_at hl 0 rfl) ?_
      refine va_get (C := RX8) (T := TX8) (N := 43) hx hb hts inX8 hown hK hP 0 rfl rfl 11 (by decide) (hts _ m_856) (fun _ h9 => h9) rfl d_Mo_isLess_16 ?_
      refine wn_icmp_ge (by omega) (by omega) (tgt := 72) hx hb d_Mo_isLess_19 (by decide) (fun h9 => absurd h9 (by omega)) (fun h19 => ?_)
      refine lv_aload_n hx hb d_Mo_isLess_22 rfl (lv_at hl 0 rfl) ?_
      refine va_get (C := RX8) (T := TX8) (N := 43) hx hb hts inX8 hown hK hP 0 rfl rfl 12 (by decide) (hts _ m_857) (fun _ h9 => h9) rfl d_Mo_isLess_23 ?_
      refine lv_iload_n hx hb d_Mo_isLess_26 rfl (lv_at hl 1 rfl) ?_
      refine lv_iload_n hx hb d_Mo_isLess_27 rfl (lv_at hl 3 rfl) ?_
      refine wn_iadd hx hb d_Mo_isLess_28 ?_
      refine wn_iald hx hb hK hP 1 0 rfl rfl (by omega) (by omega) d_Mo_isLess_29 ?_
      refine wn_eq (y := G (p + k)) (hr _ hz.1) ?_
      refine lv_aload_n hx hb d_Mo_isLess_30 rfl (lv_at hl 0 rfl) ?_
      refine va_get (C := RX8) (T := TX8) (N := 43) hx hb hts inX8 hown hK hP 0 rfl rfl 12 (by decide) (hts _ m_857) (fun _ h9 => h9) rfl d_Mo_isLess_31 ?_
      refine lv_iload_n hx hb d_Mo_isLess_34 rfl (lv_at hl 2 rfl) ?_
      refine lv_iload_n hx hb d_Mo_isLess_35 rfl (lv_at hl 3 rfl) ?_
      refine wn_iadd hx hb d_Mo_isLess_36 ?_
      refine wn_iald hx hb hK hP 1 0 rfl rfl (by omega) (by omega) d_Mo_isLess_37 ?_
      refine wn_eq (y := G (q + k)) (hr _ hz.2) ?_
      refine lv_icmp_eq (tgt := 66) hx hb d_Mo_isLess_38 (by decide) ?_ ?_
      · intro h38
        refine lv_iinc (k := 3) (v := nI (k + 1)) (lv' := [(3, .int (nI (k + 1))), (0, .ref mo), (1, .int (nI p)), (2, .int (nI q))]) hx hb d_Mo_isLess_66 hl rfl (wi_inc1 _) (by decide) rfl (fun ls hl => ?_)
        refine lv_goto (tgt := 2) hx hb d_Mo_isLess_69 (by decide) ?_
        exact ih2 _ (by omega) (k + 1) _ _ _ rfl (by first | assumption | omega) (by first | assumption | omega) (lt_s hs h38) hP hD hS (lv_sub hl [1, 2, 3, 0] rfl)
      · intro h38
        refine lv_aload_n hx hb d_Mo_isLess_41 rfl (lv_at hl 0 rfl) ?_
        refine va_get (C := RX8) (T := TX8) (N := 43) hx hb hts inX8 hown hK hP 0 rfl rfl 12 (by decide) (hts _ m_857) (fun _ h9 => h9) rfl d_Mo_isLess_42 ?_
        refine lv_iload_n hx hb d_Mo_isLess_45 rfl (lv_at hl 1 rfl) ?_
        refine lv_iload_n hx hb d_Mo_isLess_46 rfl (lv_at hl 3 rfl) ?_
        refine wn_iadd hx hb d_Mo_isLess_47 ?_
        refine wn_iald hx hb hK hP 1 0 rfl rfl (by omega) (by omega) d_Mo_isLess_48 ?_
        refine wn_eq (y := G (p + k)) (hr _ hz.1) ?_
        refine lv_aload_n hx hb d_Mo_isLess_49 rfl (lv_at hl 0 rfl) ?_
        refine va_get (C := RX8) (T := TX8) (N := 43) hx hb hts inX8 hown hK hP 0 rfl rfl 12 (by decide) (hts _ m_857) (fun _ h9 => h9) rfl d_Mo_isLess_50 ?_
        refine lv_iload_n hx hb d_Mo_isLess_53 rfl (lv_at hl 2 rfl) ?_
        refine lv_iload_n hx hb d_Mo_isLess_54 rfl (lv_at hl 3 rfl) ?_
        refine wn_iadd hx hb d_Mo_isLess_55 ?_
        refine wn_iald hx hb hK hP 1 0 rfl rfl (by omega) (by omega) d_Mo_isLess_56 ?_
        refine wn_eq (y := G (q + k)) (hr _ hz.2) ?_
        refine lv_icmp_ge (tgt := 64) hx hb d_Mo_isLess_57 (by decide) ?_ ?_
        · intro h57
          refine lv_iconst (v := 0) hx hb d_Mo_isLess_64 (by decide) ?_
          exact hret 0 () _ _ _ 65 d_Mo_isLess_65 (by first | exact Or.inr ⟨rfl, il_0 hz hs h38 h57⟩ | exact Or.inl ⟨rfl, il_1 hz hs h57⟩) hP hD hS
        · intro h57
          refine lv_iconst (v := 1) hx hb d_Mo_isLess_60 (by decide) ?_
          refine lv_goto (tgt := 65) hx hb d_Mo_isLess_61 (by decide) ?_
          exact hret 1 () _ _ _ 65 d_Mo_isLess_65 (by first | exact Or.inr ⟨rfl, il_0 hz hs h38 h57⟩ | exact Or.inl ⟨rfl, il_1 hz hs h57⟩) hP hD hS
  exact L2 _ 0 _ _ _ rfl (by first | assumption | omega) (by first | assumption | omega) (fun j hj => absurd hj (Nat.not_lt_zero j)) hP hD hS (lv_sub hl [1, 2, 3, 0] rfl)
theorem k_Mo_isLess : cf_V y_Mo_isLess b_Mo_isLess 4 (some .boolean) "ReadMapperModel" 2 := ⟨⟨m_1017, (wm_s (q := (y_Mo_isLess, 43)) (by decide +kernel)), m_9, m_1018⟩, by decide +kernel⟩
set_option maxHeartbeats 4000000 in
set_option maxRecDepth 100000 in
theorem c_Mo_layOut (l : Launch) (D : va_G) (cA : Nat → ClassId) (K : Nat → Nat) (mo ta aN aS aC aB aR aO aW aD a1 a2 a3 a4 aL aY aM bN bS bC bB bR bO aU : Nat) (rd mp gd : Bool) (zt ir : Int32) (np tot rt pl sg rn rs nh td ms ip it il : Nat) (L J : List Int32) (bc : Nat → Int32) (bf : Nat → Int32) (rw : Nat → Int32) (of : Nat → Int32) (q : Nat → Nat) (G : Nat → Int32) (hnp : 1 ≤ np ∧ np ≤ 5) (htt : tot = tt_c q np) (ht60 : tot ≤ 60) (hbc : ∀ p, p < np → bc p = nI (q p)) (hG : ly_p np q (fun p t => bf (tt_c q p + t)) G) (hk : rw_k (ky_c G) (tot + np)) : ck_V l y_Mo_layOut (Cond.code y_Mo_layOut b_Mo_layOut 5 none :: w_all) 2 D cA K [.ref mo] [(mo, .inr (8, [.int zt, .int (nI L.length), .ref ta, .int (nI np), .ref aN, .ref aS, .ref aC, .int (nI tot), .ref aB, .int (bz_c rd), .int (nI rt), .int (nI pl), .ref aR, .ref aO, .int (nI sg), .ref aW, .int (bz_c mp), .int (nI rn), .int (nI rs), .int (bz_c gd), .ref aD, .int (nI nh), .ref a1, .ref a2, .ref a3, .ref a4, .int (nI td), .ref aL, .int (nI J.length), .ref aY, .int (nI ms), .ref aM, .int (nI ip), .int (nI it), .int ir, .int (nI il), .ref bN, .ref bS, .ref bC, .ref bB, .ref bR, .ref bO, .ref aU])), (aC, .inl (cA 0, 5, .inl bc)), (aB, .inl (cA 0, 64, .inl bf)), (aR, .inl (cA 0, 66, .inl rw)), (aO, .inl (cA 0, 66, .inl of))] (fun (u : (Nat → Int32) × (Nat → Int32)) => (∀ z, z < tot + np → u.1 z = G z) ∧ ∀ j, j < tot + np → u.2 (rk_a (ky_c G) (tot + np) j) = nI j) (fun u => [(mo, .inr (8, [.int zt, .int (nI L.length), .ref ta, .int (nI np), .ref aN, .ref aS, .ref aC, .int (nI tot), .ref aB, .int (bz_c rd), .int (nI rt), .int (nI (tot + np)), .ref aR, .ref aO, .int (nI sg), .ref aW, .int (bz_c mp), .int (nI rn), .int (nI rs), .int (bz_c gd), .ref aD, .int (nI nh), .ref a1, .ref a2, .ref a3, .ref a4, .int (nI td), .ref aL, .int (nI J.length), .ref aY, .int (nI ms), .ref aM, .int (nI ip), .int (nI it), .int ir, .int (nI il), .ref bN, .ref bS, .ref bC, .ref bB, .ref bR, .ref bO, .ref aU])), (aC, .inl (cA 0, 5, .inl bc)), (aB, .inl (cA 0, 64, .inl bf)), (aR, .inl (cA 0, 66, .inl u.1)), (aO, .inl (cA 0, 66, .inl u.2))]) := by
  refine ck_mkV (by decide) (Nat.le_of_ble_eq_true rfl) ?_
  intro pG eG sG mG argsG belowG methG cG Q A H locs ls hx hb hml hown hts hK hE hA hP hD hS hl hret
  have hl : lv_has ls 5 [(0, .ref mo)] := hl
  refine lv_aload_n hx hb d_Mo_layOut_0 rfl (lv_at hl 0 rfl) ?_
  refine lv_iconst (v := nI 0) hx hb d_Mo_layOut_1 (by decide) ?_
  refine va_put (D := D) (ci := 8) (v := .int (nI 0)) (ty := .int) (C := RX8) (T := TX8) (N := 43) hx hb hts inX8 tyX8 tyX8_ok nmX8 hown hK hP hD hS 0 rfl rfl 11 (by decide) (hts _ m_856) (fun _ h9 => h9) rfl (by decide +kernel) rfl rfl (Nat.le_of_ble_eq_true rfl) d_Mo_layOut_2 (fun H locs hP hD hS => ?_)
  have hP : va_P D vwCl [(mo, .inr (8, [.int zt, .int (nI L.length), .ref ta, .int (nI np), .ref aN, .ref aS, .ref aC, .int (nI tot), .ref aB, .int (bz_c rd), .int (nI rt), .int (nI 0), .ref aR, .ref aO, .int (nI sg), .ref aW, .int (bz_c mp), .int (nI rn), .int (nI rs), .int (bz_c gd), .ref aD, .int (nI nh), .ref a1, .ref a2, .ref a3, .ref a4, .int (nI td), .ref aL, .int (nI J.length), .ref aY, .int (nI ms), .ref aM, .int (nI ip), .int (nI it), .int ir, .int (nI il), .ref bN, .ref bS, .ref bC, .ref bB, .ref bR, .ref bO, .ref aU])), (aC, .inl (cA 0, 5, .inl bc)), (aB, .inl (cA 0, 64, .inl bf)), (aR, .inl (cA 0, 66, .inl rw)), (aO, .inl (cA 0, 66, .inl of))] H := hP
  have hD : va_D A [(mo, .inr (8, [.int zt, .int (nI L.length), .ref ta, .int (nI np), .ref aN, .ref aS, .ref aC, .int (nI tot), .ref aB, .int (bz_c rd), .int (nI rt), .int (nI 0), .ref aR, .ref aO, .int (nI sg), .ref aW, .int (bz_c mp), .int (nI rn), .int (nI rs), .int (bz_c gd), .ref aD, .int (nI nh), .ref a1, .ref a2, .ref a3, .ref a4, .int (nI td), .ref aL, .int (nI J.length), .ref aY, .int (nI ms), .ref aM, .int (nI ip), .int (nI it), .int ir, .int (nI il), .ref bN, .ref bS, .ref bC, .ref bB, .ref bR, .ref bO, .ref aU])), (aC, .inl (cA 0, 5, .inl bc)), (aB, .inl (cA 0, 64, .inl bf)), (aR, .inl (cA 0, 66, .inl rw)), (aO, .inl (cA 0, 66, .inl of))] := hD
  refine lv_iconst (v := nI 0) hx hb d_Mo_layOut_5 (by decide) ?_
  refine lv_istore_n (lv' := [(1, .int (nI 0)), (0, .ref mo)]) hx hb d_Mo_layOut_6 rfl hl (by decide) rfl (fun ls hl => ?_)
  refine lv_iconst (v := nI 0) hx hb d_Mo_layOut_7 (by decide) ?_
  refine lv_istore_n (lv' := [(2, .int (nI 0)), (1, .int (nI 0)), (0, .ref mo)]) hx hb d_Mo_layOut_8 rfl hl (by decide) rfl (fun ls hl => ?_)
  have L9 : ∀ (nG : Nat) (k a pn : Nat) (rw1 : Nat → Int32) (H : Heap) (locs : List Loc) (ls : Array Slot), np - k = nG → (k ≤ np) → (a = tt_c q k) → (pn = tt_c q k + k) → (∀ z, z < pn → rw1 z = G z) →  va_P D vwCl [(mo, .inr (8, [.int zt, .int (nI L.length), .ref ta, .int (nI np), .ref aN, .ref aS, .ref aC, .int (nI tot), .ref aB, .int (bz_c rd), .int (nI rt), .int (nI pn), .ref aR, .ref aO, .int (nI sg), .ref aW, .int (bz_c mp), .int (nI rn), .int (nI rs), .int (bz_c gd), .ref aD, .int (nI nh), .ref a1, .ref a2, .ref a3, .ref a4, .int (nI td), .ref aL, .int (nI J.length), .ref aY, .int (nI ms), .ref aM, .int (nI ip), .int (nI it), .int ir, .int (nI il), .ref bN, .ref bS, .ref bC, .ref bB, .ref bR, .ref bO, .ref aU])), (aC, .inl (cA 0, 5, .inl bc)), (aB, .inl (cA 0, 64, .inl bf)), (aR, .inl (cA 0, 66, .inl rw1)), (aO, .inl (cA 0, 66, .inl of))] H → va_D A [(mo, .inr (8, [.int zt, .int (nI L.length), .ref ta, .int (nI np), .ref aN, .ref aS, .ref aC, .int (nI tot), .ref aB, .int (bz_c rd), .int (nI rt), .int (nI pn), .ref aR, .ref aO, .int (nI sg), .ref aW, .int (bz_c mp), .int (nI rn), .int (nI rs), .int (bz_c gd), .ref aD, .int (nI nh), .ref a1, .ref a2, .ref a3, .ref a4, .int (nI td), .ref aL, .int (nI J.length), .ref aY, .int (nI ms), .ref aM, .int (nI ip), .int (nI it), .int ir, .int (nI il), .ref bN, .ref bS, .ref bC, .ref bB, .ref bR, .ref bO, .ref aU])), (aC, .inl (cA 0, 5, .inl bc)), (aB, .inl (cA 0, 64, .inl bf)), (aR, .inl (cA 0, 66, .inl rw1)), (aO, .inl (cA 0, 66, .inl of))] → va_S A sG.heap H locs → lv_has ls 5 [(0, .ref mo), (1, .int (nI a)), (2, .int (nI k))] → W pG l eG (rm_d 2) sG mG argsG belowG methG cG H locs 0 0 Q (F0 mG 9 ls []) := by
    intro nG
    induction nG using Nat.strongRecOn with
    | ind nG ih9 =>
      intro k a pn rw1 H locs ls hn9 hk9 ha hpn hr hP hD hS hl
      have hm0 := lo_0 htt hk9
      refine lv_iload_n hx hb d_Mo_layOut_9 rfl (lv_at hl 2 rfl) ?_
      refine lv_aload_n hx hb d_Mo_layOut_10 rfl (lv_at hl 0 rfl) ?_
      refine va_get (C := RX8) (T := TX8) (N := 43) hx hb hts inX8 hown hK hP 0 rfl rfl 3 (by decide) (hts _ m_848) (fun _ h9 => h9) rfl d_Mo_layOut_11 ?_
      refine wn_icmp_ge (by omega) (by omega) (tgt := 103) hx hb d_Mo_layOut_14 (by decide) ?_ ?_
      · intro h14
        have hkn : k = np := by omega
        have hpe : pn = tot + np := by rw [hpn, htt, hkn]
        subst hpe
        refine lv_iconst (v := nI 0) hx hb d_Mo_layOut_103 (by decide) ?_
        refine lv_istore_n (lv' := [(2, .int (nI 0)), (0, .ref mo), (1, .int (nI a))]) hx hb d_Mo_layOut_104 rfl hl (by decide) rfl (fun ls hl => ?_)
        have L105 : ∀ (nG : Nat) (p : Nat) (of1 : Nat → Int32) (H : Heap) (locs : List Loc) (ls : Array Slot), tot + np - p = nG → (p ≤ tot + np) → (∀ j, j < p → of1 (rk_a (ky_c G) (tot + np) j) = nI j) →  va_P D vwCl [(mo, .inr (8, [.int zt, .int (nI L.length), .ref ta, .int (nI np), .ref aN, .ref aS, .ref aC, .int (nI tot), .ref aB, .int (bz_c rd), .int (nI rt), .int (nI (tot + np)), .ref aR, .ref aO, .int (nI sg), .ref aW, .int (bz_c mp), .int (nI rn), .int (nI rs), .int (bz_c gd), .ref aD, .int (nI nh), .ref a1, .ref a2, .ref a3, .ref a4, .int (nI td), .ref aL, .int (nI J.length), .ref aY, .int (nI ms), .ref aM, .int (nI ip), .int (nI it), .int ir, .int (nI il), .ref bN, .ref bS, .ref bC, .ref bB, .ref bR, .ref bO, .ref aU])), (aC, .inl (cA 0, 5, .inl bc)), (aB, .inl (cA 0, 64, .inl bf)), (aR, .inl (cA 0, 66, .inl rw1)), (aO, .inl (cA 0, 66, .inl of1))] H → va_D A [(mo, .inr (8, [.int zt, .int (nI L.length), .ref ta, .int (nI np), .ref aN, .ref aS, .ref aC, .int (nI tot), .ref aB, .int (bz_c rd), .int (nI rt), .int (nI (tot + np)), .ref aR, .ref aO, .int (nI sg), .ref aW, .int (bz_c mp), .int (nI rn), .int (nI rs), .int (bz_c gd), .ref aD, .int (nI nh), .ref a1, .ref a2, .ref a3, .ref a4, .int (nI td), .ref aL, .int (nI J.length), .ref aY, .int (nI ms), .ref aM, .int (nI ip), .int (nI it), .int ir, .int (nI il), .ref bN, .ref bS, .ref bC, .ref bB, .ref bR, .ref bO, .ref aU])), (aC, .inl (cA 0, 5, .inl bc)), (aB, .inl (cA 0, 64, .inl bf)), (aR, .inl (cA 0, 66, .inl rw1)), (aO, .inl (cA 0, 66, .inl of1))] → va_S A sG.heap H locs → lv_has ls 5 [(0, .ref mo), (2, .int (nI p))] → W pG l eG (rm_d 2) sG mG argsG belowG methG cG H locs 0 0 Q (F0 mG 105 ls []) := by
          intro nG
          induction nG using Nat.strongRecOn with
          | ind nG ih105 =>
            intro p of1 H locs ls hn105 hp ho hP hD hS hl
            refine lv_iload_n hx hb d_Mo_layOut_105 rfl (lv_at hl 1 rfl) ?_
            refine lv_aload_n hx hb d_Mo_layOut_106 rfl (lv_at hl 0 rfl) ?_
            refine va_get (C := RX8) (T := TX8) (N := 43) hx hb hts inX8 hown hK hP 0 rfl rfl 11 (by decide) (hts _ m_856) (fun _ h9 => h9) rfl d_Mo_layOut_107 ?_
            refine wn_icmp_ge (by omega) (by omega) (tgt := 170) hx hb d_Mo_layOut_110 (by decide) ?_ ?_
            · intro h110
              exact hret (rw1, of1) _ _ _ 170 d_Mo_layOut_170 ⟨hr, fun j hj => ho j (by omega)⟩ hP hD hS
            · intro h110
              refine lv_iconst (v := nI 0) hx hb d_Mo_layOut_113 (by decide) ?_
              refine lv_istore_n (lv' := [(3, .int (nI 0)), (0, .ref mo), (2, .int (nI p))]) hx hb d_Mo_layOut_114 rfl hl (by decide) rfl (fun ls hl => ?_)
              refine lv_iconst (v := nI 0) hx hb d_Mo_layOut_115 (by decide) ?_
              refine lv_istore (lv' := [(4, .int (nI 0)), (3, .int (nI 0)), (0, .ref mo), (2, .int (nI p))]) hx hb d_Mo_layOut_116 hl (by decide) rfl (fun ls hl => ?_)
              have L118 : ∀ (nG : Nat) (less z : Nat) (H : Heap) (locs : List Loc) (ls : Array Slot), tot + np - z = nG → (z ≤ tot + np) → (less = cn_t (fun y => 0 ≤ y ∧ el_t (ky_c G) (tot + np) y p) z) →  va_P D vwCl [(mo, .inr (8, [.int zt, .int (nI L.length), .ref ta, .int (nI np), .ref aN, .ref aS, .ref aC, .int (nI tot), .ref aB, .int (bz_c rd), .int (nI rt), .int (nI (tot + np)), .ref aR, .ref aO, .int (nI sg), .ref aW, .int (bz_c mp), .int (nI rn), .int (nI rs), .int (bz_c gd), .ref aD, .int (nI nh), .ref a1, .ref a2, .ref a3, .ref a4, .int (nI td), .ref aL, .int (nI J.length), .ref aY, .int (nI ms), .ref aM, .int (nI ip), .int (nI it), .int ir, .int (nI il), .ref bN, .ref bS, .ref bC, .ref bB, .ref bR, .ref bO, .ref aU])), (aC, .inl (cA 0, 5, .inl bc)), (aB, .inl (cA 0, 64, .inl bf)), (aR, .inl (cA 0, 66, .inl rw1)), (aO, .inl (cA 0, 66, .inl of1))] H → va_D A [(mo, .inr (8, [.int zt, .int (nI L.length), .ref ta, .int (nI np), .ref aN, .ref aS, .ref aC, .int (nI tot), .ref aB, .int (bz_c rd), .int (nI rt), .int (nI (tot + np)), .ref aR, .ref aO, .int (nI sg), .ref aW, .int (bz_c mp), .int (nI rn), .int (nI rs), .int (bz_c gd), .ref aD, .int (nI nh), .ref a1, .ref a2, .ref a3, .ref a4, .int (nI td), .ref aL, .int (nI J.length), .ref aY, .int (nI ms), .ref aM, .int (nI ip), .int (nI it), .int ir, .int (nI il), .ref bN, .ref bS, .ref bC, .ref bB, .ref bR, .ref bO, .ref aU])), (aC, .inl (cA 0, 5, .inl bc)), (aB, .inl (cA 0, 64, .inl bf)), (aR, .inl (cA 0, 66, .inl rw1)), (aO, .inl (cA 0, 66, .inl of1))] → va_S A sG.heap H locs → lv_has ls 5 [(0, .ref mo), (2, .int (nI p)), (3, .int (nI less)), (4, .int (nI z))] → W pG l eG (rm_d 2) sG mG argsG belowG methG cG H locs 0 0 Q (F0 mG 118 ls []) := by
                intro nG
                induction nG using Nat.strongRecOn with
                | ind nG ih118 =>
                  intro less z H locs ls hn118 hz hls hP hD hS hl
                  have hcl := cn_le (fun y => 0 ≤ y ∧ el_t (ky_c G) (tot + np) y p) z
                  rw [← hls] at hcl
                  refine lv_iload hx hb d_Mo_layOut_118 (lv_at hl 3 rfl) ?_
                  refine lv_aload_n hx hb d_Mo_layOut_120 rfl (lv_at hl 0 rfl) ?_
                  refine va_get (C := RX8) (T := TX8) (N := 43) hx hb hts inX8 hown hK hP 0 rfl rfl 11 (by decide) (hts _ m_856) (fun _ h9 => h9) rfl d_Mo_layOut_121 ?_
                  refine wn_icmp_ge (by omega) (by omega) (tgt := 157) hx hb d_Mo_layOut_124 (by decide) ?_ ?_
                  · intro h124
                    have hle : less = rk_a (ky_c G) (tot + np) p := by rw [hls, show z = tot + np by omega]; rfl
                    have hlb := (rk_ij hk).1 p h110
                    refine lv_aload_n hx hb d_Mo_layOut_157 rfl (lv_at hl 0 rfl) ?_
                    refine va_get (C := RX8) (T := TX8) (N := 43) hx hb hts inX8 hown hK hP 0 rfl rfl 13 (by decide) (hts _ m_858) (fun _ h9 => h9) rfl d_Mo_layOut_158 ?_
                    refine lv_iload_n hx hb d_Mo_layOut_161 rfl (lv_at hl 2 rfl) ?_
                    refine lv_iload_n hx hb d_Mo_layOut_162 rfl (lv_at hl 1 rfl) ?_
                    refine wn_iast hx hb hK hP hD hS 4 0 rfl rfl (by omega) (by omega) d_Mo_layOut_163 (fun H locs hP hD hS => ?_)
                    have hP : va_P D vwCl [(mo, .inr (8, [.int zt, .int (nI L.length), .ref ta, .int (nI np), .ref aN, .ref aS, .ref aC, .int (nI tot), .ref aB, .int (bz_c rd), .int (nI rt), .int (nI (tot + np)), .ref aR, .ref aO, .int (nI sg), .ref aW, .int (bz_c mp), .int (nI rn), .int (nI rs), .int (bz_c gd), .ref aD, .int (nI nh), .ref a1, .ref a2, .ref a3, .ref a4, .int (nI td), .ref aL, .int (nI J.length), .ref aY, .int (nI ms), .ref aM, .int (nI ip), .int (nI it), .int ir, .int (nI il), .ref bN, .ref bS, .ref bC, .ref bB, .ref bR, .ref bO, .ref aU])), (aC, .inl (cA 0, 5, .inl bc)), (aB, .inl (cA 0, 64, .inl bf)), (aR, .inl (cA 0, 66, .inl rw1)), (aO, .inl (cA 0, 66, .inl (upd of1 less (nI p))))] H := hP
                    have hD : va_D A [(mo, .inr (8, [.int zt, .int (nI L.length), .ref ta, .int (nI np), .ref aN, .ref aS, .ref aC, .int (nI tot), .ref aB, .int (bz_c rd), .int (nI rt), .int (nI (tot + np)), .ref aR, .ref aO, .int (nI sg), .ref aW, .int (bz_c mp), .int (nI rn), .int (nI rs), .int (bz_c gd), .ref aD, .int (nI nh), .ref a1, .ref a2, .ref a3, .ref a4, .int (nI td), .ref aL, .int (nI J.length), .ref aY, .int (nI ms), .ref aM, .int (nI ip), .int (nI it), .int ir, .int (nI il), .ref bN, .ref bS, .ref bC, .ref bB, .ref bR, .ref bO, .ref aU])), (aC, .inl (cA 0, 5, .inl bc)), (aB, .inl (cA 0, 64, .inl bf)), (aR, .inl (cA 0, 66, .inl rw1)), (aO, .inl (cA 0, 66, .inl (upd of1 less (nI p))))] := hD
                    refine lv_iinc (k := 1) (v := nI (p + 1)) (lv' := [(2, .int (nI (p + 1))), (0, .ref mo), (3, .int (nI less)), (4, .int (nI z))]) hx hb d_Mo_layOut_164 hl rfl (wi_inc1 _) (by decide) rfl (fun ls hl => ?_)
                    refine lv_goto (tgt := 105) hx hb d_Mo_layOut_167 (by decide) ?_
                    exact ih105 _ (by omega) (p + 1) (upd of1 less (nI p)) _ _ _ rfl (by first | assumption | omega) (lo_o hk hp ho hle h110) hP hD hS (lv_sub hl [1, 0] rfl)
                  · intro h124
                    refine lv_iload_n hx hb d_Mo_layOut_127 rfl (lv_at hl 1 rfl) ?_
                    refine lv_iload hx hb d_Mo_layOut_128 (lv_at hl 3 rfl) ?_
                    refine wn_icmp_eq (by omega) (by omega) (tgt := 149) hx hb d_Mo_layOut_130 (by decide) ?_ ?_
                    · intro h130
                      refine lv_iload_n hx hb d_Mo_layOut_149 rfl (lv_at hl 2 rfl) ?_
                      refine lv_istore_n (lv' := [(3, .int (nI less)), (0, .ref mo), (2, .int (nI p)), (4, .int (nI z))]) hx hb d_Mo_layOut_150 rfl hl (by decide) rfl (fun ls hl => ?_)
                      refine lv_iinc (k := 3) (v := nI (z + 1)) (lv' := [(4, .int (nI (z + 1))), (3, .int (nI less)), (0, .ref mo), (2, .int (nI p))]) hx hb d_Mo_layOut_151 hl rfl (wi_inc1 _) (by decide) rfl (fun ls hl => ?_)
                      refine lv_goto (tgt := 118) hx hb d_Mo_layOut_154 (by decide) ?_
                      exact ih118 _ (by omega) less (z + 1) _ _ _ rfl (by first | assumption | omega) (by first | exact lo_n hls (fun y => hq137 y.2) | exact lo_y hls ⟨Nat.zero_le _, hq137⟩ | exact lo_n hls (fun y => el_irr (h130 ▸ y.2))) hP hD hS (lv_sub hl [2, 3, 1, 0] rfl)
                    · intro h130
                      refine lv_aload_n hx hb d_Mo_layOut_133 rfl (lv_at hl 0 rfl) ?_
                      refine lv_iload hx hb d_Mo_layOut_134 (lv_at hl 3 rfl) ?_
                      refine lv_iload_n hx hb d_Mo_layOut_136 rfl (lv_at hl 1 rfl) ?_
                      refine ck_cV (C := "ReadMapperModel") (ci := 8) (rest := []) (wr := [(aC, .inl (cA 0, 5, .inl bc)), (aB, .inl (cA 0, 64, .inl bf)), (aO, .inl (cA 0, 66, .inl of1))]) (ws2 := fun u => [(mo, .inr (8, [.int zt, .int (nI L.length), .ref ta, .int (nI np), .ref aN, .ref aS, .ref aC, .int (nI tot), .ref aB, .int (bz_c rd), .int (nI rt), .int (nI (tot + np)), .ref aR, .ref aO, .int (nI sg), .ref aW, .int (bz_c mp), .int (nI rn), .int (nI rs), .int (bz_c gd), .ref aD, .int (nI nh), .ref a1, .ref a2, .ref a3, .ref a4, .int (nI td), .ref aL, .int (nI J.length), .ref aY, .int (nI ms), .ref aM, .int (nI ip), .int (nI it), .int ir, .int (nI il), .ref bN, .ref bS, .ref bC, .ref bB, .ref bR, .ref bO, .ref aU])), (aC, .inl (cA 0, 5, .inl bc)), (aB, .inl (cA 0, 64, .inl bf)), (aR, .inl (cA 0, 66, .inl rw1)), (aO, .inl (cA 0, 66, .inl of1))]) (c_Mo_isLess l D cA K mo ta aN aS aC aB aR aO aW aD a1 a2 a3 a4 aL aY aM bN bS bC bB bR bO aU rd mp gd zt ir np tot rt (tot + np) sg rn rs nh td ms ip it il L J rw1 G z p (by first | assumption | omega) hr hk (by first | assumption | omega) (by first | assumption | omega) (fun e => h130 e.symm)) hx hb hml hown hts hK hE hA hP hD hS k_Mo_isLess m_1015 (by decide) 0 rfl rfl rfl hl.1 rfl (Nat.le_of_ble_eq_true rfl) d_Mo_layOut_137  [0, 3] [1, 2, 4] [3, 0, 1, 4, 2] rfl rfl (by decide) (fun _ => rfl) (fun r137 u137 H locs hq137 hP hD hS => ?_)
                      try dsimp only at hq137
                      have hP : va_P D vwCl [(mo, .inr (8, [.int zt, .int (nI L.length), .ref ta, .int (nI np), .ref aN, .ref aS, .ref aC, .int (nI tot), .ref aB, .int (bz_c rd), .int (nI rt), .int (nI (tot + np)), .ref aR, .ref aO, .int (nI sg), .ref aW, .int (bz_c mp), .int (nI rn), .int (nI rs), .int (bz_c gd), .ref aD, .int (nI nh), .ref a1, .ref a2, .ref a3, .ref a4, .int (nI td), .ref aL, .int (nI J.length), .ref aY, .int (nI ms), .ref aM, .int (nI ip), .int (nI it), .int ir, .int (nI il), .ref bN, .ref bS, .ref bC, .ref bB, .ref bR, .ref bO, .ref aU])), (aC, .inl (cA 0, 5, .inl bc)), (aB, .inl (cA 0, 64, .inl bf)), (aR, .inl (cA 0, 66, .inl rw1)), (aO, .inl (cA 0, 66, .inl of1))] H := hP
                      have hD : va_D A [(mo, .inr (8, [.int zt, .int (nI L.length), .ref ta, .int (nI np), .ref aN, .ref aS, .ref aC, .int (nI tot), .ref aB, .int (bz_c rd), .int (nI rt), .int (nI (tot + np)), .ref aR, .ref aO, .int (nI sg), .ref aW, .int (bz_c mp), .int (nI rn), .int (nI rs), .int (bz_c gd), .ref aD, .int (nI nh), .ref a1, .ref a2, .ref a3, .ref a4, .int (nI td), .ref aL, .int (nI J.length), .ref aY, .int (nI ms), .ref aM, .int (nI ip), .int (nI it), .int ir, .int (nI il), .ref bN, .ref bS, .ref bC, .ref bB, .ref bR, .ref bO, .ref aU])), (aC, .inl (cA 0, 5, .inl bc)), (aB, .inl (cA 0, 64, .inl bf)), (aR, .inl (cA 0, 66, .inl rw1)), (aO, .inl (cA 0, 66, .inl of1))] := hD
                      rcases hq137 with ⟨rfl, hq137⟩ | ⟨rfl, hq137⟩
                      ·
                        refine lv_if_eq (tgt := 149) hx hb d_Mo_layOut_140 (by decide) (fun h9 => absurd h9 (by decide)) (fun _ => ?_)
                        refine lv_iload_n hx hb d_Mo_layOut_143 rfl (lv_at hl 2 rfl) ?_
                        refine lv_iconst (v := nI 1) hx hb d_Mo_layOut_144 (by decide) ?_
                        refine wn_iadd hx hb d_Mo_layOut_145 ?_
                        refine lv_goto (tgt := 150) hx hb d_Mo_layOut_146 (by decide) ?_
                        refine lv_istore_n (lv' := [(3, .int (nI (less + 1))), (0, .ref mo), (2, .int (nI p)), (4, .int (nI z))]) hx hb d_Mo_layOut_150 rfl hl (by decide) rfl (fun ls hl => ?_)
                        refine lv_iinc (k := 3) (v := nI (z + 1)) (lv' := [(4, .int (nI (z + 1))), (3, .int (nI (less + 1))), (0, .ref mo), (2, .int (nI p))]) hx hb d_Mo_layOut_151 hl rfl (wi_inc1 _) (by decide) rfl (fun ls hl => ?_)
                        refine lv_goto (tgt := 118) hx hb d_Mo_layOut_154 (by decide) ?_
                        exact ih118 _ (by omega) (less + 1) (z + 1) _ _ _ rfl (by first | assumption | omega) (by first | exact lo_n hls (fun y => hq137 y.2) | exact lo_y hls ⟨Nat.zero_le _, hq137⟩ | exact lo_n hls (fun y => el_irr (h130 ▸ y.2))) hP hD hS (lv_sub hl [2, 3, 1, 0] rfl)
                      ·
                        refine lv_if_eq (tgt := 149) hx hb d_Mo_layOut_140 (by decide) (fun _ => ?_) (fun h9 => absurd h9 (by decide))
                        refine lv_iload_n hx hb d_Mo_layOut_149 rfl (lv_at hl 2 rfl) ?_
                        refine lv_istore_n (lv' := [(3, .int (nI less)), (0, .ref mo), (2, .int (nI p)), (4, .int (nI z))]) hx hb d_Mo_layOut_150 rfl hl (by decide) rfl (fun ls hl => ?_)
                        refine lv_iinc (k := 3) (v := nI (z + 1)) (lv' := [(4, .int (nI (z + 1))), (3, .int (nI less)), (0, .ref mo), (2, .int (nI p))]) hx hb d_Mo_layOut_151 hl rfl (wi_inc1 _) (by decide) rfl (fun ls hl => ?_)
                        refine lv_goto (tgt := 118) hx hb d_Mo_layOut_154 (by decide) ?_
                        exact ih118 _ (by omega) less (z + 1) _ _ _ rfl (by first | assumption | omega) (by first | exact lo_n hls (fun y => hq137 y.2) | exact lo_y hls ⟨Nat.zero_le _, hq137⟩ | exact lo_n hls (fun y => el_irr (h130 ▸ y.2))) hP hD hS (lv_sub hl [2, 3, 1, 0] rfl)
              exact L118 _ 0 0 _ _ _ rfl (by first | assumption | omega) rfl hP hD hS (lv_sub hl [2, 3, 1, 0] rfl)
        exact L105 _ 0 of _ _ _ rfl (by first | assumption | omega) (fun j hj => absurd hj (Nat.not_lt_zero j)) hP hD hS (lv_sub hl [1, 0] rfl)
      · intro h14
        have hm1 : tt_c q (k + 1) ≤ tot := lo_0 htt h14
        have ht1 : tt_c q (k + 1) = tt_c q k + q k := rfl
        refine lv_iconst (v := nI 0) hx hb d_Mo_layOut_17 (by decide) ?_
        refine lv_istore_n (lv' := [(3, .int (nI 0)), (0, .ref mo), (1, .int (nI a)), (2, .int (nI k))]) hx hb d_Mo_layOut_18 rfl hl (by decide) rfl (fun ls hl => ?_)
        have L19 : ∀ (nG : Nat) (j a pn : Nat) (rw1 : Nat → Int32) (H : Heap) (locs : List Loc) (ls : Array Slot), q k - j = nG → (j ≤ q k) → (a = tt_c q k + j) → (pn = tt_c q k + k + j) → (∀ z, z < pn → rw1 z = G z) →  va_P D vwCl [(mo, .inr (8, [.int zt, .int (nI L.length), .ref ta, .int (nI np), .ref aN, .ref aS, .ref aC, .int (nI tot), .ref aB, .int (bz_c rd), .int (nI rt), .int (nI pn), .ref aR, .ref aO, .int (nI sg), .ref aW, .int (bz_c mp), .int (nI rn), .int (nI rs), .int (bz_c gd), .ref aD, .int (nI nh), .ref a1, .ref a2, .ref a3, .ref a4, .int (nI td), .ref aL, .int (nI J.length), .ref aY, .int (nI ms), .ref aM, .int (nI ip), .int (nI it), .int ir, .int (nI il), .ref bN, .ref bS, .ref bC, .ref bB, .ref bR, .ref bO, .ref aU])), (aC, .inl (cA 0, 5, .inl bc)), (aB, .inl (cA 0, 64, .inl bf)), (aR, .inl (cA 0, 66, .inl rw1)), (aO, .inl (cA 0, 66, .inl of))] H → va_D A [(mo, .inr (8, [.int zt, .int (nI L.length), .ref ta, .int (nI np), .ref aN, .ref aS, .ref aC, .int (nI tot), .ref aB, .int (bz_c rd), .int (nI rt), .int (nI pn), .ref aR, .ref aO, .int (nI sg), .ref aW, .int (bz_c mp), .int (nI rn), .int (nI rs), .int (bz_c gd), .ref aD, .int (nI nh), .ref a1, .ref a2, .ref a3, .ref a4, .int (nI td), .ref aL, .int (nI J.length), .ref aY, .int (nI ms), .ref aM, .int (nI ip), .int (nI it), .int ir, .int (nI il), .ref bN, .ref bS, .ref bC, .ref bB, .ref bR, .ref bO, .ref aU])), (aC, .inl (cA 0, 5, .inl bc)), (aB, .inl (cA 0, 64, .inl bf)), (aR, .inl (cA 0, 66, .inl rw1)), (aO, .inl (cA 0, 66, .inl of))] → va_S A sG.heap H locs → lv_has ls 5 [(0, .ref mo), (1, .int (nI a)), (2, .int (nI k)), (3, .int (nI j))] → W pG l eG (rm_d 2) sG mG argsG belowG methG cG H locs 0 0 Q (F0 mG 19 ls []) := by
          intro nG
          induction nG using Nat.strongRecOn with
          | ind nG ih19 =>
            intro j a pn rw1 H locs ls hn19 hj ha hpn hr hP hD hS hl
            refine lv_iload_n hx hb d_Mo_layOut_19 rfl (lv_at hl 3 rfl) ?_
            refine lv_aload_n hx hb d_Mo_layOut_20 rfl (lv_at hl 0 rfl) ?_
            refine va_get (C := RX8) (T := TX8) (N := 43) hx hb hts inX8 hown hK hP 0 rfl rfl 6 (by decide) (hts _ m_851) (fun _ h9 => h9) rfl d_Mo_layOut_21 ?_
            refine lv_iload_n hx hb d_Mo_layOut_24 rfl (lv_at hl 2 rfl) ?_
            refine wn_iald hx hb hK hP 1 0 rfl rfl (by omega) (by omega) d_Mo_layOut_25 ?_
            refine wn_eq (y := nI (q k)) (hbc k (by omega)) ?_
            refine wn_icmp_ge (by omega) (by omega) (tgt := 63) hx hb d_Mo_layOut_26 (by decide) ?_ ?_
            · intro h26
              refine lv_aload_n hx hb d_Mo_layOut_63 rfl (lv_at hl 0 rfl) ?_
              refine va_get (C := RX8) (T := TX8) (N := 43) hx hb hts inX8 hown hK hP 0 rfl rfl 12 (by decide) (hts _ m_857) (fun _ h9 => h9) rfl d_Mo_layOut_64 ?_
              refine lv_aload_n hx hb d_Mo_layOut_67 rfl (lv_at hl 0 rfl) ?_
              refine va_get (C := RX8) (T := TX8) (N := 43) hx hb hts inX8 hown hK hP 0 rfl rfl 11 (by decide) (hts _ m_856) (fun _ h9 => h9) rfl d_Mo_layOut_68 ?_
              refine lv_iload_n hx hb d_Mo_layOut_71 rfl (lv_at hl 2 rfl) ?_
              refine lv_aload_n hx hb d_Mo_layOut_72 rfl (lv_at hl 0 rfl) ?_
              refine va_get (C := RX8) (T := TX8) (N := 43) hx hb hts inX8 hown hK hP 0 rfl rfl 3 (by decide) (hts _ m_848) (fun _ h9 => h9) rfl d_Mo_layOut_73 ?_
              refine lv_iconst (v := nI 1) hx hb d_Mo_layOut_76 (by decide) ?_
              refine wn_isub (by omega) hx hb d_Mo_layOut_77 ?_
              refine wn_icmp_ge (by omega) (by omega) (tgt := 85) hx hb d_Mo_layOut_78 (by decide) ?_ ?_
              · intro h78
                refine lv_iconst (v := nI 0) hx hb d_Mo_layOut_85 (by decide) ?_
                refine wn_iast hx hb hK hP hD hS 3 0 rfl rfl (by omega) (by omega) d_Mo_layOut_86 (fun H locs hP hD hS => ?_)
                have hP : va_P D vwCl [(mo, .inr (8, [.int zt, .int (nI L.length), .ref ta, .int (nI np), .ref aN, .ref aS, .ref aC, .int (nI tot), .ref aB, .int (bz_c rd), .int (nI rt), .int (nI pn), .ref aR, .ref aO, .int (nI sg), .ref aW, .int (bz_c mp), .int (nI rn), .int (nI rs), .int (bz_c gd), .ref aD, .int (nI nh), .ref a1, .ref a2, .ref a3, .ref a4, .int (nI td), .ref aL, .int (nI J.length), .ref aY, .int (nI ms), .ref aM, .int (nI ip), .int (nI it), .int ir, .int (nI il), .ref bN, .ref bS, .ref bC, .ref bB, .ref bR, .ref bO, .ref aU])), (aC, .inl (cA 0, 5, .inl bc)), (aB, .inl (cA 0, 64, .inl bf)), (aR, .inl (cA 0, 66, .inl (upd rw1 pn (nI 0)))), (aO, .inl (cA 0, 66, .inl of))] H := hP
                have hD : va_D A [(mo, .inr (8, [.int zt, .int (nI L.length), .ref ta, .int (nI np), .ref aN, .ref aS, .ref aC, .int (nI tot), .ref aB, .int (bz_c rd), .int (nI rt), .int (nI pn), .ref aR, .ref aO, .int (nI sg), .ref aW, .int (bz_c mp), .int (nI rn), .int (nI rs), .int (bz_c gd), .ref aD, .int (nI nh), .ref a1, .ref a2, .ref a3, .ref a4, .int (nI td), .ref aL, .int (nI J.length), .ref aY, .int (nI ms), .ref aM, .int (nI ip), .int (nI it), .int ir, .int (nI il), .ref bN, .ref bS, .ref bC, .ref bB, .ref bR, .ref bO, .ref aU])), (aC, .inl (cA 0, 5, .inl bc)), (aB, .inl (cA 0, 64, .inl bf)), (aR, .inl (cA 0, 66, .inl (upd rw1 pn (nI 0)))), (aO, .inl (cA 0, 66, .inl of))] := hD
                refine lv_aload_n hx hb d_Mo_layOut_87 rfl (lv_at hl 0 rfl) ?_
                refine lv_dup hx hb d_Mo_layOut_88 rfl ?_
                refine va_get (C := RX8) (T := TX8) (N := 43) hx hb hts inX8 hown hK hP 0 rfl rfl 11 (by decide) (hts _ m_856) (fun _ h9 => h9) rfl d_Mo_layOut_89 ?_
                refine lv_iconst (v := nI 1) hx hb d_Mo_layOut_92 (by decide) ?_
                refine wn_iadd hx hb d_Mo_layOut_93 ?_
                refine va_put (D := D) (ci := 8) (v := .int (nI (pn + 1))) (ty := .int) (C := RX8) (T := TX8) (N := 43) hx hb hts inX8 tyX8 tyX8_ok nmX8 hown hK hP hD hS 0 rfl rfl 11 (by decide) (hts _ m_856) (fun _ h9 => h9) rfl (by decide +kernel) rfl rfl (Nat.le_of_ble_eq_true rfl) d_Mo_layOut_94 (fun H locs hP hD hS => ?_)
                have hP : va_P D vwCl [(mo, .inr (8, [.int zt, .int (nI L.length), .ref ta, .int (nI np), .ref aN, .ref aS, .ref aC, .int (nI tot), .ref aB, .int (bz_c rd), .int (nI rt), .int (nI (pn + 1)), .ref aR, .ref aO, .int (nI sg), .ref aW, .int (bz_c mp), .int (nI rn), .int (nI rs), .int (bz_c gd), .ref aD, .int (nI nh), .ref a1, .ref a2, .ref a3, .ref a4, .int (nI td), .ref aL, .int (nI J.length), .ref aY, .int (nI ms), .ref aM, .int (nI ip), .int (nI it), .int ir, .int (nI il), .ref bN, .ref bS, .ref bC, .ref bB, .ref bR, .ref bO, .ref aU])), (aC, .inl (cA 0, 5, .inl bc)), (aB, .inl (cA 0, 64, .inl bf)), (aR, .inl (cA 0, 66, .inl (upd rw1 pn (nI 0)))), (aO, .inl (cA 0, 66, .inl of))] H := hP
                have hD : va_D A [(mo, .inr (8, [.int zt, .int (nI L.length), .ref ta, .int (nI np), .ref aN, .ref aS, .ref aC, .int (nI tot), .ref aB, .int (bz_c rd), .int (nI rt), .int (nI (pn + 1)), .ref aR, .ref aO, .int (nI sg), .ref aW, .int (bz_c mp), .int (nI rn), .int (nI rs), .int (bz_c gd), .ref aD, .int (nI nh), .ref a1, .ref a2, .ref a3, .ref a4, .int (nI td), .ref aL, .int (nI J.length), .ref aY, .int (nI ms), .ref aM, .int (nI ip), .int (nI it), .int ir, .int (nI il), .ref bN, .ref bS, .ref bC, .ref bB, .ref bR, .ref bO, .ref aU])), (aC, .inl (cA 0, 5, .inl bc)), (aB, .inl (cA 0, 64, .inl bf)), (aR, .inl (cA 0, 66, .inl (upd rw1 pn (nI 0)))), (aO, .inl (cA 0, 66, .inl of))] := hD
                refine lv_iinc (k := 2) (v := nI (k + 1)) (lv' := [(2, .int (nI (k + 1))), (0, .ref mo), (1, .int (nI a)), (3, .int (nI j))]) hx hb d_Mo_layOut_97 hl rfl (wi_inc1 _) (by decide) rfl (fun ls hl => ?_)
                refine lv_goto (tgt := 9) hx hb d_Mo_layOut_100 (by decide) ?_
                exact ih9 _ (by omega) (k + 1) a (pn + 1) (upd rw1 pn (nI 0)) _ _ _ rfl (by first | assumption | omega) (by first | assumption | omega) (by first | assumption | omega) (by first | exact up_s hr (lo_1 hG h14 h78 (by omega)) | exact up_s hr (lo_2 hG h14 h78 (by omega))) hP hD hS (lv_sub hl [1, 2, 0] rfl)
              · intro h78
                refine lv_iconst (v := nI 1) hx hb d_Mo_layOut_81 (by decide) ?_
                refine lv_goto (tgt := 86) hx hb d_Mo_layOut_82 (by decide) ?_
                refine wn_iast hx hb hK hP hD hS 3 0 rfl rfl (by omega) (by omega) d_Mo_layOut_86 (fun H locs hP hD hS => ?_)
                have hP : va_P D vwCl [(mo, .inr (8, [.int zt, .int (nI L.length), .ref ta, .int (nI np), .ref aN, .ref aS, .ref aC, .int (nI tot), .ref aB, .int (bz_c rd), .int (nI rt), .int (nI pn), .ref aR, .ref aO, .int (nI sg), .ref aW, .int (bz_c mp), .int (nI rn), .int (nI rs), .int (bz_c gd), .ref aD, .int (nI nh), .ref a1, .ref a2, .ref a3, .ref a4, .int (nI td), .ref aL, .int (nI J.length), .ref aY, .int (nI ms), .ref aM, .int (nI ip), .int (nI it), .int ir, .int (nI il), .ref bN, .ref bS, .ref bC, .ref bB, .ref bR, .ref bO, .ref aU])), (aC, .inl (cA 0, 5, .inl bc)), (aB, .inl (cA 0, 64, .inl bf)), (aR, .inl (cA 0, 66, .inl (upd rw1 pn (nI 1)))), (aO, .inl (cA 0, 66, .inl of))] H := hP
                have hD : va_D A [(mo, .inr (8, [.int zt, .int (nI L.length), .ref ta, .int (nI np), .ref aN, .ref aS, .ref aC, .int (nI tot), .ref aB, .int (bz_c rd), .int (nI rt), .int (nI pn), .ref aR, .ref aO, .int (nI sg), .ref aW, .int (bz_c mp), .int (nI rn), .int (nI rs), .int (bz_c gd), .ref aD, .int (nI nh), .ref a1, .ref a2, .ref a3, .ref a4, .int (nI td), .ref aL, .int (nI J.length), .ref aY, .int (nI ms), .ref aM, .int (nI ip), .int (nI it), .int ir, .int (nI il), .ref bN, .ref bS, .ref bC, .ref bB, .ref bR, .ref bO, .ref aU])), (aC, .inl (cA 0, 5, .inl bc)), (aB, .inl (cA 0, 64, .inl bf)), (aR, .inl (cA 0, 66, .inl (upd rw1 pn (nI 1)))), (aO, .inl (cA 0, 66, .inl of))] := hD
                refine lv_aload_n hx hb d_Mo_layOut_87 rfl (lv_at hl 0 rfl) ?_
                refine lv_dup hx hb d_Mo_layOut_88 rfl ?_
                refine va_get (C := RX8) (T := TX8) (N := 43) hx hb hts inX8 hown hK hP 0 rfl rfl 11 (by decide) (hts _ m_856) (fun _ h9 => h9) rfl d_Mo_layOut_89 ?_
                refine lv_iconst (v := nI 1) hx hb d_Mo_layOut_92 (by decide) ?_
                refine wn_iadd hx hb d_Mo_layOut_93 ?_
                refine va_put (D := D) (ci := 8) (v := .int (nI (pn + 1))) (ty := .int) (C := RX8) (T := TX8) (N := 43) hx hb hts inX8 tyX8 tyX8_ok nmX8 hown hK hP hD hS 0 rfl rfl 11 (by decide) (hts _ m_856) (fun _ h9 => h9) rfl (by decide +kernel) rfl rfl (Nat.le_of_ble_eq_true rfl) d_Mo_layOut_94 (fun H locs hP hD hS => ?_)
                have hP : va_P D vwCl [(mo, .inr (8, [.int zt, .int (nI L.length), .ref ta, .int (nI np), .ref aN, .ref aS, .ref aC, .int (nI tot), .ref aB, .int (bz_c rd), .int (nI rt), .int (nI (pn + 1)), .ref aR, .ref aO, .int (nI sg), .ref aW, .int (bz_c mp), .int (nI rn), .int (nI rs), .int (bz_c gd), .ref aD, .int (nI nh), .ref a1, .ref a2, .ref a3, .ref a4, .int (nI td), .ref aL, .int (nI J.length), .ref aY, .int (nI ms), .ref aM, .int (nI ip), .int (nI it), .int ir, .int (nI il), .ref bN, .ref bS, .ref bC, .ref bB, .ref bR, .ref bO, .ref aU])), (aC, .inl (cA 0, 5, .inl bc)), (aB, .inl (cA 0, 64, .inl bf)), (aR, .inl (cA 0, 66, .inl (upd rw1 pn (nI 1)))), (aO, .inl (cA 0, 66, .inl of))] H := hP
                have hD : va_D A [(mo, .inr (8, [.int zt, .int (nI L.length), .ref ta, .int (nI np), .ref aN, .ref aS, .ref aC, .int (nI tot), .ref aB, .int (bz_c rd), .int (nI rt), .int (nI (pn + 1)), .ref aR, .ref aO, .int (nI sg), .ref aW, .int (bz_c mp), .int (nI rn), .int (nI rs), .int (bz_c gd), .ref aD, .int (nI nh), .ref a1, .ref a2, .ref a3, .ref a4, .int (nI td), .ref aL, .int (nI J.length), .ref aY, .int (nI ms), .ref aM, .int (nI ip), .int (nI it), .int ir, .int (nI il), .ref bN, .ref bS, .ref bC, .ref bB, .ref bR, .ref bO, .ref aU])), (aC, .inl (cA 0, 5, .inl bc)), (aB, .inl (cA 0, 64, .inl bf)), (aR, .inl (cA 0, 66, .inl (upd rw1 pn (nI 1)))), (aO, .inl (cA 0, 66, .inl of))] := hD
                refine lv_iinc (k := 2) (v := nI (k + 1)) (lv' := [(2, .int (nI (k + 1))), (0, .ref mo), (1, .int (nI a)), (3, .int (nI j))]) hx hb d_Mo_layOut_97 hl rfl (wi_inc1 _) (by decide) rfl (fun ls hl => ?_)
                refine lv_goto (tgt := 9) hx hb d_Mo_layOut_100 (by decide) ?_
                exact ih9 _ (by omega) (k + 1) a (pn + 1) (upd rw1 pn (nI 1)) _ _ _ rfl (by first | assumption | omega) (by first | assumption | omega) (by first | assumption | omega) (by first | exact up_s hr (lo_1 hG h14 h78 (by omega)) | exact up_s hr (lo_2 hG h14 h78 (by omega))) hP hD hS (lv_sub hl [1, 2, 0] rfl)
            · intro h26
              refine lv_aload_n hx hb d_Mo_layOut_29 rfl (lv_at hl 0 rfl) ?_
              refine va_get (C := RX8) (T := TX8) (N := 43) hx hb hts inX8 hown hK hP 0 rfl rfl 12 (by decide) (hts _ m_857) (fun _ h9 => h9) rfl d_Mo_layOut_30 ?_
              refine lv_aload_n hx hb d_Mo_layOut_33 rfl (lv_at hl 0 rfl) ?_
              refine va_get (C := RX8) (T := TX8) (N := 43) hx hb hts inX8 hown hK hP 0 rfl rfl 11 (by decide) (hts _ m_856) (fun _ h9 => h9) rfl d_Mo_layOut_34 ?_
              refine lv_aload_n hx hb d_Mo_layOut_37 rfl (lv_at hl 0 rfl) ?_
              refine va_get (C := RX8) (T := TX8) (N := 43) hx hb hts inX8 hown hK hP 0 rfl rfl 8 (by decide) (hts _ m_853) (fun _ h9 => h9) rfl d_Mo_layOut_38 ?_
              refine lv_iload_n hx hb d_Mo_layOut_41 rfl (lv_at hl 1 rfl) ?_
              refine wn_iald hx hb hK hP 2 0 rfl rfl (by omega) (by omega) d_Mo_layOut_42 ?_
              refine wn_eq (y := G pn) (by rw [ha, hpn]; exact ((hG k (by omega)).1 j (by omega)).symm) ?_
              refine wn_iast hx hb hK hP hD hS 3 0 rfl rfl (by omega) (by omega) d_Mo_layOut_43 (fun H locs hP hD hS => ?_)
              have hP : va_P D vwCl [(mo, .inr (8, [.int zt, .int (nI L.length), .ref ta, .int (nI np), .ref aN, .ref aS, .ref aC, .int (nI tot), .ref aB, .int (bz_c rd), .int (nI rt), .int (nI pn), .ref aR, .ref aO, .int (nI sg), .ref aW, .int (bz_c mp), .int (nI rn), .int (nI rs), .int (bz_c gd), .ref aD, .int (nI nh), .ref a1, .ref a2, .ref a3, .ref a4, .int (nI td), .ref aL, .int (nI J.length), .ref aY, .int (nI ms), .ref aM, .int (nI ip), .int (nI it), .int ir, .int (nI il), .ref bN, .ref bS, .ref bC, .ref bB, .ref bR, .ref bO, .ref aU])), (aC, .inl (cA 0, 5, .inl bc)), (aB, .inl (cA 0, 64, .inl bf)), (aR, .inl (cA 0, 66, .inl (upd rw1 pn (G pn)))), (aO, .inl (cA 0, 66, .inl of))] H := hP
              have hD : va_D A [(mo, .inr (8, [.int zt, .int (nI L.length), .ref ta, .int (nI np), .ref aN, .ref aS, .ref aC, .int (nI tot), .ref aB, .int (bz_c rd), .int (nI rt), .int (nI pn), .ref aR, .ref aO, .int (nI sg), .ref aW, .int (bz_c mp), .int (nI rn), .int (nI rs), .int (bz_c gd), .ref aD, .int (nI nh), .ref a1, .ref a2, .ref a3, .ref a4, .int (nI td), .ref aL, .int (nI J.length), .ref aY, .int (nI ms), .ref aM, .int (nI ip), .int (nI it), .int ir, .int (nI il), .ref bN, .ref bS, .ref bC, .ref bB, .ref bR, .ref bO, .ref aU])), (aC, .inl (cA 0, 5, .inl bc)), (aB, .inl (cA 0, 64, .inl bf)), (aR, .inl (cA 0, 66, .inl (upd rw1 pn (G pn)))), (aO, .inl (cA 0, 66, .inl of))] := hD
              refine lv_aload_n hx hb d_Mo_layOut_44 rfl (lv_at hl 0 rfl) ?_
              refine lv_dup hx hb d_Mo_layOut_45 rfl ?_
              refine va_get (C := RX8) (T := TX8) (N := 43) hx hb hts inX8 hown hK hP 0 rfl rfl 11 (by decide) (hts _ m_856) (fun _ h9 => h9) rfl d_Mo_layOut_46 ?_
              refine lv_iconst (v := nI 1) hx hb d_Mo_layOut_49 (by decide) ?_
              refine wn_iadd hx hb d_Mo_layOut_50 ?_
              refine va_put (D := D) (ci := 8) (v := .int (nI (pn + 1))) (ty := .int) (C := RX8) (T := TX8) (N := 43) hx hb hts inX8 tyX8 tyX8_ok nmX8 hown hK hP hD hS 0 rfl rfl 11 (by decide) (hts _ m_856) (fun _ h9 => h9) rfl (by decide +kernel) rfl rfl (Nat.le_of_ble_eq_true rfl) d_Mo_layOut_51 (fun H locs hP hD hS => ?_)
              have hP : va_P D vwCl [(mo, .inr (8, [.int zt, .int (nI L.length), .ref ta, .int (nI np), .ref aN, .ref aS, .ref aC, .int (nI tot), .ref aB, .int (bz_c rd), .int (nI rt), .int (nI (pn + 1)), .ref aR, .ref aO, .int (nI sg), .ref aW, .int (bz_c mp), .int (nI rn), .int (nI rs), .int (bz_c gd), .ref aD, .int (nI nh), .ref a1, .ref a2, .ref a3, .ref a4, .int (nI td), .ref aL, .int (nI J.length), .ref aY, .int (nI ms), .ref aM, .int (nI ip), .int (nI it), .int ir, .int (nI il), .ref bN, .ref bS, .ref bC, .ref bB, .ref bR, .ref bO, .ref aU])), (aC, .inl (cA 0, 5, .inl bc)), (aB, .inl (cA 0, 64, .inl bf)), (aR, .inl (cA 0, 66, .inl (upd rw1 pn (G pn)))), (aO, .inl (cA 0, 66, .inl of))] H := hP
              have hD : va_D A [(mo, .inr (8, [.int zt, .int (nI L.length), .ref ta, .int (nI np), .ref aN, .ref aS, .ref aC, .int (nI tot), .ref aB, .int (bz_c rd), .int (nI rt), .int (nI (pn + 1)), .ref aR, .ref aO, .int (nI sg), .ref aW, .int (bz_c mp), .int (nI rn), .int (nI rs), .int (bz_c gd), .ref aD, .int (nI nh), .ref a1, .ref a2, .ref a3, .ref a4, .int (nI td), .ref aL, .int (nI J.length), .ref aY, .int (nI ms), .ref aM, .int (nI ip), .int (nI it), .int ir, .int (nI il), .ref bN, .ref bS, .ref bC, .ref bB, .ref bR, .ref bO, .ref aU])), (aC, .inl (cA 0, 5, .inl bc)), (aB, .inl (cA 0, 64, .inl bf)), (aR, .inl (cA 0, 66, .inl (upd rw1 pn (G pn)))), (aO, .inl (cA 0, 66, .inl of))] := hD
              refine lv_iinc (k := 1) (v := nI (a + 1)) (lv' := [(1, .int (nI (a + 1))), (0, .ref mo), (2, .int (nI k)), (3, .int (nI j))]) hx hb d_Mo_layOut_54 hl rfl (wi_inc1 _) (by decide) rfl (fun ls hl => ?_)
              refine lv_iinc (k := 3) (v := nI (j + 1)) (lv' := [(3, .int (nI (j + 1))), (1, .int (nI (a + 1))), (0, .ref mo), (2, .int (nI k))]) hx hb d_Mo_layOut_57 hl rfl (wi_inc1 _) (by decide) rfl (fun ls hl => ?_)
              refine lv_goto (tgt := 19) hx hb d_Mo_layOut_60 (by decide) ?_
              exact ih19 _ (by omega) (j + 1) (a + 1) (pn + 1) (upd rw1 pn (G pn)) _ _ _ rfl (by first | assumption | omega) (by first | assumption | omega) (by first | assumption | omega) (up_s hr rfl) hP hD hS (lv_sub hl [2, 1, 3, 0] rfl)
        exact L19 _ 0 a pn rw1 _ _ _ rfl (by first | assumption | omega) (by first | assumption | omega) (by first | assumption | omega) (by first | assumption | omega) hP hD hS (lv_sub hl [1, 2, 3, 0] rfl)
  exact L9 _ 0 0 0 rw _ _ _ rfl (by first | assumption | omega) rfl rfl (fun j hj => absurd hj (Nat.not_lt_zero j)) hP hD hS (lv_sub hl [2, 1, 0] rfl)
theorem k_Mo_layOut : cf_V y_Mo_layOut b_Mo_layOut 5 none "ReadMapperModel" 0 := ⟨⟨m_1013, (wm_s (q := (y_Mo_layOut, 43)) (by decide +kernel)), m_9, m_1014⟩, by decide +kernel⟩
set_option maxHeartbeats 4000000 in
set_option maxRecDepth 100000 in
theorem c_Mo_build (l : Launch) (D : va_G) (cA : Nat → ClassId) (K : Nat → Nat) (mo ta aN aS aC aB aR aO aW aD a1 a2 a3 a4 aL aY aM bN bS bC bB bR bO aU : Nat) (rd mp gd : Bool) (zt ir : Int32) (np tot rt pl sg rn rs nh td ms ip it il : Nat) (L J : List Int32) (bc : Nat → Int32) (bf : Nat → Int32) (rw : Nat → Int32) (of : Nat → Int32) (q : Nat → Nat) (G : Nat → Int32) (x : Int32) (hnp5 : np ≤ 5) (hb9 : rd = false → ¬ np = 0 → (1 ≤ np ∧ np ≤ 5) ∧ (tot = tt_c q np) ∧ (tot ≤ 60) ∧ (∀ p, p < np → bc p = nI (q p)) ∧ (ly_p np q (fun p t => bf (tt_c q p + t)) G) ∧ (rw_k (ky_c G) (tot + np))) : ck_I l y_Mo_build (Cond.code y_Mo_build b_Mo_build 2 (some .int) :: w_all) 3 D cA K [.ref mo, .int x] [(mo, .inr (8, [.int zt, .int (nI L.length), .ref ta, .int (nI np), .ref aN, .ref aS, .ref aC, .int (nI tot), .ref aB, .int (bz_c rd), .int (nI rt), .int (nI pl), .ref aR, .ref aO, .int (nI sg), .ref aW, .int (bz_c mp), .int (nI rn), .int (nI rs), .int (bz_c gd), .ref aD, .int (nI nh), .ref a1, .ref a2, .ref a3, .ref a4, .int (nI td), .ref aL, .int (nI J.length), .ref aY, .int (nI ms), .ref aM, .int (nI ip), .int (nI it), .int ir, .int (nI il), .ref bN, .ref bS, .ref bC, .ref bB, .ref bR, .ref bO, .ref aU])), (aC, .inl (cA 0, 5, .inl bc)), (aB, .inl (cA 0, 64, .inl bf)), (aR, .inl (cA 0, 66, .inl rw)), (aO, .inl (cA 0, 66, .inl of))] (fun (r : Int32) (u : (Int32) × (Bool) × (Nat) × (Nat) × (Nat) × (Bool) × (Nat) × (Nat → Int32) × (Nat → Int32)) => (u.1 = 1 ∧ (rd = true ∨ np = 0) ∧ u.2.1 = rd ∧ u.2.2.1 = rt ∧ u.2.2.2.1 = pl ∧ u.2.2.2.2.1 = sg ∧ u.2.2.2.2.2.1 = mp ∧ u.2.2.2.2.2.2.1 = nh ∧ u.2.2.2.2.2.2.2.1 = rw ∧ u.2.2.2.2.2.2.2.2 = of) ∨ (u.1 = 0 ∧ rd = false ∧ ¬ np = 0 ∧ u.2.1 = true ∧ u.2.2.1 = 1 + r7_c x ∧ u.2.2.2.1 = tot + np ∧ u.2.2.2.2.1 = 0 ∧ u.2.2.2.2.2.1 = false ∧ u.2.2.2.2.2.2.1 = 0 ∧ ((∀ z, z < tot + np → u.2.2.2.2.2.2.2.1 z = G z) ∧ ∀ j, j < tot + np → u.2.2.2.2.2.2.2.2 (rk_a (ky_c G) (tot + np) j) = nI j) ∧ r = nI (tot + np))) (fun u => [(mo, .inr (8, [.int u.1, .int (nI L.length), .ref ta, .int (nI np), .ref aN, .ref aS, .ref aC, .int (nI tot), .ref aB, .int (bz_c u.2.1), .int (nI u.2.2.1), .int (nI u.2.2.2.1), .ref aR, .ref aO, .int (nI u.2.2.2.2.1), .ref aW, .int (bz_c u.2.2.2.2.2.1), .int (nI rn), .int (nI rs), .int (bz_c gd), .ref aD, .int (nI u.2.2.2.2.2.2.1), .ref a1, .ref a2, .ref a3, .ref a4, .int (nI td), .ref aL, .int (nI J.length), .ref aY, .int (nI ms), .ref aM, .int (nI ip), .int (nI it), .int ir, .int (nI il), .ref bN, .ref bS, .ref bC, .ref bB, .ref bR, .ref bO, .ref aU])), (aC, .inl (cA 0, 5, .inl bc)), (aB, .inl (cA 0, 64, .inl bf)), (aR, .inl (cA 0, 66, .inl u.2.2.2.2.2.2.2.1)), (aO, .inl (cA 0, 66, .inl u.2.2.2.2.2.2.2.2))]) := by
  refine ck_mkI (by decide) (fun _ _ _ => rfl) (Nat.le_of_ble_eq_true rfl) ?_
  intro pG eG sG mG argsG belowG methG cG Q A H locs ls hx hb hml hown hts hK hE hA hP hD hS hl hret
  have hl : lv_has ls 2 [(0, .ref mo), (1, .int x)] := hl
  refine lv_aload_n hx hb d_Mo_build_0 rfl (lv_at hl 0 rfl) ?_
  refine lv_aload_n hx hb d_Mo_build_1 rfl (lv_at hl 0 rfl) ?_
  refine va_get (C := RX8) (T := TX8) (N := 43) hx hb hts inX8 hown hK hP 0 rfl rfl 9 (by decide) (hts _ m_854) (fun _ h9 => h9) rfl d_Mo_build_2 ?_
  refine lv_if_ne (tgt := 15) hx hb d_Mo_build_5 (by decide) ?_ ?_
  · intro h5
    refine lv_iconst (v := nI 1) hx hb d_Mo_build_15 (by decide) ?_
    refine lv_goto (tgt := 20) hx hb d_Mo_build_16 (by decide) ?_
    refine va_put (D := D) (ci := 8) (v := .int (nI 1)) (ty := .int) (C := RX8) (T := TX8) (N := 43) hx hb hts inX8 tyX8 tyX8_ok nmX8 hown hK hP hD hS 0 rfl rfl 0 (by decide) (hts _ m_845) (fun _ h9 => h9) rfl (by decide +kernel) rfl rfl (Nat.le_of_ble_eq_true rfl) d_Mo_build_20 (fun H locs hP hD hS => ?_)
    have hP : va_P D vwCl [(mo, .inr (8, [.int (nI 1), .int (nI L.length), .ref ta, .int (nI np), .ref aN, .ref aS, .ref aC, .int (nI tot), .ref aB, .int (bz_c rd), .int (nI rt), .int (nI pl), .ref aR, .ref aO, .int (nI sg), .ref aW, .int (bz_c mp), .int (nI rn), .int (nI rs), .int (bz_c gd), .ref aD, .int (nI nh), .ref a1, .ref a2, .ref a3, .ref a4, .int (nI td), .ref aL, .int (nI J.length), .ref aY, .int (nI ms), .ref aM, .int (nI ip), .int (nI it), .int ir, .int (nI il), .ref bN, .ref bS, .ref bC, .ref bB, .ref bR, .ref bO, .ref aU])), (aC, .inl (cA 0, 5, .inl bc)), (aB, .inl (cA 0, 64, .inl bf)), (aR, .inl (cA 0, 66, .inl rw)), (aO, .inl (cA 0, 66, .inl of))] H := hP
    have hD : va_D A [(mo, .inr (8, [.int (nI 1), .int (nI L.length), .ref ta, .int (nI np), .ref aN, .ref aS, .ref aC, .int (nI tot), .ref aB, .int (bz_c rd), .int (nI rt), .int (nI pl), .ref aR, .ref aO, .int (nI sg), .ref aW, .int (bz_c mp), .int (nI rn), .int (nI rs), .int (bz_c gd), .ref aD, .int (nI nh), .ref a1, .ref a2, .ref a3, .ref a4, .int (nI td), .ref aL, .int (nI J.length), .ref aY, .int (nI ms), .ref aM, .int (nI ip), .int (nI it), .int ir, .int (nI il), .ref bN, .ref bS, .ref bC, .ref bB, .ref bR, .ref bO, .ref aU])), (aC, .inl (cA 0, 5, .inl bc)), (aB, .inl (cA 0, 64, .inl bf)), (aR, .inl (cA 0, 66, .inl rw)), (aO, .inl (cA 0, 66, .inl of))] := hD
    refine lv_aload_n hx hb d_Mo_build_23 rfl (lv_at hl 0 rfl) ?_
    refine va_get (C := RX8) (T := TX8) (N := 43) hx hb hts inX8 hown hK hP 0 rfl rfl 0 (by decide) (hts _ m_845) (fun _ h9 => h9) rfl d_Mo_build_24 ?_
    refine lv_if_le (tgt := 32) hx hb d_Mo_build_27 (by decide) (fun h9 => absurd h9 (by decide)) (fun _ => ?_)
    refine lv_iconst (v := nI 0) hx hb d_Mo_build_30 (by decide) ?_
    exact hret (nI 0) (nI 1, rd, rt, pl, sg, mp, nh, rw, of) _ _ _ 31 d_Mo_build_31 (by first | exact Or.inl ⟨rfl, Or.inl (bz_1 h5), rfl, rfl, rfl, rfl, rfl, rfl, rfl, rfl⟩ | exact Or.inl ⟨rfl, Or.inr h12, rfl, rfl, rfl, rfl, rfl, rfl, rfl, rfl⟩) hP hD hS
  · intro h5
    refine lv_aload_n hx hb d_Mo_build_8 rfl (lv_at hl 0 rfl) ?_
    refine va_get (C := RX8) (T := TX8) (N := 43) hx hb hts inX8 hown hK hP 0 rfl rfl 3 (by decide) (hts _ m_848) (fun _ h9 => h9) rfl d_Mo_build_9 ?_
    refine wn_if_ne (by omega) (tgt := 19) hx hb d_Mo_build_12 (by decide) ?_ ?_
    · intro h12
      refine lv_iconst (v := nI 0) hx hb d_Mo_build_19 (by decide) ?_
      refine va_put (D := D) (ci := 8) (v := .int (nI 0)) (ty := .int) (C := RX8) (T := TX8) (N := 43) hx hb hts inX8 tyX8 tyX8_ok nmX8 hown hK hP hD hS 0 rfl rfl 0 (by decide) (hts _ m_845) (fun _ h9 => h9) rfl (by decide +kernel) rfl rfl (Nat.le_of_ble_eq_true rfl) d_Mo_build_20 (fun H locs hP hD hS => ?_)
      have hP : va_P D vwCl [(mo, .inr (8, [.int (nI 0), .int (nI L.length), .ref ta, .int (nI np), .ref aN, .ref aS, .ref aC, .int (nI tot), .ref aB, .int (bz_c rd), .int (nI rt), .int (nI pl), .ref aR, .ref aO, .int (nI sg), .ref aW, .int (bz_c mp), .int (nI rn), .int (nI rs), .int (bz_c gd), .ref aD, .int (nI nh), .ref a1, .ref a2, .ref a3, .ref a4, .int (nI td), .ref aL, .int (nI J.length), .ref aY, .int (nI ms), .ref aM, .int (nI ip), .int (nI it), .int ir, .int (nI il), .ref bN, .ref bS, .ref bC, .ref bB, .ref bR, .ref bO, .ref aU])), (aC, .inl (cA 0, 5, .inl bc)), (aB, .inl (cA 0, 64, .inl bf)), (aR, .inl (cA 0, 66, .inl rw)), (aO, .inl (cA 0, 66, .inl of))] H := hP
      have hD : va_D A [(mo, .inr (8, [.int (nI 0), .int (nI L.length), .ref ta, .int (nI np), .ref aN, .ref aS, .ref aC, .int (nI tot), .ref aB, .int (bz_c rd), .int (nI rt), .int (nI pl), .ref aR, .ref aO, .int (nI sg), .ref aW, .int (bz_c mp), .int (nI rn), .int (nI rs), .int (bz_c gd), .ref aD, .int (nI nh), .ref a1, .ref a2, .ref a3, .ref a4, .int (nI td), .ref aL, .int (nI J.length), .ref aY, .int (nI ms), .ref aM, .int (nI ip), .int (nI it), .int ir, .int (nI il), .ref bN, .ref bS, .ref bC, .ref bB, .ref bR, .ref bO, .ref aU])), (aC, .inl (cA 0, 5, .inl bc)), (aB, .inl (cA 0, 64, .inl bf)), (aR, .inl (cA 0, 66, .inl rw)), (aO, .inl (cA 0, 66, .inl of))] := hD
      refine lv_aload_n hx hb d_Mo_build_23 rfl (lv_at hl 0 rfl) ?_
      refine va_get (C := RX8) (T := TX8) (N := 43) hx hb hts inX8 hown hK hP 0 rfl rfl 0 (by decide) (hts _ m_845) (fun _ h9 => h9) rfl d_Mo_build_24 ?_
      refine lv_if_le (tgt := 32) hx hb d_Mo_build_27 (by decide) (fun _ => ?_) (fun h9 => absurd h9 (by decide))
      obtain ⟨hnp, htt, ht60, hbc, hG, hk⟩ := hb9 (bz_0 h5) h12
      have h7 := r7_lt x
      refine lv_aload_n hx hb d_Mo_build_32 rfl (lv_at hl 0 rfl) ?_
      refine lv_iconst (v := nI 1) hx hb d_Mo_build_33 (by decide) ?_
      refine lv_iload_n hx hb d_Mo_build_34 rfl (lv_at hl 1 rfl) ?_
      refine lv_bipush (v := 7) hx hb d_Mo_build_35 (by decide) ?_
      refine lv_iand hx hb d_Mo_build_37 ?_
      refine wn_eq (y := nI (r7_c x)) (r7_e x) ?_
      refine wn_iadd hx hb d_Mo_build_38 ?_
      refine va_put (D := D) (ci := 8) (v := .int (nI (1 + (r7_c x)))) (ty := .int) (C := RX8) (T := TX8) (N := 43) hx hb hts inX8 tyX8 tyX8_ok nmX8 hown hK hP hD hS 0 rfl rfl 10 (by decide) (hts _ m_855) (fun _ h9 => h9) rfl (by decide +kernel) rfl rfl (Nat.le_of_ble_eq_true rfl) d_Mo_build_39 (fun H locs hP hD hS => ?_)
      have hP : va_P D vwCl [(mo, .inr (8, [.int (nI 0), .int (nI L.length), .ref ta, .int (nI np), .ref aN, .ref aS, .ref aC, .int (nI tot), .ref aB, .int (bz_c rd), .int (nI (1 + (r7_c x))), .int (nI pl), .ref aR, .ref aO, .int (nI sg), .ref aW, .int (bz_c mp), .int (nI rn), .int (nI rs), .int (bz_c gd), .ref aD, .int (nI nh), .ref a1, .ref a2, .ref a3, .ref a4, .int (nI td), .ref aL, .int (nI J.length), .ref aY, .int (nI ms), .ref aM, .int (nI ip), .int (nI it), .int ir, .int (nI il), .ref bN, .ref bS, .ref bC, .ref bB, .ref bR, .ref bO, .ref aU])), (aC, .inl (cA 0, 5, .inl bc)), (aB, .inl (cA 0, 64, .inl bf)), (aR, .inl (cA 0, 66, .inl rw)), (aO, .inl (cA 0, 66, .inl of))] H := hP
      have hD : va_D A [(mo, .inr (8, [.int (nI 0), .int (nI L.length), .ref ta, .int (nI np), .ref aN, .ref aS, .ref aC, .int (nI tot), .ref aB, .int (bz_c rd), .int (nI (1 + (r7_c x))), .int (nI pl), .ref aR, .ref aO, .int (nI sg), .ref aW, .int (bz_c mp), .int (nI rn), .int (nI rs), .int (bz_c gd), .ref aD, .int (nI nh), .ref a1, .ref a2, .ref a3, .ref a4, .int (nI td), .ref aL, .int (nI J.length), .ref aY, .int (nI ms), .ref aM, .int (nI ip), .int (nI it), .int ir, .int (nI il), .ref bN, .ref bS, .ref bC, .ref bB, .ref bR, .ref bO, .ref aU])), (aC, .inl (cA 0, 5, .inl bc)), (aB, .inl (cA 0, 64, .inl bf)), (aR, .inl (cA 0, 66, .inl rw)), (aO, .inl (cA 0, 66, .inl of))] := hD
      refine lv_aload_n hx hb d_Mo_build_42 rfl (lv_at hl 0 rfl) ?_
      refine ck_cVv (C := "ReadMapperModel") (ci := 8) (rest := []) (wr := []) (ws2 := fun u => [(mo, .inr (8, [.int (nI 0), .int (nI L.length), .ref ta, .int (nI np), .ref aN, .ref aS, .ref aC, .int (nI tot), .ref aB, .int (bz_c rd), .int (nI (1 + (r7_c x))), .int (nI (tot + np)), .ref aR, .ref aO, .int (nI sg), .ref aW, .int (bz_c mp), .int (nI rn), .int (nI rs), .int (bz_c gd), .ref aD, .int (nI nh), .ref a1, .ref a2, .ref a3, .ref a4, .int (nI td), .ref aL, .int (nI J.length), .ref aY, .int (nI ms), .ref aM, .int (nI ip), .int (nI it), .int ir, .int (nI il), .ref bN, .ref bS, .ref bC, .ref bB, .ref bR, .ref bO, .ref aU])), (aC, .inl (cA 0, 5, .inl bc)), (aB, .inl (cA 0, 64, .inl bf)), (aR, .inl (cA 0, 66, .inl u.1)), (aO, .inl (cA 0, 66, .inl u.2))]) (c_Mo_layOut l D cA K mo ta aN aS aC aB aR aO aW aD a1 a2 a3 a4 aL aY aM bN bS bC bB bR bO aU rd mp gd (nI 0) ir np tot (1 + (r7_c x)) pl sg rn rs nh td ms ip it il L J bc bf rw of q G (by first | assumption | omega) (by first | assumption | omega) (by first | assumption | omega) (by first | assumption | omega) (by first | assumption | omega) (by first | assumption | omega)) hx hb hml hown hts hK hE hA hP hD hS k_Mo_layOut m_1011 (by decide) 0 rfl rfl rfl hl.1 rfl (Nat.le_of_ble_eq_true rfl) d_Mo_build_43  [0, 1, 2, 3, 4] [] [0, 1, 2, 3, 4] rfl rfl (by decide) (fun _ => rfl) (fun u43 H locs hq43 hP hD hS => ?_)
      obtain ⟨rw2_43, of2_43⟩ := u43
      try dsimp only at hq43
      have hP : va_P D vwCl [(mo, .inr (8, [.int (nI 0), .int (nI L.length), .ref ta, .int (nI np), .ref aN, .ref aS, .ref aC, .int (nI tot), .ref aB, .int (bz_c rd), .int (nI (1 + (r7_c x))), .int (nI (tot + np)), .ref aR, .ref aO, .int (nI sg), .ref aW, .int (bz_c mp), .int (nI rn), .int (nI rs), .int (bz_c gd), .ref aD, .int (nI nh), .ref a1, .ref a2, .ref a3, .ref a4, .int (nI td), .ref aL, .int (nI J.length), .ref aY, .int (nI ms), .ref aM, .int (nI ip), .int (nI it), .int ir, .int (nI il), .ref bN, .ref bS, .ref bC, .ref bB, .ref bR, .ref bO, .ref aU])), (aC, .inl (cA 0, 5, .inl bc)), (aB, .inl (cA 0, 64, .inl bf)), (aR, .inl (cA 0, 66, .inl rw2_43)), (aO, .inl (cA 0, 66, .inl of2_43))] H := hP
      have hD : va_D A [(mo, .inr (8, [.int (nI 0), .int (nI L.length), .ref ta, .int (nI np), .ref aN, .ref aS, .ref aC, .int (nI tot), .ref aB, .int (bz_c rd), .int (nI (1 + (r7_c x))), .int (nI (tot + np)), .ref aR, .ref aO, .int (nI sg), .ref aW, .int (bz_c mp), .int (nI rn), .int (nI rs), .int (bz_c gd), .ref aD, .int (nI nh), .ref a1, .ref a2, .ref a3, .ref a4, .int (nI td), .ref aL, .int (nI J.length), .ref aY, .int (nI ms), .ref aM, .int (nI ip), .int (nI it), .int ir, .int (nI il), .ref bN, .ref bS, .ref bC, .ref bB, .ref bR, .ref bO, .ref aU])), (aC, .inl (cA 0, 5, .inl bc)), (aB, .inl (cA 0, 64, .inl bf)), (aR, .inl (cA 0, 66, .inl rw2_43)), (aO, .inl (cA 0, 66, .inl of2_43))] := hD
      refine lv_aload_n hx hb d_Mo_build_46 rfl (lv_at hl 0 rfl) ?_
      refine lv_iconst (v := 1) hx hb d_Mo_build_47 (by decide) ?_
      refine va_put (D := D) (ci := 8) (v := .int 1) (ty := .boolean) (C := RX8) (T := TX8) (N := 43) hx hb hts inX8 tyX8 tyX8_ok nmX8 hown hK hP hD hS 0 rfl rfl 9 (by decide) (hts _ m_854) (fun _ h9 => h9) rfl (by decide +kernel) rfl rfl (Nat.le_of_ble_eq_true rfl) d_Mo_build_48 (fun H locs hP hD hS => ?_)
      have hP : va_P D vwCl [(mo, .inr (8, [.int (nI 0), .int (nI L.length), .ref ta, .int (nI np), .ref aN, .ref aS, .ref aC, .int (nI tot), .ref aB, .int 1, .int (nI (1 + (r7_c x))), .int (nI (tot + np)), .ref aR, .ref aO, .int (nI sg), .ref aW, .int (bz_c mp), .int (nI rn), .int (nI rs), .int (bz_c gd), .ref aD, .int (nI nh), .ref a1, .ref a2, .ref a3, .ref a4, .int (nI td), .ref aL, .int (nI J.length), .ref aY, .int (nI ms), .ref aM, .int (nI ip), .int (nI it), .int ir, .int (nI il), .ref bN, .ref bS, .ref bC, .ref bB, .ref bR, .ref bO, .ref aU])), (aC, .inl (cA 0, 5, .inl bc)), (aB, .inl (cA 0, 64, .inl bf)), (aR, .inl (cA 0, 66, .inl rw2_43)), (aO, .inl (cA 0, 66, .inl of2_43))] H := hP
      have hD : va_D A [(mo, .inr (8, [.int (nI 0), .int (nI L.length), .ref ta, .int (nI np), .ref aN, .ref aS, .ref aC, .int (nI tot), .ref aB, .int 1, .int (nI (1 + (r7_c x))), .int (nI (tot + np)), .ref aR, .ref aO, .int (nI sg), .ref aW, .int (bz_c mp), .int (nI rn), .int (nI rs), .int (bz_c gd), .ref aD, .int (nI nh), .ref a1, .ref a2, .ref a3, .ref a4, .int (nI td), .ref aL, .int (nI J.length), .ref aY, .int (nI ms), .ref aM, .int (nI ip), .int (nI it), .int ir, .int (nI il), .ref bN, .ref bS, .ref bC, .ref bB, .ref bR, .ref bO, .ref aU])), (aC, .inl (cA 0, 5, .inl bc)), (aB, .inl (cA 0, 64, .inl bf)), (aR, .inl (cA 0, 66, .inl rw2_43)), (aO, .inl (cA 0, 66, .inl of2_43))] := hD
      have hP : va_P D vwCl [(mo, .inr (8, [.int (nI 0), .int (nI L.length), .ref ta, .int (nI np), .ref aN, .ref aS, .ref aC, .int (nI tot), .ref aB, .int (bz_c true), .int (nI (1 + (r7_c x))), .int (nI (tot + np)), .ref aR, .ref aO, .int (nI sg), .ref aW, .int (bz_c mp), .int (nI rn), .int (nI rs), .int (bz_c gd), .ref aD, .int (nI nh), .ref a1, .ref a2, .ref a3, .ref a4, .int (nI td), .ref aL, .int (nI J.length), .ref aY, .int (nI ms), .ref aM, .int (nI ip), .int (nI it), .int ir, .int (nI il), .ref bN, .ref bS, .ref bC, .ref bB, .ref bR, .ref bO, .ref aU])), (aC, .inl (cA 0, 5, .inl bc)), (aB, .inl (cA 0, 64, .inl bf)), (aR, .inl (cA 0, 66, .inl rw2_43)), (aO, .inl (cA 0, 66, .inl of2_43))] H := id hP
      have hD : va_D A [(mo, .inr (8, [.int (nI 0), .int (nI L.length), .ref ta, .int (nI np), .ref aN, .ref aS, .ref aC, .int (nI tot), .ref aB, .int (bz_c true), .int (nI (1 + (r7_c x))), .int (nI (tot + np)), .ref aR, .ref aO, .int (nI sg), .ref aW, .int (bz_c mp), .int (nI rn), .int (nI rs), .int (bz_c gd), .ref aD, .int (nI nh), .ref a1, .ref a2, .ref a3, .ref a4, .int (nI td), .ref aL, .int (nI J.length), .ref aY, .int (nI ms), .ref aM, .int (nI ip), .int (nI it), .int ir, .int (nI il), .ref bN, .ref bS, .ref bC, .ref bB, .ref bR, .ref bO, .ref aU])), (aC, .inl (cA 0, 5, .inl bc)), (aB, .inl (cA 0, 64, .inl bf)), (aR, .inl (cA 0, 66, .inl rw2_43)), (aO, .inl (cA 0, 66, .inl of2_43))] := id hD
      refine lv_aload_n hx hb d_Mo_build_51 rfl (lv_at hl 0 rfl) ?_
      refine ck_cVv (C := "ReadMapperModel") (ci := 8) (rest := []) (wr := [(aC, .inl (cA 0, 5, .inl bc)), (aB, .inl (cA 0, 64, .inl bf)), (aR, .inl (cA 0, 66, .inl rw2_43)), (aO, .inl (cA 0, 66, .inl of2_43))]) (ws2 := fun u => [(mo, .inr (8, [.int (nI 0), .int (nI L.length), .ref ta, .int (nI np), .ref aN, .ref aS, .ref aC, .int (nI tot), .ref aB, .int (bz_c true), .int (nI (1 + (r7_c x))), .int (nI (tot + np)), .ref aR, .ref aO, .int (nI 0), .ref aW, .int (bz_c false), .int (nI rn), .int (nI rs), .int (bz_c gd), .ref aD, .int (nI 0), .ref a1, .ref a2, .ref a3, .ref a4, .int (nI td), .ref aL, .int (nI J.length), .ref aY, .int (nI ms), .ref aM, .int (nI ip), .int (nI it), .int ir, .int (nI il), .ref bN, .ref bS, .ref bC, .ref bB, .ref bR, .ref bO, .ref aU])), (aC, .inl (cA 0, 5, .inl bc)), (aB, .inl (cA 0, 64, .inl bf)), (aR, .inl (cA 0, 66, .inl rw2_43)), (aO, .inl (cA 0, 66, .inl of2_43))]) (c_Mo_forget l D cA K mo ta aN aS aC aB aR aO aW aD a1 a2 a3 a4 aL aY aM bN bS bC bB bR bO aU true mp gd (nI 0) ir np tot (1 + (r7_c x)) (tot + np) sg rn rs nh td ms ip it il L J ) hx hb hml hown hts hK hE hA hP hD hS k_Mo_forget m_1019 (by decide) 0 rfl rfl rfl hl.1 rfl (Nat.le_of_ble_eq_true rfl) d_Mo_build_52  [0] [1, 2, 3, 4] [4, 0, 1, 2, 3] rfl rfl (by decide) (fun _ => rfl) (fun u52 H locs hq52 hP hD hS => ?_)
      try dsimp only at hq52
      have hP : va_P D vwCl [(mo, .inr (8, [.int (nI 0), .int (nI L.length), .ref ta, .int (nI np), .ref aN, .ref aS, .ref aC, .int (nI tot), .ref aB, .int (bz_c true), .int (nI (1 + (r7_c x))), .int (nI (tot + np)), .ref aR, .ref aO, .int (nI 0), .ref aW, .int (bz_c false), .int (nI rn), .int (nI rs), .int (bz_c gd), .ref aD, .int (nI 0), .ref a1, .ref a2, .ref a3, .ref a4, .int (nI td), .ref aL, .int (nI J.length), .ref aY, .int (nI ms), .ref aM, .int (nI ip), .int (nI it), .int ir, .int (nI il), .ref bN, .ref bS, .ref bC, .ref bB, .ref bR, .ref bO, .ref aU])), (aC, .inl (cA 0, 5, .inl bc)), (aB, .inl (cA 0, 64, .inl bf)), (aR, .inl (cA 0, 66, .inl rw2_43)), (aO, .inl (cA 0, 66, .inl of2_43))] H := hP
      have hD : va_D A [(mo, .inr (8, [.int (nI 0), .int (nI L.length), .ref ta, .int (nI np), .ref aN, .ref aS, .ref aC, .int (nI tot), .ref aB, .int (bz_c true), .int (nI (1 + (r7_c x))), .int (nI (tot + np)), .ref aR, .ref aO, .int (nI 0), .ref aW, .int (bz_c false), .int (nI rn), .int (nI rs), .int (bz_c gd), .ref aD, .int (nI 0), .ref a1, .ref a2, .ref a3, .ref a4, .int (nI td), .ref aL, .int (nI J.length), .ref aY, .int (nI ms), .ref aM, .int (nI ip), .int (nI it), .int ir, .int (nI il), .ref bN, .ref bS, .ref bC, .ref bB, .ref bR, .ref bO, .ref aU])), (aC, .inl (cA 0, 5, .inl bc)), (aB, .inl (cA 0, 64, .inl bf)), (aR, .inl (cA 0, 66, .inl rw2_43)), (aO, .inl (cA 0, 66, .inl of2_43))] := hD
      refine lv_aload_n hx hb d_Mo_build_55 rfl (lv_at hl 0 rfl) ?_
      refine va_get (C := RX8) (T := TX8) (N := 43) hx hb hts inX8 hown hK hP 0 rfl rfl 11 (by decide) (hts _ m_856) (fun _ h9 => h9) rfl d_Mo_build_56 ?_
      exact hret (nI (tot + np)) (nI 0, true, (1 + (r7_c x)), (tot + np), 0, false, 0, rw2_43, of2_43) _ _ _ 59 d_Mo_build_59 (Or.inr ⟨rfl, bz_0 h5, h12, rfl, rfl, rfl, rfl, rfl, rfl, hq43, rfl⟩) hP hD hS
    · intro h12
      refine lv_iconst (v := nI 1) hx hb d_Mo_build_15 (by decide) ?_
      refine lv_goto (tgt := 20) hx hb d_Mo_build_16 (by decide) ?_
      refine va_put (D := D) (ci := 8) (v := .int (nI 1)) (ty := .int) (C := RX8) (T := TX8) (N := 43) hx hb hts inX8 tyX8 tyX8_ok nmX8 hown hK hP hD hS 0 rfl rfl 0 (by decide) (hts _ m_845) (fun _ h9 => h9) rfl (by decide +kernel) rfl rfl (Nat.le_of_ble_eq_true rfl) d_Mo_build_20 (fun H locs hP hD hS => ?_)
      have hP : va_P D vwCl [(mo, .inr (8, [.int (nI 1), .int (nI L.length), .ref ta, .int (nI np), .ref aN, .ref aS, .ref aC, .int (nI tot), .ref aB, .int (bz_c rd), .int (nI rt), .int (nI pl), .ref aR, .ref aO, .int (nI sg), .ref aW, .int (bz_c mp), .int (nI rn), .int (nI rs), .int (bz_c gd), .ref aD, .int (nI nh), .ref a1, .ref a2, .ref a3, .ref a4, .int (nI td), .ref aL, .int (nI J.length), .ref aY, .int (nI ms), .ref aM, .int (nI ip), .int (nI it), .int ir, .int (nI il), .ref bN, .ref bS, .ref bC, .ref bB, .ref bR, .ref bO, .ref aU])), (aC, .inl (cA 0, 5, .inl bc)), (aB, .inl (cA 0, 64, .inl bf)), (aR, .inl (cA 0, 66, .inl rw)), (aO, .inl (cA 0, 66, .inl of))] H := hP
      have hD : va_D A [(mo, .inr (8, [.int (nI 1), .int (nI L.length), .ref ta, .int (nI np), .ref aN, .ref aS, .ref aC, .int (nI tot), .ref aB, .int (bz_c rd), .int (nI rt), .int (nI pl), .ref aR, .ref aO, .int (nI sg), .ref aW, .int (bz_c mp), .int (nI rn), .int (nI rs), .int (bz_c gd), .ref aD, .int (nI nh), .ref a1, .ref a2, .ref a3, .ref a4, .int (nI td), .ref aL, .int (nI J.length), .ref aY, .int (nI ms), .ref aM, .int (nI ip), .int (nI it), .int ir, .int (nI il), .ref bN, .ref bS, .ref bC, .ref bB, .ref bR, .ref bO, .ref aU])), (aC, .inl (cA 0, 5, .inl bc)), (aB, .inl (cA 0, 64, .inl bf)), (aR, .inl (cA 0, 66, .inl rw)), (aO, .inl (cA 0, 66, .inl of))] := hD
      refine lv_aload_n hx hb d_Mo_build_23 rfl (lv_at hl 0 rfl) ?_
      refine va_get (C := RX8) (T := TX8) (N := 43) hx hb hts inX8 hown hK hP 0 rfl rfl 0 (by decide) (hts _ m_845) (fun _ h9 => h9) rfl d_Mo_build_24 ?_
      refine lv_if_le (tgt := 32) hx hb d_Mo_build_27 (by decide) (fun h9 => absurd h9 (by decide)) (fun _ => ?_)
      refine lv_iconst (v := nI 0) hx hb d_Mo_build_30 (by decide) ?_
      exact hret (nI 0) (nI 1, rd, rt, pl, sg, mp, nh, rw, of) _ _ _ 31 d_Mo_build_31 (by first | exact Or.inl ⟨rfl, Or.inl (bz_1 h5), rfl, rfl, rfl, rfl, rfl, rfl, rfl, rfl⟩ | exact Or.inl ⟨rfl, Or.inr h12, rfl, rfl, rfl, rfl, rfl, rfl, rfl, rfl⟩) hP hD hS
theorem k_Mo_build : cf_V y_Mo_build b_Mo_build 2 (some .int) "ReadMapperModel" 1 := ⟨⟨m_1008, m_1009, m_9, m_1010⟩, by decide +kernel⟩
set_option maxHeartbeats 4000000 in
set_option maxRecDepth 100000 in
theorem c_Mo_suffix (l : Launch) (D : va_G) (cA : Nat → ClassId) (K : Nat → Nat) (mo ta aN aS aC aB aR aO aW aD a1 a2 a3 a4 aL aY aM bN bS bC bB bR bO aU : Nat) (rd mp gd : Bool) (zt ir : Int32) (np tot rt pl sg rn rs nh td ms ip it il : Nat) (L J : List Int32) (of : Nat → Int32) (i : Int32) (hr9 : rd = true → pl ≤ 65) : ck_I l y_Mo_suffix (Cond.code y_Mo_suffix b_Mo_suffix 2 (some .int) :: w_all) 2 D cA K [.ref mo, .int i] [(mo, .inr (8, [.int zt, .int (nI L.length), .ref ta, .int (nI np), .ref aN, .ref aS, .ref aC, .int (nI tot), .ref aB, .int (bz_c rd), .int (nI rt), .int (nI pl), .ref aR, .ref aO, .int (nI sg), .ref aW, .int (bz_c mp), .int (nI rn), .int (nI rs), .int (bz_c gd), .ref aD, .int (nI nh), .ref a1, .ref a2, .ref a3, .ref a4, .int (nI td), .ref aL, .int (nI J.length), .ref aY, .int (nI ms), .ref aM, .int (nI ip), .int (nI it), .int ir, .int (nI il), .ref bN, .ref bS, .ref bC, .ref bB, .ref bR, .ref bO, .ref aU])), (aO, .inl (cA 0, 66, .inl of))] (fun (r : Int32) (u : Int32) => (u = 1 ∧ rd = false) ∨ (u = 2 ∧ rd = true ∧ ¬ (¬ i < 0 ∧ ¬ nI pl ≤ i)) ∨ (u = 0 ∧ rd = true ∧ (¬ i < 0 ∧ ¬ nI pl ≤ i) ∧ r = px_c pl of i)) (fun u => [(mo, .inr (8, [.int u, .int (nI L.length), .ref ta, .int (nI np), .ref aN, .ref aS, .ref aC, .int (nI tot), .ref aB, .int (bz_c rd), .int (nI rt), .int (nI pl), .ref aR, .ref aO, .int (nI sg), .ref aW, .int (bz_c mp), .int (nI rn), .int (nI rs), .int (bz_c gd), .ref aD, .int (nI nh), .ref a1, .ref a2, .ref a3, .ref a4, .int (nI td), .ref aL, .int (nI J.length), .ref aY, .int (nI ms), .ref aM, .int (nI ip), .int (nI it), .int ir, .int (nI il), .ref bN, .ref bS, .ref bC, .ref bB, .ref bR, .ref bO, .ref aU])), (aO, .inl (cA 0, 66, .inl of))]) := by
  refine ck_mkI (by decide) (fun _ _ _ => rfl) (Nat.le_of_ble_eq_true rfl) ?_
  intro pG eG sG mG argsG belowG methG cG Q A H locs ls hx hb hml hown hts hK hE hA hP hD hS hl hret
  have hl : lv_has ls 2 [(0, .ref mo), (1, .int i)] := hl
  refine lv_aload_n hx hb d_Mo_suffix_0 rfl (lv_at hl 0 rfl) ?_
  refine lv_aload_n hx hb d_Mo_suffix_1 rfl (lv_at hl 0 rfl) ?_
  refine va_get (C := RX8) (T := TX8) (N := 43) hx hb hts inX8 hown hK hP 0 rfl rfl 9 (by decide) (hts _ m_854) (fun _ h9 => h9) rfl d_Mo_suffix_2 ?_
  refine lv_if_ne (tgt := 12) hx hb d_Mo_suffix_5 (by decide) ?_ ?_
  · intro h5
    refine lv_aload_n hx hb d_Mo_suffix_12 rfl (lv_at hl 0 rfl) ?_
    refine lv_iload_n hx hb d_Mo_suffix_13 rfl (lv_at hl 1 rfl) ?_
    refine ck_cV (C := "ReadMapperModel") (ci := 8) (rest := [.ref mo]) (wr := [(aO, .inl (cA 0, 66, .inl of))]) (ws2 := fun u => [(mo, .inr (8, [.int zt, .int (nI L.length), .ref ta, .int (nI np), .ref aN, .ref aS, .ref aC, .int (nI tot), .ref aB, .int (bz_c rd), .int (nI rt), .int (nI pl), .ref aR, .ref aO, .int (nI sg), .ref aW, .int (bz_c mp), .int (nI rn), .int (nI rs), .int (bz_c gd), .ref aD, .int (nI nh), .ref a1, .ref a2, .ref a3, .ref a4, .int (nI td), .ref aL, .int (nI J.length), .ref aY, .int (nI ms), .ref aM, .int (nI ip), .int (nI it), .int ir, .int (nI il), .ref bN, .ref bS, .ref bC, .ref bB, .ref bR, .ref bO, .ref aU])), (aO, .inl (cA 0, 66, .inl of))]) (c_Mo_isEnding l D cA K mo ta aN aS aC aB aR aO aW aD a1 a2 a3 a4 aL aY aM bN bS bC bB bR bO aU rd mp gd zt ir np tot rt pl sg rn rs nh td ms ip it il L J i ) hx hb hml hown hts hK hE hA hP hD hS k_Mo_isEnding m_1031 (by decide) 0 rfl rfl rfl hl.1 rfl (Nat.le_of_ble_eq_true rfl) d_Mo_suffix_14  [0] [1] [1, 0] rfl rfl (by decide) (fun _ => rfl) (fun r14 u14 H locs hq14 hP hD hS => ?_)
    try dsimp only at hq14
    have hP : va_P D vwCl [(mo, .inr (8, [.int zt, .int (nI L.length), .ref ta, .int (nI np), .ref aN, .ref aS, .ref aC, .int (nI tot), .ref aB, .int (bz_c rd), .int (nI rt), .int (nI pl), .ref aR, .ref aO, .int (nI sg), .ref aW, .int (bz_c mp), .int (nI rn), .int (nI rs), .int (bz_c gd), .ref aD, .int (nI nh), .ref a1, .ref a2, .ref a3, .ref a4, .int (nI td), .ref aL, .int (nI J.length), .ref aY, .int (nI ms), .ref aM, .int (nI ip), .int (nI it), .int ir, .int (nI il), .ref bN, .ref bS, .ref bC, .ref bB, .ref bR, .ref bO, .ref aU])), (aO, .inl (cA 0, 66, .inl of))] H := hP
    have hD : va_D A [(mo, .inr (8, [.int zt, .int (nI L.length), .ref ta, .int (nI np), .ref aN, .ref aS, .ref aC, .int (nI tot), .ref aB, .int (bz_c rd), .int (nI rt), .int (nI pl), .ref aR, .ref aO, .int (nI sg), .ref aW, .int (bz_c mp), .int (nI rn), .int (nI rs), .int (bz_c gd), .ref aD, .int (nI nh), .ref a1, .ref a2, .ref a3, .ref a4, .int (nI td), .ref aL, .int (nI J.length), .ref aY, .int (nI ms), .ref aM, .int (nI ip), .int (nI it), .int ir, .int (nI il), .ref bN, .ref bS, .ref bC, .ref bB, .ref bR, .ref bO, .ref aU])), (aO, .inl (cA 0, 66, .inl of))] := hD
    rcases hq14 with ⟨rfl, hq14⟩ | ⟨rfl, hq14⟩
    ·
      refine lv_if_ne (tgt := 24) hx hb d_Mo_suffix_17 (by decide) (fun _ => ?_) (fun h9 => absurd h9 (by decide))
      refine lv_iconst (v := nI 0) hx hb d_Mo_suffix_24 (by decide) ?_
      refine va_put (D := D) (ci := 8) (v := .int (nI 0)) (ty := .int) (C := RX8) (T := TX8) (N := 43) hx hb hts inX8 tyX8 tyX8_ok nmX8 hown hK hP hD hS 0 rfl rfl 0 (by decide) (hts _ m_845) (fun _ h9 => h9) rfl (by decide +kernel) rfl rfl (Nat.le_of_ble_eq_true rfl) d_Mo_suffix_25 (fun H locs hP hD hS => ?_)
      have hP : va_P D vwCl [(mo, .inr (8, [.int (nI 0), .int (nI L.length), .ref ta, .int (nI np), .ref aN, .ref aS, .ref aC, .int (nI tot), .ref aB, .int (bz_c rd), .int (nI rt), .int (nI pl), .ref aR, .ref aO, .int (nI sg), .ref aW, .int (bz_c mp), .int (nI rn), .int (nI rs), .int (bz_c gd), .ref aD, .int (nI nh), .ref a1, .ref a2, .ref a3, .ref a4, .int (nI td), .ref aL, .int (nI J.length), .ref aY, .int (nI ms), .ref aM, .int (nI ip), .int (nI it), .int ir, .int (nI il), .ref bN, .ref bS, .ref bC, .ref bB, .ref bR, .ref bO, .ref aU])), (aO, .inl (cA 0, 66, .inl of))] H := hP
      have hD : va_D A [(mo, .inr (8, [.int (nI 0), .int (nI L.length), .ref ta, .int (nI np), .ref aN, .ref aS, .ref aC, .int (nI tot), .ref aB, .int (bz_c rd), .int (nI rt), .int (nI pl), .ref aR, .ref aO, .int (nI sg), .ref aW, .int (bz_c mp), .int (nI rn), .int (nI rs), .int (bz_c gd), .ref aD, .int (nI nh), .ref a1, .ref a2, .ref a3, .ref a4, .int (nI td), .ref aL, .int (nI J.length), .ref aY, .int (nI ms), .ref aM, .int (nI ip), .int (nI it), .int ir, .int (nI il), .ref bN, .ref bS, .ref bC, .ref bB, .ref bR, .ref bO, .ref aU])), (aO, .inl (cA 0, 66, .inl of))] := hD
      refine lv_aload_n hx hb d_Mo_suffix_28 rfl (lv_at hl 0 rfl) ?_
      refine va_get (C := RX8) (T := TX8) (N := 43) hx hb hts inX8 hown hK hP 0 rfl rfl 0 (by decide) (hts _ m_845) (fun _ h9 => h9) rfl d_Mo_suffix_29 ?_
      refine lv_if_le (tgt := 39) hx hb d_Mo_suffix_32 (by decide) (fun _ => ?_) (fun h9 => absurd h9 (by decide))
      have hpl := hr9 hq14.1
      obtain ⟨k, hk, rfl⟩ := px_num hpl hq14.2.1 hq14.2.2
      refine lv_aload_n hx hb d_Mo_suffix_39 rfl (lv_at hl 0 rfl) ?_
      refine va_get (C := RX8) (T := TX8) (N := 43) hx hb hts inX8 hown hK hP 0 rfl rfl 13 (by decide) (hts _ m_858) (fun _ h9 => h9) rfl d_Mo_suffix_40 ?_
      refine lv_iload_n hx hb d_Mo_suffix_43 rfl (lv_at hl 1 rfl) ?_
      refine wn_iald hx hb hK hP 1 0 rfl rfl (by omega) (by omega) d_Mo_suffix_44 ?_
      exact hret (of k) (nI 0) _ _ _ 45 d_Mo_suffix_45 (by first | exact Or.inl ⟨rfl, bz_0 h5⟩ | exact Or.inr (Or.inl ⟨rfl, bz_1 h5, fun z => hq14 ⟨bz_1 h5, z⟩⟩) | exact Or.inr (Or.inr ⟨rfl, hq14.1, hq14.2, (px_n hk hpl).symm⟩)) hP hD hS
    ·
      refine lv_if_ne (tgt := 24) hx hb d_Mo_suffix_17 (by decide) (fun h9 => absurd h9 (by decide)) (fun _ => ?_)
      refine lv_iconst (v := nI 2) hx hb d_Mo_suffix_20 (by decide) ?_
      refine lv_goto (tgt := 25) hx hb d_Mo_suffix_21 (by decide) ?_
      refine va_put (D := D) (ci := 8) (v := .int (nI 2)) (ty := .int) (C := RX8) (T := TX8) (N := 43) hx hb hts inX8 tyX8 tyX8_ok nmX8 hown hK hP hD hS 0 rfl rfl 0 (by decide) (hts _ m_845) (fun _ h9 => h9) rfl (by decide +kernel) rfl rfl (Nat.le_of_ble_eq_true rfl) d_Mo_suffix_25 (fun H locs hP hD hS => ?_)
      have hP : va_P D vwCl [(mo, .inr (8, [.int (nI 2), .int (nI L.length), .ref ta, .int (nI np), .ref aN, .ref aS, .ref aC, .int (nI tot), .ref aB, .int (bz_c rd), .int (nI rt), .int (nI pl), .ref aR, .ref aO, .int (nI sg), .ref aW, .int (bz_c mp), .int (nI rn), .int (nI rs), .int (bz_c gd), .ref aD, .int (nI nh), .ref a1, .ref a2, .ref a3, .ref a4, .int (nI td), .ref aL, .int (nI J.length), .ref aY, .int (nI ms), .ref aM, .int (nI ip), .int (nI it), .int ir, .int (nI il), .ref bN, .ref bS, .ref bC, .ref bB, .ref bR, .ref bO, .ref aU])), (aO, .inl (cA 0, 66, .inl of))] H := hP
      have hD : va_D A [(mo, .inr (8, [.int (nI 2), .int (nI L.length), .ref ta, .int (nI np), .ref aN, .ref aS, .ref aC, .int (nI tot), .ref aB, .int (bz_c rd), .int (nI rt), .int (nI pl), .ref aR, .ref aO, .int (nI sg), .ref aW, .int (bz_c mp), .int (nI rn), .int (nI rs), .int (bz_c gd), .ref aD, .int (nI nh), .ref a1, .ref a2, .ref a3, .ref a4, .int (nI td), .ref aL, .int (nI J.length), .ref aY, .int (nI ms), .ref aM, .int (nI ip), .int (nI it), .int ir, .int (nI il), .ref bN, .ref bS, .ref bC, .ref bB, .ref bR, .ref bO, .ref aU])), (aO, .inl (cA 0, 66, .inl of))] := hD
      refine lv_aload_n hx hb d_Mo_suffix_28 rfl (lv_at hl 0 rfl) ?_
      refine va_get (C := RX8) (T := TX8) (N := 43) hx hb hts inX8 hown hK hP 0 rfl rfl 0 (by decide) (hts _ m_845) (fun _ h9 => h9) rfl d_Mo_suffix_29 ?_
      refine lv_if_le (tgt := 39) hx hb d_Mo_suffix_32 (by decide) (fun h9 => absurd h9 (by decide)) (fun _ => ?_)
      refine lv_iconst (v := nI 0) hx hb d_Mo_suffix_35 (by decide) ?_
      refine lv_goto (tgt := 45) hx hb d_Mo_suffix_36 (by decide) ?_
      exact hret (nI 0) (nI 2) _ _ _ 45 d_Mo_suffix_45 (by first | exact Or.inl ⟨rfl, bz_0 h5⟩ | exact Or.inr (Or.inl ⟨rfl, bz_1 h5, fun z => hq14 ⟨bz_1 h5, z⟩⟩) | exact Or.inr (Or.inr ⟨rfl, hq14.1, hq14.2, (px_n hk hpl).symm⟩)) hP hD hS
  · intro h5
    refine lv_iconst (v := nI 1) hx hb d_Mo_suffix_8 (by decide) ?_
    refine lv_goto (tgt := 25) hx hb d_Mo_suffix_9 (by decide) ?_
    refine va_put (D := D) (ci := 8) (v := .int (nI 1)) (ty := .int) (C := RX8) (T := TX8) (N := 43) hx hb hts inX8 tyX8 tyX8_ok nmX8 hown hK hP hD hS 0 rfl rfl 0 (by decide) (hts _ m_845) (fun _ h9 => h9) rfl (by decide +kernel) rfl rfl (Nat.le_of_ble_eq_true rfl) d_Mo_suffix_25 (fun H locs hP hD hS => ?_)
    have hP : va_P D vwCl [(mo, .inr (8, [.int (nI 1), .int (nI L.length), .ref ta, .int (nI np), .ref aN, .ref aS, .ref aC, .int (nI tot), .ref aB, .int (bz_c rd), .int (nI rt), .int (nI pl), .ref aR, .ref aO, .int (nI sg), .ref aW, .int (bz_c mp), .int (nI rn), .int (nI rs), .int (bz_c gd), .ref aD, .int (nI nh), .ref a1, .ref a2, .ref a3, .ref a4, .int (nI td), .ref aL, .int (nI J.length), .ref aY, .int (nI ms), .ref aM, .int (nI ip), .int (nI it), .int ir, .int (nI il), .ref bN, .ref bS, .ref bC, .ref bB, .ref bR, .ref bO, .ref aU])), (aO, .inl (cA 0, 66, .inl of))] H := hP
    have hD : va_D A [(mo, .inr (8, [.int (nI 1), .int (nI L.length), .ref ta, .int (nI np), .ref aN, .ref aS, .ref aC, .int (nI tot), .ref aB, .int (bz_c rd), .int (nI rt), .int (nI pl), .ref aR, .ref aO, .int (nI sg), .ref aW, .int (bz_c mp), .int (nI rn), .int (nI rs), .int (bz_c gd), .ref aD, .int (nI nh), .ref a1, .ref a2, .ref a3, .ref a4, .int (nI td), .ref aL, .int (nI J.length), .ref aY, .int (nI ms), .ref aM, .int (nI ip), .int (nI it), .int ir, .int (nI il), .ref bN, .ref bS, .ref bC, .ref bB, .ref bR, .ref bO, .ref aU])), (aO, .inl (cA 0, 66, .inl of))] := hD
    refine lv_aload_n hx hb d_Mo_suffix_28 rfl (lv_at hl 0 rfl) ?_
    refine va_get (C := RX8) (T := TX8) (N := 43) hx hb hts inX8 hown hK hP 0 rfl rfl 0 (by decide) (hts _ m_845) (fun _ h9 => h9) rfl d_Mo_suffix_29 ?_
    refine lv_if_le (tgt := 39) hx hb d_Mo_suffix_32 (by decide) (fun h9 => absurd h9 (by decide)) (fun _ => ?_)
    refine lv_iconst (v := nI 0) hx hb d_Mo_suffix_35 (by decide) ?_
    refine lv_goto (tgt := 45) hx hb d_Mo_suffix_36 (by decide) ?_
    exact hret (nI 0) (nI 1) _ _ _ 45 d_Mo_suffix_45 (by first | exact Or.inl ⟨rfl, bz_0 h5⟩ | exact Or.inr (Or.inl ⟨rfl, bz_1 h5, fun z => hq14 ⟨bz_1 h5, z⟩⟩) | exact Or.inr (Or.inr ⟨rfl, hq14.1, hq14.2, (px_n hk hpl).symm⟩)) hP hD hS
theorem k_Mo_suffix : cf_V y_Mo_suffix b_Mo_suffix 2 (some .int) "ReadMapperModel" 1 := ⟨⟨m_1028, m_1029, m_9, m_1030⟩, by decide +kernel⟩
set_option maxHeartbeats 4000000 in
set_option maxRecDepth 100000 in
theorem c_Mo_steps (l : Launch) (D : va_G) (cA : Nat → ClassId) (K : Nat → Nat) (mo ta aN aS aC aB aR aO aW aD a1 a2 a3 a4 aL aY aM bN bS bC bB bR bO aU : Nat) (rd mp gd : Bool) (zt ir : Int32) (np tot rt pl sg rn rs nh td ms ip it il : Nat) (L J : List Int32) (of : Nat → Int32) (so : Nat → Nat) (i : Int32) (hr9 : rd = true → pl ≤ 65 ∧ (0 < rt ∧ rt ≤ 8) ∧ ∀ j, j < pl → of j = nI (so j) ∧ so j < pl) : ck_I l y_Mo_steps (Cond.code y_Mo_steps b_Mo_steps 2 (some .int) :: w_all) 2 D cA K [.ref mo, .int i] [(mo, .inr (8, [.int zt, .int (nI L.length), .ref ta, .int (nI np), .ref aN, .ref aS, .ref aC, .int (nI tot), .ref aB, .int (bz_c rd), .int (nI rt), .int (nI pl), .ref aR, .ref aO, .int (nI sg), .ref aW, .int (bz_c mp), .int (nI rn), .int (nI rs), .int (bz_c gd), .ref aD, .int (nI nh), .ref a1, .ref a2, .ref a3, .ref a4, .int (nI td), .ref aL, .int (nI J.length), .ref aY, .int (nI ms), .ref aM, .int (nI ip), .int (nI it), .int ir, .int (nI il), .ref bN, .ref bS, .ref bC, .ref bB, .ref bR, .ref bO, .ref aU])), (aO, .inl (cA 0, 66, .inl of))] (fun (r : Int32) (u : Unit) => r = if rd = true then px_c pl (fun j => nI (so j % rt)) i else -1) (fun u => [(mo, .inr (8, [.int (nI 0), .int (nI L.length), .ref ta, .int (nI np), .ref aN, .ref aS, .ref aC, .int (nI tot), .ref aB, .int (bz_c rd), .int (nI rt), .int (nI pl), .ref aR, .ref aO, .int (nI sg), .ref aW, .int (bz_c mp), .int (nI rn), .int (nI rs), .int (bz_c gd), .ref aD, .int (nI nh), .ref a1, .ref a2, .ref a3, .ref a4, .int (nI td), .ref aL, .int (nI J.length), .ref aY, .int (nI ms), .ref aM, .int (nI ip), .int (nI it), .int ir, .int (nI il), .ref bN, .ref bS, .ref bC, .ref bB, .ref bR, .ref bO, .ref aU])), (aO, .inl (cA 0, 66, .inl of))]) := by
  refine ck_mkI (by decide) (fun _ _ _ => rfl) (Nat.le_of_ble_eq_true rfl) ?_
  intro pG eG sG mG argsG belowG methG cG Q A H locs ls hx hb hml hown hts hK hE hA hP hD hS hl hret
  have hl : lv_has ls 2 [(0, .ref mo), (1, .int i)] := hl
  refine lv_aload_n hx hb d_Mo_steps_0 rfl (lv_at hl 0 rfl) ?_
  refine lv_iconst (v := nI 0) hx hb d_Mo_steps_1 (by decide) ?_
  refine va_put (D := D) (ci := 8) (v := .int (nI 0)) (ty := .int) (C := RX8) (T := TX8) (N := 43) hx hb hts inX8 tyX8 tyX8_ok nmX8 hown hK hP hD hS 0 rfl rfl 0 (by decide) (hts _ m_845) (fun _ h9 => h9) rfl (by decide +kernel) rfl rfl (Nat.le_of_ble_eq_true rfl) d_Mo_steps_2 (fun H locs hP hD hS => ?_)
  have hP : va_P D vwCl [(mo, .inr (8, [.int (nI 0), .int (nI L.length), .ref ta, .int (nI np), .ref aN, .ref aS, .ref aC, .int (nI tot), .ref aB, .int (bz_c rd), .int (nI rt), .int (nI pl), .ref aR, .ref aO, .int (nI sg), .ref aW, .int (bz_c mp), .int (nI rn), .int (nI rs), .int (bz_c gd), .ref aD, .int (nI nh), .ref a1, .ref a2, .ref a3, .ref a4, .int (nI td), .ref aL, .int (nI J.length), .ref aY, .int (nI ms), .ref aM, .int (nI ip), .int (nI it), .int ir, .int (nI il), .ref bN, .ref bS, .ref bC, .ref bB, .ref bR, .ref bO, .ref aU])), (aO, .inl (cA 0, 66, .inl of))] H := hP
  have hD : va_D A [(mo, .inr (8, [.int (nI 0), .int (nI L.length), .ref ta, .int (nI np), .ref aN, .ref aS, .ref aC, .int (nI tot), .ref aB, .int (bz_c rd), .int (nI rt), .int (nI pl), .ref aR, .ref aO, .int (nI sg), .ref aW, .int (bz_c mp), .int (nI rn), .int (nI rs), .int (bz_c gd), .ref aD, .int (nI nh), .ref a1, .ref a2, .ref a3, .ref a4, .int (nI td), .ref aL, .int (nI J.length), .ref aY, .int (nI ms), .ref aM, .int (nI ip), .int (nI it), .int ir, .int (nI il), .ref bN, .ref bS, .ref bC, .ref bB, .ref bR, .ref bO, .ref aU])), (aO, .inl (cA 0, 66, .inl of))] := hD
  refine lv_aload_n hx hb d_Mo_steps_5 rfl (lv_at hl 0 rfl) ?_
  refine lv_iload_n hx hb d_Mo_steps_6 rfl (lv_at hl 1 rfl) ?_
  refine ck_cV (C := "ReadMapperModel") (ci := 8) (rest := []) (wr := [(aO, .inl (cA 0, 66, .inl of))]) (ws2 := fun u => [(mo, .inr (8, [.int (nI 0), .int (nI L.length), .ref ta, .int (nI np), .ref aN, .ref aS, .ref aC, .int (nI tot), .ref aB, .int (bz_c rd), .int (nI rt), .int (nI pl), .ref aR, .ref aO, .int (nI sg), .ref aW, .int (bz_c mp), .int (nI rn), .int (nI rs), .int (bz_c gd), .ref aD, .int (nI nh), .ref a1, .ref a2, .ref a3, .ref a4, .int (nI td), .ref aL, .int (nI J.length), .ref aY, .int (nI ms), .ref aM, .int (nI ip), .int (nI it), .int ir, .int (nI il), .ref bN, .ref bS, .ref bC, .ref bB, .ref bR, .ref bO, .ref aU])), (aO, .inl (cA 0, 66, .inl of))]) (c_Mo_isEnding l D cA K mo ta aN aS aC aB aR aO aW aD a1 a2 a3 a4 aL aY aM bN bS bC bB bR bO aU rd mp gd (nI 0) ir np tot rt pl sg rn rs nh td ms ip it il L J i ) hx hb hml hown hts hK hE hA hP hD hS k_Mo_isEnding m_1031 (by decide) 0 rfl rfl rfl hl.1 rfl (Nat.le_of_ble_eq_true rfl) d_Mo_steps_7  [0] [1] [1, 0] rfl rfl (by decide) (fun _ => rfl) (fun r7 u7 H locs hq7 hP hD hS => ?_)
  try dsimp only at hq7
  have hP : va_P D vwCl [(mo, .inr (8, [.int (nI 0), .int (nI L.length), .ref ta, .int (nI np), .ref aN, .ref aS, .ref aC, .int (nI tot), .ref aB, .int (bz_c rd), .int (nI rt), .int (nI pl), .ref aR, .ref aO, .int (nI sg), .ref aW, .int (bz_c mp), .int (nI rn), .int (nI rs), .int (bz_c gd), .ref aD, .int (nI nh), .ref a1, .ref a2, .ref a3, .ref a4, .int (nI td), .ref aL, .int (nI J.length), .ref aY, .int (nI ms), .ref aM, .int (nI ip), .int (nI it), .int ir, .int (nI il), .ref bN, .ref bS, .ref bC, .ref bB, .ref bR, .ref bO, .ref aU])), (aO, .inl (cA 0, 66, .inl of))] H := hP
  have hD : va_D A [(mo, .inr (8, [.int (nI 0), .int (nI L.length), .ref ta, .int (nI np), .ref aN, .ref aS, .ref aC, .int (nI tot), .ref aB, .int (bz_c rd), .int (nI rt), .int (nI pl), .ref aR, .ref aO, .int (nI sg), .ref aW, .int (bz_c mp), .int (nI rn), .int (nI rs), .int (bz_c gd), .ref aD, .int (nI nh), .ref a1, .ref a2, .ref a3, .ref a4, .int (nI td), .ref aL, .int (nI J.length), .ref aY, .int (nI ms), .ref aM, .int (nI ip), .int (nI it), .int ir, .int (nI il), .ref bN, .ref bS, .ref bC, .ref bB, .ref bR, .ref bO, .ref aU])), (aO, .inl (cA 0, 66, .inl of))] := hD
  rcases hq7 with ⟨rfl, hq7⟩ | ⟨rfl, hq7⟩
  ·
    refine lv_if_eq (tgt := 27) hx hb d_Mo_steps_10 (by decide) (fun h9 => absurd h9 (by decide)) (fun _ => ?_)
    obtain ⟨hpl, hrt, hso⟩ := hr9 hq7.1
    obtain ⟨k, hk, rfl⟩ := px_num hpl hq7.2.1 hq7.2.2
    have hsk := hso k hk
    refine lv_aload_n hx hb d_Mo_steps_13 rfl (lv_at hl 0 rfl) ?_
    refine va_get (C := RX8) (T := TX8) (N := 43) hx hb hts inX8 hown hK hP 0 rfl rfl 13 (by decide) (hts _ m_858) (fun _ h9 => h9) rfl d_Mo_steps_14 ?_
    refine lv_iload_n hx hb d_Mo_steps_17 rfl (lv_at hl 1 rfl) ?_
    refine wn_iald hx hb hK hP 1 0 rfl rfl (by omega) (by omega) d_Mo_steps_18 ?_
    refine wn_eq (y := nI (so k)) hsk.1 ?_
    refine lv_aload_n hx hb d_Mo_steps_19 rfl (lv_at hl 0 rfl) ?_
    refine va_get (C := RX8) (T := TX8) (N := 43) hx hb hts inX8 hown hK hP 0 rfl rfl 10 (by decide) (hts _ m_855) (fun _ h9 => h9) rfl d_Mo_steps_20 ?_
    refine wn_irem (by omega) (by omega) (by omega) hx hb d_Mo_steps_23 ?_
    refine lv_goto (tgt := 28) hx hb d_Mo_steps_24 (by decide) ?_
    exact hret (nI ((so k) % rt)) () _ _ _ 28 d_Mo_steps_28 (by first | (rw [if_pos hq7.1, px_n hk hpl]; done) | exact (if_px hq7).symm) hP hD hS
  ·
    refine lv_if_eq (tgt := 27) hx hb d_Mo_steps_10 (by decide) (fun _ => ?_) (fun h9 => absurd h9 (by decide))
    refine lv_iconst (v := (-1)) hx hb d_Mo_steps_27 (by decide) ?_
    exact hret (-1) () _ _ _ 28 d_Mo_steps_28 (by first | (rw [if_pos hq7.1, px_n hk hpl]; done) | exact (if_px hq7).symm) hP hD hS
theorem k_Mo_steps : cf_V y_Mo_steps b_Mo_steps 2 (some .int) "ReadMapperModel" 1 := ⟨⟨m_1036, m_1037, m_9, m_1038⟩, by decide +kernel⟩
set_option maxHeartbeats 4000000 in
set_option maxRecDepth 100000 in
theorem c_Mo_before (l : Launch) (D : va_G) (cA : Nat → ClassId) (K : Nat → Nat) (mo ta aN aS aC aB aR aO aW aD a1 a2 a3 a4 aL aY aM bN bS bC bB bR bO aU : Nat) (rd mp gd : Bool) (zt ir : Int32) (np tot rt pl sg rn rs nh td ms ip it il : Nat) (L J : List Int32) (of : Nat → Int32) (rw : Nat → Int32) (so : Nat → Nat) (i : Nat) (hpl : pl ≤ 65) (ho : ∀ j, j < pl → of j = nI (so j) ∧ so j < pl) (hi : i < pl) : ck_I l y_Mo_before (Cond.code y_Mo_before b_Mo_before 2 (some .int) :: w_all) 1 D cA K [.ref mo, .int (nI i)] [(mo, .inr (8, [.int zt, .int (nI L.length), .ref ta, .int (nI np), .ref aN, .ref aS, .ref aC, .int (nI tot), .ref aB, .int (bz_c rd), .int (nI rt), .int (nI pl), .ref aR, .ref aO, .int (nI sg), .ref aW, .int (bz_c mp), .int (nI rn), .int (nI rs), .int (bz_c gd), .ref aD, .int (nI nh), .ref a1, .ref a2, .ref a3, .ref a4, .int (nI td), .ref aL, .int (nI J.length), .ref aY, .int (nI ms), .ref aM, .int (nI ip), .int (nI it), .int ir, .int (nI il), .ref bN, .ref bS, .ref bC, .ref bB, .ref bR, .ref bO, .ref aU])), (aR, .inl (cA 0, 66, .inl rw)), (aO, .inl (cA 0, 66, .inl of))] (fun (r : Int32) (u : Unit) => r = bf_c rw so i) (fun u => [(mo, .inr (8, [.int zt, .int (nI L.length), .ref ta, .int (nI np), .ref aN, .ref aS, .ref aC, .int (nI tot), .ref aB, .int (bz_c rd), .int (nI rt), .int (nI pl), .ref aR, .ref aO, .int (nI sg), .ref aW, .int (bz_c mp), .int (nI rn), .int (nI rs), .int (bz_c gd), .ref aD, .int (nI nh), .ref a1, .ref a2, .ref a3, .ref a4, .int (nI td), .ref aL, .int (nI J.length), .ref aY, .int (nI ms), .ref aM, .int (nI ip), .int (nI it), .int ir, .int (nI il), .ref bN, .ref bS, .ref bC, .ref bB, .ref bR, .ref bO, .ref aU])), (aR, .inl (cA 0, 66, .inl rw)), (aO, .inl (cA 0, 66, .inl of))]) := by
  refine ck_mkI (by decide) (fun _ _ _ => rfl) (Nat.le_of_ble_eq_true rfl) ?_
  intro pG eG sG mG argsG belowG methG cG Q A H locs ls hx hb hml hown hts hK hE hA hP hD hS hl hret
  have hl : lv_has ls 2 [(0, .ref mo), (1, .int (nI i))] := hl
  have hsi := ho i hi
  refine lv_aload_n hx hb d_Mo_before_0 rfl (lv_at hl 0 rfl) ?_
  refine va_get (C := RX8) (T := TX8) (N := 43) hx hb hts inX8 hown hK hP 0 rfl rfl 13 (by decide) (hts _ m_858) (fun _ h9 => h9) rfl d_Mo_before_1 ?_
  refine lv_iload_n hx hb d_Mo_before_4 rfl (lv_at hl 1 rfl) ?_
  refine wn_iald hx hb hK hP 2 0 rfl rfl (by omega) (by omega) d_Mo_before_5 ?_
  refine wn_eq (y := nI (so i)) hsi.1 ?_
  refine wn_if_ne (by omega) (tgt := 13) hx hb d_Mo_before_6 (by decide) ?_ ?_
  · intro h6
    refine lv_aload_n hx hb d_Mo_before_13 rfl (lv_at hl 0 rfl) ?_
    refine va_get (C := RX8) (T := TX8) (N := 43) hx hb hts inX8 hown hK hP 0 rfl rfl 12 (by decide) (hts _ m_857) (fun _ h9 => h9) rfl d_Mo_before_14 ?_
    refine lv_aload_n hx hb d_Mo_before_17 rfl (lv_at hl 0 rfl) ?_
    refine va_get (C := RX8) (T := TX8) (N := 43) hx hb hts inX8 hown hK hP 0 rfl rfl 13 (by decide) (hts _ m_858) (fun _ h9 => h9) rfl d_Mo_before_18 ?_
    refine lv_iload_n hx hb d_Mo_before_21 rfl (lv_at hl 1 rfl) ?_
    refine wn_iald hx hb hK hP 2 0 rfl rfl (by omega) (by omega) d_Mo_before_22 ?_
    refine wn_eq (y := nI (so i)) hsi.1 ?_
    refine lv_iconst (v := nI 1) hx hb d_Mo_before_23 (by decide) ?_
    refine wn_isub (by omega) hx hb d_Mo_before_24 ?_
    refine wn_iald hx hb hK hP 1 0 rfl rfl (by omega) (by omega) d_Mo_before_25 ?_
    exact hret (rw ((so i) - 1)) () _ _ _ 26 d_Mo_before_26 (by first | exact (if_pos h6).symm | exact (if_neg h6).symm) hP hD hS
  · intro h6
    refine lv_iconst (v := nI 0) hx hb d_Mo_before_9 (by decide) ?_
    refine lv_goto (tgt := 26) hx hb d_Mo_before_10 (by decide) ?_
    exact hret (nI 0) () _ _ _ 26 d_Mo_before_26 (by first | exact (if_pos h6).symm | exact (if_neg h6).symm) hP hD hS
theorem k_Mo_before : cf_V y_Mo_before b_Mo_before 2 (some .int) "ReadMapperModel" 1 := ⟨⟨m_1045, (wm_s (q := (y_Mo_before, 43)) (by decide +kernel)), m_9, m_1046⟩, by decide +kernel⟩
set_option maxHeartbeats 4000000 in
set_option maxRecDepth 100000 in
theorem c_Mo_turned (l : Launch) (D : va_G) (cA : Nat → ClassId) (K : Nat → Nat) (mo ta aN aS aC aB aR aO aW aD a1 a2 a3 a4 aL aY aM bN bS bC bB bR bO aU : Nat) (rd mp gd : Bool) (zt ir : Int32) (np tot rt pl sg rn rs nh td ms ip it il : Nat) (L J : List Int32) (of : Nat → Int32) (rw : Nat → Int32) (so : Nat → Nat) (i : Int32) (hr9 : rd = true → pl ≤ 65 ∧ ∀ j, j < pl → of j = nI (so j) ∧ so j < pl) : ck_I l y_Mo_turned (Cond.code y_Mo_turned b_Mo_turned 2 (some .int) :: w_all) 2 D cA K [.ref mo, .int i] [(mo, .inr (8, [.int zt, .int (nI L.length), .ref ta, .int (nI np), .ref aN, .ref aS, .ref aC, .int (nI tot), .ref aB, .int (bz_c rd), .int (nI rt), .int (nI pl), .ref aR, .ref aO, .int (nI sg), .ref aW, .int (bz_c mp), .int (nI rn), .int (nI rs), .int (bz_c gd), .ref aD, .int (nI nh), .ref a1, .ref a2, .ref a3, .ref a4, .int (nI td), .ref aL, .int (nI J.length), .ref aY, .int (nI ms), .ref aM, .int (nI ip), .int (nI it), .int ir, .int (nI il), .ref bN, .ref bS, .ref bC, .ref bB, .ref bR, .ref bO, .ref aU])), (aR, .inl (cA 0, 66, .inl rw)), (aO, .inl (cA 0, 66, .inl of))] (fun (r : Int32) (u : Unit) => r = if rd = true then px_c pl (bf_c rw so) i else -1) (fun u => [(mo, .inr (8, [.int (nI 0), .int (nI L.length), .ref ta, .int (nI np), .ref aN, .ref aS, .ref aC, .int (nI tot), .ref aB, .int (bz_c rd), .int (nI rt), .int (nI pl), .ref aR, .ref aO, .int (nI sg), .ref aW, .int (bz_c mp), .int (nI rn), .int (nI rs), .int (bz_c gd), .ref aD, .int (nI nh), .ref a1, .ref a2, .ref a3, .ref a4, .int (nI td), .ref aL, .int (nI J.length), .ref aY, .int (nI ms), .ref aM, .int (nI ip), .int (nI it), .int ir, .int (nI il), .ref bN, .ref bS, .ref bC, .ref bB, .ref bR, .ref bO, .ref aU])), (aR, .inl (cA 0, 66, .inl rw)), (aO, .inl (cA 0, 66, .inl of))]) := by
  refine ck_mkI (by decide) (fun _ _ _ => rfl) (Nat.le_of_ble_eq_true rfl) ?_
  intro pG eG sG mG argsG belowG methG cG Q A H locs ls hx hb hml hown hts hK hE hA hP hD hS hl hret
  have hl : lv_has ls 2 [(0, .ref mo), (1, .int i)] := hl
  refine lv_aload_n hx hb d_Mo_turned_0 rfl (lv_at hl 0 rfl) ?_
  refine lv_iconst (v := nI 0) hx hb d_Mo_turned_1 (by decide) ?_
  refine va_put (D := D) (ci := 8) (v := .int (nI 0)) (ty := .int) (C := RX8) (T := TX8) (N := 43) hx hb hts inX8 tyX8 tyX8_ok nmX8 hown hK hP hD hS 0 rfl rfl 0 (by decide) (hts _ m_845) (fun _ h9 => h9) rfl (by decide +kernel) rfl rfl (Nat.le_of_ble_eq_true rfl) d_Mo_turned_2 (fun H locs hP hD hS => ?_)
  have hP : va_P D vwCl [(mo, .inr (8, [.int (nI 0), .int (nI L.length), .ref ta, .int (nI np), .ref aN, .ref aS, .ref aC, .int (nI tot), .ref aB, .int (bz_c rd), .int (nI rt), .int (nI pl), .ref aR, .ref aO, .int (nI sg), .ref aW, .int (bz_c mp), .int (nI rn), .int (nI rs), .int (bz_c gd), .ref aD, .int (nI nh), .ref a1, .ref a2, .ref a3, .ref a4, .int (nI td), .ref aL, .int (nI J.length), .ref aY, .int (nI ms), .ref aM, .int (nI ip), .int (nI it), .int ir, .int (nI il), .ref bN, .ref bS, .ref bC, .ref bB, .ref bR, .ref bO, .ref aU])), (aR, .inl (cA 0, 66, .inl rw)), (aO, .inl (cA 0, 66, .inl of))] H := hP
  have hD : va_D A [(mo, .inr (8, [.int (nI 0), .int (nI L.length), .ref ta, .int (nI np), .ref aN, .ref aS, .ref aC, .int (nI tot), .ref aB, .int (bz_c rd), .int (nI rt), .int (nI pl), .ref aR, .ref aO, .int (nI sg), .ref aW, .int (bz_c mp), .int (nI rn), .int (nI rs), .int (bz_c gd), .ref aD, .int (nI nh), .ref a1, .ref a2, .ref a3, .ref a4, .int (nI td), .ref aL, .int (nI J.length), .ref aY, .int (nI ms), .ref aM, .int (nI ip), .int (nI it), .int ir, .int (nI il), .ref bN, .ref bS, .ref bC, .ref bB, .ref bR, .ref bO, .ref aU])), (aR, .inl (cA 0, 66, .inl rw)), (aO, .inl (cA 0, 66, .inl of))] := hD
  refine lv_aload_n hx hb d_Mo_turned_5 rfl (lv_at hl 0 rfl) ?_
  refine lv_iload_n hx hb d_Mo_turned_6 rfl (lv_at hl 1 rfl) ?_
  refine ck_cV (C := "ReadMapperModel") (ci := 8) (rest := []) (wr := [(aR, .inl (cA 0, 66, .inl rw)), (aO, .inl (cA 0, 66, .inl of))]) (ws2 := fun u => [(mo, .inr (8, [.int (nI 0), .int (nI L.length), .ref ta, .int (nI np), .ref aN, .ref aS, .ref aC, .int (nI tot), .ref aB, .int (bz_c rd), .int (nI rt), .int (nI pl), .ref aR, .ref aO, .int (nI sg), .ref aW, .int (bz_c mp), .int (nI rn), .int (nI rs), .int (bz_c gd), .ref aD, .int (nI nh), .ref a1, .ref a2, .ref a3, .ref a4, .int (nI td), .ref aL, .int (nI J.length), .ref aY, .int (nI ms), .ref aM, .int (nI ip), .int (nI it), .int ir, .int (nI il), .ref bN, .ref bS, .ref bC, .ref bB, .ref bR, .ref bO, .ref aU])), (aR, .inl (cA 0, 66, .inl rw)), (aO, .inl (cA 0, 66, .inl of))]) (c_Mo_isEnding l D cA K mo ta aN aS aC aB aR aO aW aD a1 a2 a3 a4 aL aY aM bN bS bC bB bR bO aU rd mp gd (nI 0) ir np tot rt pl sg rn rs nh td ms ip it il L J i ) hx hb hml hown hts hK hE hA hP hD hS k_Mo_isEnding m_1031 (by decide) 0 rfl rfl rfl hl.1 rfl (Nat.le_of_ble_eq_true rfl) d_Mo_turned_7  [0] [1, 2] [2, 0, 1] rfl rfl (by decide) (fun _ => rfl) (fun r7 u7 H locs hq7 hP hD hS => ?_)
  try dsimp only at hq7
  have hP : va_P D vwCl [(mo, .inr (8, [.int (nI 0), .int (nI L.length), .ref ta, .int (nI np), .ref aN, .ref aS, .ref aC, .int (nI tot), .ref aB, .int (bz_c rd), .int (nI rt), .int (nI pl), .ref aR, .ref aO, .int (nI sg), .ref aW, .int (bz_c mp), .int (nI rn), .int (nI rs), .int (bz_c gd), .ref aD, .int (nI nh), .ref a1, .ref a2, .ref a3, .ref a4, .int (nI td), .ref aL, .int (nI J.length), .ref aY, .int (nI ms), .ref aM, .int (nI ip), .int (nI it), .int ir, .int (nI il), .ref bN, .ref bS, .ref bC, .ref bB, .ref bR, .ref bO, .ref aU])), (aR, .inl (cA 0, 66, .inl rw)), (aO, .inl (cA 0, 66, .inl of))] H := hP
  have hD : va_D A [(mo, .inr (8, [.int (nI 0), .int (nI L.length), .ref ta, .int (nI np), .ref aN, .ref aS, .ref aC, .int (nI tot), .ref aB, .int (bz_c rd), .int (nI rt), .int (nI pl), .ref aR, .ref aO, .int (nI sg), .ref aW, .int (bz_c mp), .int (nI rn), .int (nI rs), .int (bz_c gd), .ref aD, .int (nI nh), .ref a1, .ref a2, .ref a3, .ref a4, .int (nI td), .ref aL, .int (nI J.length), .ref aY, .int (nI ms), .ref aM, .int (nI ip), .int (nI it), .int ir, .int (nI il), .ref bN, .ref bS, .ref bC, .ref bB, .ref bR, .ref bO, .ref aU])), (aR, .inl (cA 0, 66, .inl rw)), (aO, .inl (cA 0, 66, .inl of))] := hD
  rcases hq7 with ⟨rfl, hq7⟩ | ⟨rfl, hq7⟩
  ·
    refine lv_if_eq (tgt := 21) hx hb d_Mo_turned_10 (by decide) (fun h9 => absurd h9 (by decide)) (fun _ => ?_)
    obtain ⟨hpl, hso⟩ := hr9 hq7.1
    obtain ⟨k, hk, rfl⟩ := px_num hpl hq7.2.1 hq7.2.2
    refine lv_aload_n hx hb d_Mo_turned_13 rfl (lv_at hl 0 rfl) ?_
    refine lv_iload_n hx hb d_Mo_turned_14 rfl (lv_at hl 1 rfl) ?_
    refine ck_cV (C := "ReadMapperModel") (ci := 8) (rest := []) (wr := []) (ws2 := fun u => [(mo, .inr (8, [.int (nI 0), .int (nI L.length), .ref ta, .int (nI np), .ref aN, .ref aS, .ref aC, .int (nI tot), .ref aB, .int (bz_c rd), .int (nI rt), .int (nI pl), .ref aR, .ref aO, .int (nI sg), .ref aW, .int (bz_c mp), .int (nI rn), .int (nI rs), .int (bz_c gd), .ref aD, .int (nI nh), .ref a1, .ref a2, .ref a3, .ref a4, .int (nI td), .ref aL, .int (nI J.length), .ref aY, .int (nI ms), .ref aM, .int (nI ip), .int (nI it), .int ir, .int (nI il), .ref bN, .ref bS, .ref bC, .ref bB, .ref bR, .ref bO, .ref aU])), (aR, .inl (cA 0, 66, .inl rw)), (aO, .inl (cA 0, 66, .inl of))]) (c_Mo_before l D cA K mo ta aN aS aC aB aR aO aW aD a1 a2 a3 a4 aL aY aM bN bS bC bB bR bO aU rd mp gd (nI 0) ir np tot rt pl sg rn rs nh td ms ip it il L J of rw so k (by first | assumption | omega) (by first | assumption | omega) (by first | assumption | omega)) hx hb hml hown hts hK hE hA hP hD hS k_Mo_before m_1043 (by decide) 0 rfl rfl rfl hl.1 rfl (Nat.le_of_ble_eq_true rfl) d_Mo_turned_15  [0, 1, 2] [] [0, 1, 2] rfl rfl (by decide) (fun _ => rfl) (fun r15 u15 H locs hq15 hP hD hS => ?_)
    try dsimp only at hq15
    have hP : va_P D vwCl [(mo, .inr (8, [.int (nI 0), .int (nI L.length), .ref ta, .int (nI np), .ref aN, .ref aS, .ref aC, .int (nI tot), .ref aB, .int (bz_c rd), .int (nI rt), .int (nI pl), .ref aR, .ref aO, .int (nI sg), .ref aW, .int (bz_c mp), .int (nI rn), .int (nI rs), .int (bz_c gd), .ref aD, .int (nI nh), .ref a1, .ref a2, .ref a3, .ref a4, .int (nI td), .ref aL, .int (nI J.length), .ref aY, .int (nI ms), .ref aM, .int (nI ip), .int (nI it), .int ir, .int (nI il), .ref bN, .ref bS, .ref bC, .ref bB, .ref bR, .ref bO, .ref aU])), (aR, .inl (cA 0, 66, .inl rw)), (aO, .inl (cA 0, 66, .inl of))] H := hP
    have hD : va_D A [(mo, .inr (8, [.int (nI 0), .int (nI L.length), .ref ta, .int (nI np), .ref aN, .ref aS, .ref aC, .int (nI tot), .ref aB, .int (bz_c rd), .int (nI rt), .int (nI pl), .ref aR, .ref aO, .int (nI sg), .ref aW, .int (bz_c mp), .int (nI rn), .int (nI rs), .int (bz_c gd), .ref aD, .int (nI nh), .ref a1, .ref a2, .ref a3, .ref a4, .int (nI td), .ref aL, .int (nI J.length), .ref aY, .int (nI ms), .ref aM, .int (nI ip), .int (nI it), .int ir, .int (nI il), .ref bN, .ref bS, .ref bC, .ref bB, .ref bR, .ref bO, .ref aU])), (aR, .inl (cA 0, 66, .inl rw)), (aO, .inl (cA 0, 66, .inl of))] := hD
    subst r15
    refine lv_goto (tgt := 22) hx hb d_Mo_turned_18 (by decide) ?_
    exact hret (bf_c rw so k) () _ _ _ 22 d_Mo_turned_22 (by first | exact ((if_pos hq7.1).trans (px_n hk hpl)).symm | exact (if_px hq7).symm) hP hD hS
  ·
    refine lv_if_eq (tgt := 21) hx hb d_Mo_turned_10 (by decide) (fun _ => ?_) (fun h9 => absurd h9 (by decide))
    refine lv_iconst (v := (-1)) hx hb d_Mo_turned_21 (by decide) ?_
    exact hret (-1) () _ _ _ 22 d_Mo_turned_22 (by first | exact ((if_pos hq7.1).trans (px_n hk hpl)).symm | exact (if_px hq7).symm) hP hD hS
theorem k_Mo_turned : cf_V y_Mo_turned b_Mo_turned 2 (some .int) "ReadMapperModel" 1 := ⟨⟨m_1040, m_1041, m_9, m_1042⟩, by decide +kernel⟩
set_option maxHeartbeats 4000000 in
set_option maxRecDepth 100000 in
theorem c_Mo_occ (l : Launch) (D : va_G) (cA : Nat → ClassId) (K : Nat → Nat) (mo ta aN aS aC aB aR aO aW aD a1 a2 a3 a4 aL aY aM bN bS bC bB bR bO aU : Nat) (rd mp gd : Bool) (zt ir : Int32) (np tot rt pl sg rn rs nh td ms ip it il : Nat) (L J : List Int32) (of : Nat → Int32) (rw : Nat → Int32) (so : Nat → Nat) (x i : Int32) (hr9 : rd = true → pl ≤ 65 ∧ ∀ j, j < pl → of j = nI (so j) ∧ so j < pl) : ck_I l y_Mo_occ (Cond.code y_Mo_occ b_Mo_occ 5 (some .int) :: w_all) 2 D cA K [.ref mo, .int x, .int i] [(mo, .inr (8, [.int zt, .int (nI L.length), .ref ta, .int (nI np), .ref aN, .ref aS, .ref aC, .int (nI tot), .ref aB, .int (bz_c rd), .int (nI rt), .int (nI pl), .ref aR, .ref aO, .int (nI sg), .ref aW, .int (bz_c mp), .int (nI rn), .int (nI rs), .int (bz_c gd), .ref aD, .int (nI nh), .ref a1, .ref a2, .ref a3, .ref a4, .int (nI td), .ref aL, .int (nI J.length), .ref aY, .int (nI ms), .ref aM, .int (nI ip), .int (nI it), .int ir, .int (nI il), .ref bN, .ref bS, .ref bC, .ref bB, .ref bR, .ref bO, .ref aU])), (aR, .inl (cA 0, 66, .inl rw)), (aO, .inl (cA 0, 66, .inl of))] (fun (r : Int32) (u : Unit) => ((rd = true ∧ (¬ x < 0 ∧ ¬ nI 7 ≤ x) ∧ (¬ i < 0 ∧ i ≤ nI pl)) ∧ r = nI (ct_c (bf_c rw so) x i.toNatClampNeg)) ∨ (¬ (rd = true ∧ (¬ x < 0 ∧ ¬ nI 7 ≤ x) ∧ (¬ i < 0 ∧ i ≤ nI pl)) ∧ r = -1)) (fun u => [(mo, .inr (8, [.int (nI 0), .int (nI L.length), .ref ta, .int (nI np), .ref aN, .ref aS, .ref aC, .int (nI tot), .ref aB, .int (bz_c rd), .int (nI rt), .int (nI pl), .ref aR, .ref aO, .int (nI sg), .ref aW, .int (bz_c mp), .int (nI rn), .int (nI rs), .int (bz_c gd), .ref aD, .int (nI nh), .ref a1, .ref a2, .ref a3, .ref a4, .int (nI td), .ref aL, .int (nI J.length), .ref aY, .int (nI ms), .ref aM, .int (nI ip), .int (nI it), .int ir, .int (nI il), .ref bN, .ref bS, .ref bC, .ref bB, .ref bR, .ref bO, .ref aU])), (aR, .inl (cA 0, 66, .inl rw)), (aO, .inl (cA 0, 66, .inl of))]) := by
  refine ck_mkI (by decide) (fun _ _ _ => rfl) (Nat.le_of_ble_eq_true rfl) ?_
  intro pG eG sG mG argsG belowG methG cG Q A H locs ls hx hb hml hown hts hK hE hA hP hD hS hl hret
  have hl : lv_has ls 5 [(0, .ref mo), (1, .int x), (2, .int i)] := hl
  refine lv_aload_n hx hb d_Mo_occ_0 rfl (lv_at hl 0 rfl) ?_
  refine lv_iconst (v := nI 0) hx hb d_Mo_occ_1 (by decide) ?_
  refine va_put (D := D) (ci := 8) (v := .int (nI 0)) (ty := .int) (C := RX8) (T := TX8) (N := 43) hx hb hts inX8 tyX8 tyX8_ok nmX8 hown hK hP hD hS 0 rfl rfl 0 (by decide) (hts _ m_845) (fun _ h9 => h9) rfl (by decide +kernel) rfl rfl (Nat.le_of_ble_eq_true rfl) d_Mo_occ_2 (fun H locs hP hD hS => ?_)
  have hP : va_P D vwCl [(mo, .inr (8, [.int (nI 0), .int (nI L.length), .ref ta, .int (nI np), .ref aN, .ref aS, .ref aC, .int (nI tot), .ref aB, .int (bz_c rd), .int (nI rt), .int (nI pl), .ref aR, .ref aO, .int (nI sg), .ref aW, .int (bz_c mp), .int (nI rn), .int (nI rs), .int (bz_c gd), .ref aD, .int (nI nh), .ref a1, .ref a2, .ref a3, .ref a4, .int (nI td), .ref aL, .int (nI J.length), .ref aY, .int (nI ms), .ref aM, .int (nI ip), .int (nI it), .int ir, .int (nI il), .ref bN, .ref bS, .ref bC, .ref bB, .ref bR, .ref bO, .ref aU])), (aR, .inl (cA 0, 66, .inl rw)), (aO, .inl (cA 0, 66, .inl of))] H := hP
  have hD : va_D A [(mo, .inr (8, [.int (nI 0), .int (nI L.length), .ref ta, .int (nI np), .ref aN, .ref aS, .ref aC, .int (nI tot), .ref aB, .int (bz_c rd), .int (nI rt), .int (nI pl), .ref aR, .ref aO, .int (nI sg), .ref aW, .int (bz_c mp), .int (nI rn), .int (nI rs), .int (bz_c gd), .ref aD, .int (nI nh), .ref a1, .ref a2, .ref a3, .ref a4, .int (nI td), .ref aL, .int (nI J.length), .ref aY, .int (nI ms), .ref aM, .int (nI ip), .int (nI it), .int ir, .int (nI il), .ref bN, .ref bS, .ref bC, .ref bB, .ref bR, .ref bO, .ref aU])), (aR, .inl (cA 0, 66, .inl rw)), (aO, .inl (cA 0, 66, .inl of))] := hD
  refine lv_aload_n hx hb d_Mo_occ_5 rfl (lv_at hl 0 rfl) ?_
  refine va_get (C := RX8) (T := TX8) (N := 43) hx hb hts inX8 hown hK hP 0 rfl rfl 9 (by decide) (hts _ m_854) (fun _ h9 => h9) rfl d_Mo_occ_6 ?_
  refine lv_if_eq (tgt := 34) hx hb d_Mo_occ_9 (by decide) ?_ ?_
  · intro h9
    refine lv_iconst (v := (-1)) hx hb d_Mo_occ_34 (by decide) ?_
    exact hret (-1) () _ _ _ 35 d_Mo_occ_35 (by first | exact Or.inr ⟨fun z => bz_n h9 z.1, rfl⟩ | exact Or.inr ⟨fun z => z.2.1.1 h13, rfl⟩ | exact Or.inr ⟨fun z => z.2.1.2 (oc_6 h19), rfl⟩ | exact Or.inr ⟨fun z => z.2.2.1 h23, rfl⟩ | exact Or.inr ⟨fun z => h31 z.2.2.2, rfl⟩) hP hD hS
  · intro h9
    refine lv_iload_n hx hb d_Mo_occ_12 rfl (lv_at hl 1 rfl) ?_
    refine lv_if_lt (tgt := 34) hx hb d_Mo_occ_13 (by decide) ?_ ?_
    · intro h13
      refine lv_iconst (v := (-1)) hx hb d_Mo_occ_34 (by decide) ?_
      exact hret (-1) () _ _ _ 35 d_Mo_occ_35 (by first | exact Or.inr ⟨fun z => bz_n h9 z.1, rfl⟩ | exact Or.inr ⟨fun z => z.2.1.1 h13, rfl⟩ | exact Or.inr ⟨fun z => z.2.1.2 (oc_6 h19), rfl⟩ | exact Or.inr ⟨fun z => z.2.2.1 h23, rfl⟩ | exact Or.inr ⟨fun z => h31 z.2.2.2, rfl⟩) hP hD hS
    · intro h13
      refine lv_iload_n hx hb d_Mo_occ_16 rfl (lv_at hl 1 rfl) ?_
      refine lv_bipush (v := 6) hx hb d_Mo_occ_17 (by decide) ?_
      refine lv_icmp_gt (tgt := 34) hx hb d_Mo_occ_19 (by decide) ?_ ?_
      · intro h19
        refine lv_iconst (v := (-1)) hx hb d_Mo_occ_34 (by decide) ?_
        exact hret (-1) () _ _ _ 35 d_Mo_occ_35 (by first | exact Or.inr ⟨fun z => bz_n h9 z.1, rfl⟩ | exact Or.inr ⟨fun z => z.2.1.1 h13, rfl⟩ | exact Or.inr ⟨fun z => z.2.1.2 (oc_6 h19), rfl⟩ | exact Or.inr ⟨fun z => z.2.2.1 h23, rfl⟩ | exact Or.inr ⟨fun z => h31 z.2.2.2, rfl⟩) hP hD hS
      · intro h19
        refine lv_iload_n hx hb d_Mo_occ_22 rfl (lv_at hl 2 rfl) ?_
        refine lv_if_lt (tgt := 34) hx hb d_Mo_occ_23 (by decide) ?_ ?_
        · intro h23
          refine lv_iconst (v := (-1)) hx hb d_Mo_occ_34 (by decide) ?_
          exact hret (-1) () _ _ _ 35 d_Mo_occ_35 (by first | exact Or.inr ⟨fun z => bz_n h9 z.1, rfl⟩ | exact Or.inr ⟨fun z => z.2.1.1 h13, rfl⟩ | exact Or.inr ⟨fun z => z.2.1.2 (oc_6 h19), rfl⟩ | exact Or.inr ⟨fun z => z.2.2.1 h23, rfl⟩ | exact Or.inr ⟨fun z => h31 z.2.2.2, rfl⟩) hP hD hS
        · intro h23
          refine lv_iload_n hx hb d_Mo_occ_26 rfl (lv_at hl 2 rfl) ?_
          refine lv_aload_n hx hb d_Mo_occ_27 rfl (lv_at hl 0 rfl) ?_
          refine va_get (C := RX8) (T := TX8) (N := 43) hx hb hts inX8 hown hK hP 0 rfl rfl 11 (by decide) (hts _ m_856) (fun _ h9 => h9) rfl d_Mo_occ_28 ?_
          refine lv_icmp_le (tgt := 36) hx hb d_Mo_occ_31 (by decide) ?_ ?_
          · intro h31
            obtain ⟨hpl, hso⟩ := hr9 (bz_1 h9)
            obtain ⟨n, hn, rfl⟩ := oc_num hpl h23 h31
            refine lv_iconst (v := nI 0) hx hb d_Mo_occ_36 (by decide) ?_
            refine lv_istore_n (lv' := [(3, .int (nI 0)), (0, .ref mo), (1, .int x), (2, .int (nI n))]) hx hb d_Mo_occ_37 rfl hl (by decide) rfl (fun ls hl => ?_)
            refine lv_iconst (v := nI 0) hx hb d_Mo_occ_38 (by decide) ?_
            refine lv_istore (lv' := [(4, .int (nI 0)), (3, .int (nI 0)), (0, .ref mo), (1, .int x), (2, .int (nI n))]) hx hb d_Mo_occ_39 hl (by decide) rfl (fun ls hl => ?_)
            have L41 : ∀ (nG : Nat) (c k : Nat) (H : Heap) (locs : List Loc) (ls : Array Slot), n - k = nG → (k ≤ n) → (c = ct_c (bf_c rw so) x k) →  va_P D vwCl [(mo, .inr (8, [.int (nI 0), .int (nI L.length), .ref ta, .int (nI np), .ref aN, .ref aS, .ref aC, .int (nI tot), .ref aB, .int (bz_c rd), .int (nI rt), .int (nI pl), .ref aR, .ref aO, .int (nI sg), .ref aW, .int (bz_c mp), .int (nI rn), .int (nI rs), .int (bz_c gd), .ref aD, .int (nI nh), .ref a1, .ref a2, .ref a3, .ref a4, .int (nI td), .ref aL, .int (nI J.length), .ref aY, .int (nI ms), .ref aM, .int (nI ip), .int (nI it), .int ir, .int (nI il), .ref bN, .ref bS, .ref bC, .ref bB, .ref bR, .ref bO, .ref aU])), (aR, .inl (cA 0, 66, .inl rw)), (aO, .inl (cA 0, 66, .inl of))] H → va_D A [(mo, .inr (8, [.int (nI 0), .int (nI L.length), .ref ta, .int (nI np), .ref aN, .ref aS, .ref aC, .int (nI tot), .ref aB, .int (bz_c rd), .int (nI rt), .int (nI pl), .ref aR, .ref aO, .int (nI sg), .ref aW, .int (bz_c mp), .int (nI rn), .int (nI rs), .int (bz_c gd), .ref aD, .int (nI nh), .ref a1, .ref a2, .ref a3, .ref a4, .int (nI td), .ref aL, .int (nI J.length), .ref aY, .int (nI ms), .ref aM, .int (nI ip), .int (nI it), .int ir, .int (nI il), .ref bN, .ref bS, .ref bC, .ref bB, .ref bR, .ref bO, .ref aU])), (aR, .inl (cA 0, 66, .inl rw)), (aO, .inl (cA 0, 66, .inl of))] → va_S A sG.heap H locs → lv_has ls 5 [(0, .ref mo), (1, .int x), (2, .int (nI n)), (3, .int (nI c)), (4, .int (nI k))] → W pG l eG (rm_d 2) sG mG argsG belowG methG cG H locs 0 0 Q (F0 mG 41 ls []) := by
              intro nG
              induction nG using Nat.strongRecOn with
              | ind nG ih41 =>
                intro c k H locs ls hn41 hk hc9 hP hD hS hl
                have hcl := ct_le (bf_c rw so) x k
                rw [← hc9] at hcl
                refine lv_iload hx hb d_Mo_occ_41 (lv_at hl 4 rfl) ?_
                refine lv_iload_n hx hb d_Mo_occ_43 rfl (lv_at hl 2 rfl) ?_
                refine wn_icmp_ge (by omega) (by omega) (tgt := 71) hx hb d_Mo_occ_44 (by decide) ?_ ?_
                · intro h44
                  refine lv_iload_n hx hb d_Mo_occ_71 rfl (lv_at hl 3 rfl) ?_
                  exact hret (nI c) () _ _ _ 72 d_Mo_occ_72 (Or.inl ⟨⟨bz_1 h9, ⟨h13, oc_7 h19⟩, h23, h31⟩, by rw [nI_clamp (by omega), hc9, show k = n by omega]⟩) hP hD hS
                · intro h44
                  refine lv_aload_n hx hb d_Mo_occ_47 rfl (lv_at hl 0 rfl) ?_
                  refine lv_iload hx hb d_Mo_occ_48 (lv_at hl 4 rfl) ?_
                  refine ck_cV (C := "ReadMapperModel") (ci := 8) (rest := []) (wr := []) (ws2 := fun u => [(mo, .inr (8, [.int (nI 0), .int (nI L.length), .ref ta, .int (nI np), .ref aN, .ref aS, .ref aC, .int (nI tot), .ref aB, .int (bz_c rd), .int (nI rt), .int (nI pl), .ref aR, .ref aO, .int (nI sg), .ref aW, .int (bz_c mp), .int (nI rn), .int (nI rs), .int (bz_c gd), .ref aD, .int (nI nh), .ref a1, .ref a2, .ref a3, .ref a4, .int (nI td), .ref aL, .int (nI J.length), .ref aY, .int (nI ms), .ref aM, .int (nI ip), .int (nI it), .int ir, .int (nI il), .ref bN, .ref bS, .ref bC, .ref bB, .ref bR, .ref bO, .ref aU])), (aR, .inl (cA 0, 66, .inl rw)), (aO, .inl (cA 0, 66, .inl of))]) (c_Mo_before l D cA K mo ta aN aS aC aB aR aO aW aD a1 a2 a3 a4 aL aY aM bN bS bC bB bR bO aU rd mp gd (nI 0) ir np tot rt pl sg rn rs nh td ms ip it il L J of rw so k (by first | assumption | omega) (by first | assumption | omega) (by first | assumption | omega)) hx hb hml hown hts hK hE hA hP hD hS k_Mo_before m_1043 (by decide) 0 rfl rfl rfl hl.1 rfl (Nat.le_of_ble_eq_true rfl) d_Mo_occ_50  [0, 1, 2] [] [0, 1, 2] rfl rfl (by decide) (fun _ => rfl) (fun r50 u50 H locs hq50 hP hD hS => ?_)
                  try dsimp only at hq50
                  have hP : va_P D vwCl [(mo, .inr (8, [.int (nI 0), .int (nI L.length), .ref ta, .int (nI np), .ref aN, .ref aS, .ref aC, .int (nI tot), .ref aB, .int (bz_c rd), .int (nI rt), .int (nI pl), .ref aR, .ref aO, .int (nI sg), .ref aW, .int (bz_c mp), .int (nI rn), .int (nI rs), .int (bz_c gd), .ref aD, .int (nI nh), .ref a1, .ref a2, .ref a3, .ref a4, .int (nI td), .ref aL, .int (nI J.length), .ref aY, .int (nI ms), .ref aM, .int (nI ip), .int (nI it), .int ir, .int (nI il), .ref bN, .ref bS, .ref bC, .ref bB, .ref bR, .ref bO, .ref aU])), (aR, .inl (cA 0, 66, .inl rw)), (aO, .inl (cA 0, 66, .inl of))] H := hP
                  have hD : va_D A [(mo, .inr (8, [.int (nI 0), .int (nI L.length), .ref ta, .int (nI np), .ref aN, .ref aS, .ref aC, .int (nI tot), .ref aB, .int (bz_c rd), .int (nI rt), .int (nI pl), .ref aR, .ref aO, .int (nI sg), .ref aW, .int (bz_c mp), .int (nI rn), .int (nI rs), .int (bz_c gd), .ref aD, .int (nI nh), .ref a1, .ref a2, .ref a3, .ref a4, .int (nI td), .ref aL, .int (nI J.length), .ref aY, .int (nI ms), .ref aM, .int (nI ip), .int (nI it), .int ir, .int (nI il), .ref bN, .ref bS, .ref bC, .ref bB, .ref bR, .ref bO, .ref aU])), (aR, .inl (cA 0, 66, .inl rw)), (aO, .inl (cA 0, 66, .inl of))] := hD
                  subst r50
                  refine lv_iload_n hx hb d_Mo_occ_53 rfl (lv_at hl 1 rfl) ?_
                  refine lv_icmp_ne (tgt := 63) hx hb d_Mo_occ_54 (by decide) ?_ ?_
                  · intro h54
                    refine lv_iload_n hx hb d_Mo_occ_63 rfl (lv_at hl 3 rfl) ?_
                    refine lv_istore_n (lv' := [(3, .int (nI c)), (0, .ref mo), (1, .int x), (2, .int (nI n)), (4, .int (nI k))]) hx hb d_Mo_occ_64 rfl hl (by decide) rfl (fun ls hl => ?_)
                    refine lv_iinc (k := 4) (v := nI (k + 1)) (lv' := [(4, .int (nI (k + 1))), (3, .int (nI c)), (0, .ref mo), (1, .int x), (2, .int (nI n))]) hx hb d_Mo_occ_65 hl rfl (wi_inc1 _) (by decide) rfl (fun ls hl => ?_)
                    refine lv_goto (tgt := 41) hx hb d_Mo_occ_68 (by decide) ?_
                    exact ih41 _ (by omega) c (k + 1) _ _ _ rfl (by first | assumption | omega) (by first | exact ct_1 hc9 h54 | exact ct_0 hc9 h54) hP hD hS (lv_sub hl [2, 3, 4, 1, 0] rfl)
                  · intro h54
                    refine lv_iload_n hx hb d_Mo_occ_57 rfl (lv_at hl 3 rfl) ?_
                    refine lv_iconst (v := nI 1) hx hb d_Mo_occ_58 (by decide) ?_
                    refine wn_iadd hx hb d_Mo_occ_59 ?_
                    refine lv_goto (tgt := 64) hx hb d_Mo_occ_60 (by decide) ?_
                    refine lv_istore_n (lv' := [(3, .int (nI (c + 1))), (0, .ref mo), (1, .int x), (2, .int (nI n)), (4, .int (nI k))]) hx hb d_Mo_occ_64 rfl hl (by decide) rfl (fun ls hl => ?_)
                    refine lv_iinc (k := 4) (v := nI (k + 1)) (lv' := [(4, .int (nI (k + 1))), (3, .int (nI (c + 1))), (0, .ref mo), (1, .int x), (2, .int (nI n))]) hx hb d_Mo_occ_65 hl rfl (wi_inc1 _) (by decide) rfl (fun ls hl => ?_)
                    refine lv_goto (tgt := 41) hx hb d_Mo_occ_68 (by decide) ?_
                    exact ih41 _ (by omega) (c + 1) (k + 1) _ _ _ rfl (by first | assumption | omega) (by first | exact ct_1 hc9 h54 | exact ct_0 hc9 h54) hP hD hS (lv_sub hl [2, 3, 4, 1, 0] rfl)
            exact L41 _ 0 0 _ _ _ rfl (by first | assumption | omega) rfl hP hD hS (lv_sub hl [2, 3, 4, 1, 0] rfl)
          · intro h31
            refine lv_iconst (v := (-1)) hx hb d_Mo_occ_34 (by decide) ?_
            exact hret (-1) () _ _ _ 35 d_Mo_occ_35 (by first | exact Or.inr ⟨fun z => bz_n h9 z.1, rfl⟩ | exact Or.inr ⟨fun z => z.2.1.1 h13, rfl⟩ | exact Or.inr ⟨fun z => z.2.1.2 (oc_6 h19), rfl⟩ | exact Or.inr ⟨fun z => z.2.2.1 h23, rfl⟩ | exact Or.inr ⟨fun z => h31 z.2.2.2, rfl⟩) hP hD hS
theorem k_Mo_occ : cf_V y_Mo_occ b_Mo_occ 5 (some .int) "ReadMapperModel" 2 := ⟨⟨m_1048, m_1049, m_9, m_1050⟩, by decide +kernel⟩
