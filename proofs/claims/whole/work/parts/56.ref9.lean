/-! the reference: the pieces of an image -/
theorem bn_p {J : List Int32} {i : Nat} (hby : ∀ j, j < J.length → ∃ k, k < 256 ∧ J.getD j 0 = nI k) (hL : J.length ≤ 1000) (hi : i ≤ 2000) (h : ¬ at_c J (nI i) < 1) : at_c J (nI i) = nI (bn_c J i) ∧ 1 ≤ bn_c J i ∧ bn_c J i < 256 ∧ i < J.length := by
  have hlt : i < J.length := by
    rcases Nat.lt_or_ge i J.length with z | z
    · exact z
    · rw [at_o z (by omega)] at h; exact absurd (by decide) h
  rcases bn_at hby hL (by omega : i ≤ 3000) with ⟨a, b⟩ | ⟨k, a, b, c⟩
  · rw [a] at h; exact absurd (by decide) h
  · rw [b] at h
    refine ⟨by rw [b, c], ?_, by omega, hlt⟩
    rcases Nat.eq_zero_or_pos k with z | z
    · rw [z] at h; exact absurd (by decide) h
    · omega
theorem bn_m {J : List Int32} {i n : Nat} {x : Int32} {m : Nat} (hx : x.toInt = m) (h : at_c J (nI i) = nI n) (h2 : at_c J (nI i) ≤ x) (hn : n < 256) : n ≤ m := by
  rw [h] at h2
  have := Int32.le_iff_toInt_le.mp h2
  rw [nI_toInt (by omega), hx] at this
  omega
theorem bn_x1 {J : List Int32} {i : Nat} (hby : ∀ j, j < J.length → ∃ k, k < 256 ∧ J.getD j 0 = nI k) (hL : J.length ≤ 1000) (hi : i ≤ 2000) (h : at_c J (nI i) < 1) (z : 1 ≤ bn_c J i) : False := by
  rcases bn_at hby hL (by omega : i ≤ 3000) with ⟨a, b⟩ | ⟨k, a, b, c⟩
  · omega
  · rw [b] at h
    have := Int32.lt_iff_toInt_lt.mp h
    rw [nI_toInt (by omega), show (1 : Int32).toInt = 1 from rfl] at this
    omega
theorem bn_x2 {J : List Int32} {i m : Nat} {x : Int32} (hx : x.toInt = m) (hby : ∀ j, j < J.length → ∃ k, k < 256 ∧ J.getD j 0 = nI k) (hL : J.length ≤ 1000) (hi : i ≤ 2000) (h : ¬ at_c J (nI i) ≤ x) (z : bn_c J i ≤ m) : False := by
  have h := mt Int32.le_iff_toInt_le.mpr h
  rw [hx] at h
  rcases bn_at hby hL (by omega : i ≤ 3000) with ⟨a, b⟩ | ⟨k, a, b, c⟩
  · rw [a, show (-1 : Int32).toInt = -1 from rfl] at h; omega
  · rw [b, nI_toInt (by omega)] at h; omega
theorem bn_neg {J : List Int32} {i : Nat} (hby : ∀ j, j < J.length → ∃ k, k < 256 ∧ J.getD j 0 = nI k) (hL : J.length ≤ 1000) (hi : i ≤ 2000) (h : at_c J (nI i) < 0) : J.length ≤ i := by
  rcases Nat.lt_or_ge i J.length with z | z
  · rw [at_n z hL] at h
    obtain ⟨k, hk, e⟩ := hby i z
    rw [e] at h
    exact absurd h (nI_pos (by omega))
  · exact z
theorem bn_ch {J : List Int32} {i : Nat} (hby : ∀ j, j < J.length → ∃ k, k < 256 ∧ J.getD j 0 = nI k) (hL : J.length ≤ 1000) (hi : i ≤ 2000) (h : ¬ at_c J (nI i) < 0) : ch_p (at_c J (nI i)) ∧ i < J.length ∧ at_c J (nI i) = J.getD i 0 := by
  have hlt : i < J.length := by
    rcases Nat.lt_or_ge i J.length with z | z
    · exact z
    · rw [at_o z (by omega)] at h; exact absurd (by decide) h
  refine ⟨?_, hlt, at_n hlt hL⟩
  rw [at_n hlt hL]
  obtain ⟨k, hk, e⟩ := hby i hlt
  rw [e]
  exact ch_nI (by omega)
theorem rj_1 {J : List Int32} {i p : Nat} (h : rj_p J i) (hp : p = po_c J i) : 1 ≤ bn_c J p := by have := h.1.1; rw [← hp] at this; omega
theorem rj_2 {J : List Int32} {i p : Nat} (h : rj_p J i) (hp : p = po_c J i) : bn_c J p ≤ 8 := by have := h.1.2.1; rw [← hp] at this; omega
theorem rj_3 {J : List Int32} {i p k s : Nat} (h : rj_p J i) (hp : p = po_c J i) (hv : s = bn_c J p) (hk : k < s) (hn : J.length ≤ p + 1 + k) : False := by have := h.1.2.2.1; rw [← hp, ← hv] at this; omega
theorem rj_4 {J : List Int32} {i p k s : Nat} (h : rj_p J i) (hp : p = po_c J i) (hv : s = bn_c J p) (hk : k < s) (hn : ¬ nm_c (J.getD (p + 1 + k) 0)) : False := by have := h.1.2.2.2 (p + 1 + k); rw [← hp, ← hv] at this; exact hn (this (by omega) (by omega))
theorem rj_5 {J : List Int32} {i p k : Nat} (h : rj_p J i) (hp : p = po_c J i) (hv : k = bn_c J p) : 1 ≤ bn_c J (p + 1 + k) := by have := h.2.2.1; unfold qz_c at this; rw [← hp, ← hv] at this; exact this
theorem rj_6 {J : List Int32} {i p k m t : Nat} (h : rj_p J i) (hp : p = po_c J i) (hv : k = bn_c J p) (hm : m = bn_c J (p + 1 + k)) (ht : t = tt_c (qz_c J) i) : t + m ≤ 60 := by have := h.2.2.2; unfold qz_c at this; rw [← hp, ← hv, ← hm] at this; rw [ht]; exact this
theorem up_o2 {f g : Nat → Int32} {n i : Nat} {x : Int32} (hs : ∀ j, j < i → f (n + j) = g j) (hx : x = g i) : ∀ j, j < i + 1 → upd f (n + i) x (n + j) = g j := by subst hx; exact up_o hs
theorem np_k {np : Nat} {NM : Nat → List Int32} {nf nf2 sz : Nat → Int32} {x : Int32} (h : nm_p np NM nf sz) (h1 : ∀ z, z < 8 * np → nf2 z = nf z) : nm_p np NM nf2 (upd sz np x) := fun p hp => by
  obtain ⟨a, b, c⟩ := h p hp
  exact ⟨a, by rw [pk_un (by omega)]; exact b, fun j hj => by rw [h1 _ (by omega)]; exact c j hj⟩
theorem np_s {np k : Nat} {NM : Nat → List Int32} {nf nf2 sz : Nat → Int32} (h : nm_p np NM nf sz) (hl : (NM np).length = k) (hk : k ≤ 8) (h1 : ∀ z, z < 8 * np → nf2 z = nf z) (h9 : ∀ j, j < (NM np).length → nf2 (8 * np + j) = (NM np).getD j 0) : nm_p (np + 1) NM nf2 (upd sz np (nI k)) := fun p hp => by
  rcases Nat.lt_or_ge p np with z | z
  · exact np_k h h1 p z
  · have e : p = np := by omega
    subst e
    exact ⟨by omega, by rw [pk_us, hl], h9⟩

theorem d_Mo_isTwice_0 : decode b_Mo_isTwice 0 = .ok (.iconst 0, 1) := by decide +kernel
theorem d_Mo_isTwice_1 : decode b_Mo_isTwice 1 = .ok (.istore_n 1, 1) := by decide +kernel
theorem d_Mo_isTwice_2 : decode b_Mo_isTwice 2 = .ok (.iload_n 1, 1) := by decide +kernel
theorem d_Mo_isTwice_3 : decode b_Mo_isTwice 3 = .ok (.aload_n 0, 1) := by decide +kernel
theorem d_Mo_isTwice_4 : decode b_Mo_isTwice 4 = .ok (.getfield 97, 3) := by decide +kernel
theorem d_Mo_isTwice_7 : decode b_Mo_isTwice 7 = .ok (.if_icmp .ge 95, 3) := by decide +kernel
theorem d_Mo_isTwice_10 : decode b_Mo_isTwice 10 = .ok (.aload_n 0, 1) := by decide +kernel
theorem d_Mo_isTwice_11 : decode b_Mo_isTwice 11 = .ok (.getfield 16, 3) := by decide +kernel
theorem d_Mo_isTwice_14 : decode b_Mo_isTwice 14 = .ok (.iload_n 1, 1) := by decide +kernel
theorem d_Mo_isTwice_15 : decode b_Mo_isTwice 15 = .ok (.iaload, 1) := by decide +kernel
theorem d_Mo_isTwice_16 : decode b_Mo_isTwice 16 = .ok (.aload_n 0, 1) := by decide +kernel
theorem d_Mo_isTwice_17 : decode b_Mo_isTwice 17 = .ok (.getfield 16, 3) := by decide +kernel
theorem d_Mo_isTwice_20 : decode b_Mo_isTwice 20 = .ok (.aload_n 0, 1) := by decide +kernel
theorem d_Mo_isTwice_21 : decode b_Mo_isTwice 21 = .ok (.getfield 97, 3) := by decide +kernel
theorem d_Mo_isTwice_24 : decode b_Mo_isTwice 24 = .ok (.iaload, 1) := by decide +kernel
theorem d_Mo_isTwice_25 : decode b_Mo_isTwice 25 = .ok (.if_icmp .ne 7, 3) := by decide +kernel
theorem d_Mo_isTwice_28 : decode b_Mo_isTwice 28 = .ok (.iconst 1, 1) := by decide +kernel
theorem d_Mo_isTwice_29 : decode b_Mo_isTwice 29 = .ok (.goto 4, 3) := by decide +kernel
theorem d_Mo_isTwice_32 : decode b_Mo_isTwice 32 = .ok (.iconst 0, 1) := by decide +kernel
theorem d_Mo_isTwice_33 : decode b_Mo_isTwice 33 = .ok (.istore_n 2, 1) := by decide +kernel
theorem d_Mo_isTwice_34 : decode b_Mo_isTwice 34 = .ok (.iconst 0, 1) := by decide +kernel
theorem d_Mo_isTwice_35 : decode b_Mo_isTwice 35 = .ok (.istore_n 3, 1) := by decide +kernel
theorem d_Mo_isTwice_36 : decode b_Mo_isTwice 36 = .ok (.iload_n 3, 1) := by decide +kernel
theorem d_Mo_isTwice_37 : decode b_Mo_isTwice 37 = .ok (.aload_n 0, 1) := by decide +kernel
theorem d_Mo_isTwice_38 : decode b_Mo_isTwice 38 = .ok (.getfield 16, 3) := by decide +kernel
theorem d_Mo_isTwice_41 : decode b_Mo_isTwice 41 = .ok (.iload_n 1, 1) := by decide +kernel
theorem d_Mo_isTwice_42 : decode b_Mo_isTwice 42 = .ok (.iaload, 1) := by decide +kernel
theorem d_Mo_isTwice_43 : decode b_Mo_isTwice 43 = .ok (.if_icmp .ge 47, 3) := by decide +kernel
theorem d_Mo_isTwice_46 : decode b_Mo_isTwice 46 = .ok (.iload_n 2, 1) := by decide +kernel
theorem d_Mo_isTwice_47 : decode b_Mo_isTwice 47 = .ok (.ifCond .eq 43, 3) := by decide +kernel
theorem d_Mo_isTwice_50 : decode b_Mo_isTwice 50 = .ok (.aload_n 0, 1) := by decide +kernel
theorem d_Mo_isTwice_51 : decode b_Mo_isTwice 51 = .ok (.getfield 13, 3) := by decide +kernel
theorem d_Mo_isTwice_54 : decode b_Mo_isTwice 54 = .ok (.bipush 8, 2) := by decide +kernel
theorem d_Mo_isTwice_56 : decode b_Mo_isTwice 56 = .ok (.iload_n 1, 1) := by decide +kernel
theorem d_Mo_isTwice_57 : decode b_Mo_isTwice 57 = .ok (.imul, 1) := by decide +kernel
theorem d_Mo_isTwice_58 : decode b_Mo_isTwice 58 = .ok (.iload_n 3, 1) := by decide +kernel
theorem d_Mo_isTwice_59 : decode b_Mo_isTwice 59 = .ok (.iadd, 1) := by decide +kernel
theorem d_Mo_isTwice_60 : decode b_Mo_isTwice 60 = .ok (.caload, 1) := by decide +kernel
theorem d_Mo_isTwice_61 : decode b_Mo_isTwice 61 = .ok (.aload_n 0, 1) := by decide +kernel
theorem d_Mo_isTwice_62 : decode b_Mo_isTwice 62 = .ok (.getfield 13, 3) := by decide +kernel
theorem d_Mo_isTwice_65 : decode b_Mo_isTwice 65 = .ok (.bipush 8, 2) := by decide +kernel
theorem d_Mo_isTwice_67 : decode b_Mo_isTwice 67 = .ok (.aload_n 0, 1) := by decide +kernel
theorem d_Mo_isTwice_68 : decode b_Mo_isTwice 68 = .ok (.getfield 97, 3) := by decide +kernel
theorem d_Mo_isTwice_71 : decode b_Mo_isTwice 71 = .ok (.imul, 1) := by decide +kernel
theorem d_Mo_isTwice_72 : decode b_Mo_isTwice 72 = .ok (.iload_n 3, 1) := by decide +kernel
theorem d_Mo_isTwice_73 : decode b_Mo_isTwice 73 = .ok (.iadd, 1) := by decide +kernel
theorem d_Mo_isTwice_74 : decode b_Mo_isTwice 74 = .ok (.caload, 1) := by decide +kernel
theorem d_Mo_isTwice_75 : decode b_Mo_isTwice 75 = .ok (.if_icmp .ne 7, 3) := by decide +kernel
theorem d_Mo_isTwice_78 : decode b_Mo_isTwice 78 = .ok (.iconst 1, 1) := by decide +kernel
theorem d_Mo_isTwice_79 : decode b_Mo_isTwice 79 = .ok (.goto 4, 3) := by decide +kernel
theorem d_Mo_isTwice_82 : decode b_Mo_isTwice 82 = .ok (.iconst 0, 1) := by decide +kernel
theorem d_Mo_isTwice_83 : decode b_Mo_isTwice 83 = .ok (.istore_n 2, 1) := by decide +kernel
theorem d_Mo_isTwice_84 : decode b_Mo_isTwice 84 = .ok (.iinc 3 1, 3) := by decide +kernel
theorem d_Mo_isTwice_87 : decode b_Mo_isTwice 87 = .ok (.goto (-51), 3) := by decide +kernel
theorem d_Mo_isTwice_90 : decode b_Mo_isTwice 90 = .ok (.iload_n 2, 1) := by decide +kernel
theorem d_Mo_isTwice_91 : decode b_Mo_isTwice 91 = .ok (.ifCond .eq 5, 3) := by decide +kernel
theorem d_Mo_isTwice_94 : decode b_Mo_isTwice 94 = .ok (.iconst 1, 1) := by decide +kernel
theorem d_Mo_isTwice_95 : decode b_Mo_isTwice 95 = .ok (.ireturn, 1) := by decide +kernel
theorem d_Mo_isTwice_96 : decode b_Mo_isTwice 96 = .ok (.iinc 1 1, 3) := by decide +kernel
theorem d_Mo_isTwice_99 : decode b_Mo_isTwice 99 = .ok (.goto (-97), 3) := by decide +kernel
theorem d_Mo_isTwice_102 : decode b_Mo_isTwice 102 = .ok (.iconst 0, 1) := by decide +kernel
theorem d_Mo_isTwice_103 : decode b_Mo_isTwice 103 = .ok (.ireturn, 1) := by decide +kernel
theorem d_Mo_readPieces_0 : decode b_Mo_readPieces 0 = .ok (.aload_n 0, 1) := by decide +kernel
theorem d_Mo_readPieces_1 : decode b_Mo_readPieces 1 = .ok (.iconst 3, 1) := by decide +kernel
theorem d_Mo_readPieces_2 : decode b_Mo_readPieces 2 = .ok (.invokevirtual 245, 3) := by decide +kernel
theorem d_Mo_readPieces_5 : decode b_Mo_readPieces 5 = .ok (.istore_n 1, 1) := by decide +kernel
theorem d_Mo_readPieces_6 : decode b_Mo_readPieces 6 = .ok (.iload_n 1, 1) := by decide +kernel
theorem d_Mo_readPieces_7 : decode b_Mo_readPieces 7 = .ok (.iconst 1, 1) := by decide +kernel
theorem d_Mo_readPieces_8 : decode b_Mo_readPieces 8 = .ok (.if_icmp .lt 8, 3) := by decide +kernel
theorem d_Mo_readPieces_11 : decode b_Mo_readPieces 11 = .ok (.iload_n 1, 1) := by decide +kernel
theorem d_Mo_readPieces_12 : decode b_Mo_readPieces 12 = .ok (.iconst 5, 1) := by decide +kernel
theorem d_Mo_readPieces_13 : decode b_Mo_readPieces 13 = .ok (.if_icmp .le 5, 3) := by decide +kernel
theorem d_Mo_readPieces_16 : decode b_Mo_readPieces 16 = .ok (.iconst (-1), 1) := by decide +kernel
theorem d_Mo_readPieces_17 : decode b_Mo_readPieces 17 = .ok (.ireturn, 1) := by decide +kernel
theorem d_Mo_readPieces_18 : decode b_Mo_readPieces 18 = .ok (.iconst 4, 1) := by decide +kernel
theorem d_Mo_readPieces_19 : decode b_Mo_readPieces 19 = .ok (.istore_n 2, 1) := by decide +kernel
theorem d_Mo_readPieces_20 : decode b_Mo_readPieces 20 = .ok (.aload_n 0, 1) := by decide +kernel
theorem d_Mo_readPieces_21 : decode b_Mo_readPieces 21 = .ok (.iconst 0, 1) := by decide +kernel
theorem d_Mo_readPieces_22 : decode b_Mo_readPieces 22 = .ok (.putfield 116, 3) := by decide +kernel
theorem d_Mo_readPieces_25 : decode b_Mo_readPieces 25 = .ok (.aload_n 0, 1) := by decide +kernel
theorem d_Mo_readPieces_26 : decode b_Mo_readPieces 26 = .ok (.iconst 0, 1) := by decide +kernel
theorem d_Mo_readPieces_27 : decode b_Mo_readPieces 27 = .ok (.putfield 97, 3) := by decide +kernel
theorem d_Mo_readPieces_30 : decode b_Mo_readPieces 30 = .ok (.aload_n 0, 1) := by decide +kernel
theorem d_Mo_readPieces_31 : decode b_Mo_readPieces 31 = .ok (.getfield 97, 3) := by decide +kernel
theorem d_Mo_readPieces_34 : decode b_Mo_readPieces 34 = .ok (.iload_n 1, 1) := by decide +kernel
theorem d_Mo_readPieces_35 : decode b_Mo_readPieces 35 = .ok (.if_icmp .ge 172, 3) := by decide +kernel
theorem d_Mo_readPieces_38 : decode b_Mo_readPieces 38 = .ok (.aload_n 0, 1) := by decide +kernel
theorem d_Mo_readPieces_39 : decode b_Mo_readPieces 39 = .ok (.iload_n 2, 1) := by decide +kernel
theorem d_Mo_readPieces_40 : decode b_Mo_readPieces 40 = .ok (.invokevirtual 245, 3) := by decide +kernel
theorem d_Mo_readPieces_43 : decode b_Mo_readPieces 43 = .ok (.istore_n 3, 1) := by decide +kernel
theorem d_Mo_readPieces_44 : decode b_Mo_readPieces 44 = .ok (.iload_n 3, 1) := by decide +kernel
theorem d_Mo_readPieces_45 : decode b_Mo_readPieces 45 = .ok (.iconst 1, 1) := by decide +kernel
theorem d_Mo_readPieces_46 : decode b_Mo_readPieces 46 = .ok (.if_icmp .lt 9, 3) := by decide +kernel
theorem d_Mo_readPieces_49 : decode b_Mo_readPieces 49 = .ok (.iload_n 3, 1) := by decide +kernel
theorem d_Mo_readPieces_50 : decode b_Mo_readPieces 50 = .ok (.bipush 8, 2) := by decide +kernel
theorem d_Mo_readPieces_52 : decode b_Mo_readPieces 52 = .ok (.if_icmp .le 5, 3) := by decide +kernel
theorem d_Mo_readPieces_55 : decode b_Mo_readPieces 55 = .ok (.iconst (-1), 1) := by decide +kernel
theorem d_Mo_readPieces_56 : decode b_Mo_readPieces 56 = .ok (.ireturn, 1) := by decide +kernel
theorem d_Mo_readPieces_57 : decode b_Mo_readPieces 57 = .ok (.iconst 0, 1) := by decide +kernel
theorem d_Mo_readPieces_58 : decode b_Mo_readPieces 58 = .ok (.istore 4, 2) := by decide +kernel
theorem d_Mo_readPieces_60 : decode b_Mo_readPieces 60 = .ok (.iload 4, 2) := by decide +kernel
theorem d_Mo_readPieces_62 : decode b_Mo_readPieces 62 = .ok (.iload_n 3, 1) := by decide +kernel
theorem d_Mo_readPieces_63 : decode b_Mo_readPieces 63 = .ok (.if_icmp .ge 55, 3) := by decide +kernel
theorem d_Mo_readPieces_66 : decode b_Mo_readPieces 66 = .ok (.aload_n 0, 1) := by decide +kernel
theorem d_Mo_readPieces_67 : decode b_Mo_readPieces 67 = .ok (.iload_n 2, 1) := by decide +kernel
theorem d_Mo_readPieces_68 : decode b_Mo_readPieces 68 = .ok (.iconst 1, 1) := by decide +kernel
theorem d_Mo_readPieces_69 : decode b_Mo_readPieces 69 = .ok (.iadd, 1) := by decide +kernel
theorem d_Mo_readPieces_70 : decode b_Mo_readPieces 70 = .ok (.iload 4, 2) := by decide +kernel
theorem d_Mo_readPieces_72 : decode b_Mo_readPieces 72 = .ok (.iadd, 1) := by decide +kernel
theorem d_Mo_readPieces_73 : decode b_Mo_readPieces 73 = .ok (.invokevirtual 245, 3) := by decide +kernel
theorem d_Mo_readPieces_76 : decode b_Mo_readPieces 76 = .ok (.istore 5, 2) := by decide +kernel
theorem d_Mo_readPieces_78 : decode b_Mo_readPieces 78 = .ok (.iload 5, 2) := by decide +kernel
theorem d_Mo_readPieces_80 : decode b_Mo_readPieces 80 = .ok (.ifCond .lt 12, 3) := by decide +kernel
theorem d_Mo_readPieces_83 : decode b_Mo_readPieces 83 = .ok (.iload 5, 2) := by decide +kernel
theorem d_Mo_readPieces_85 : decode b_Mo_readPieces 85 = .ok (.i2c, 1) := by decide +kernel
theorem d_Mo_readPieces_86 : decode b_Mo_readPieces 86 = .ok (.invokestatic 89, 3) := by decide +kernel
theorem d_Mo_readPieces_89 : decode b_Mo_readPieces 89 = .ok (.ifCond .ne 5, 3) := by decide +kernel
theorem d_Mo_readPieces_92 : decode b_Mo_readPieces 92 = .ok (.iconst (-1), 1) := by decide +kernel
theorem d_Mo_readPieces_93 : decode b_Mo_readPieces 93 = .ok (.ireturn, 1) := by decide +kernel
theorem d_Mo_readPieces_94 : decode b_Mo_readPieces 94 = .ok (.aload_n 0, 1) := by decide +kernel
theorem d_Mo_readPieces_95 : decode b_Mo_readPieces 95 = .ok (.getfield 13, 3) := by decide +kernel
theorem d_Mo_readPieces_98 : decode b_Mo_readPieces 98 = .ok (.bipush 8, 2) := by decide +kernel
theorem d_Mo_readPieces_100 : decode b_Mo_readPieces 100 = .ok (.aload_n 0, 1) := by decide +kernel
theorem d_Mo_readPieces_101 : decode b_Mo_readPieces 101 = .ok (.getfield 97, 3) := by decide +kernel
theorem d_Mo_readPieces_104 : decode b_Mo_readPieces 104 = .ok (.imul, 1) := by decide +kernel
theorem d_Mo_readPieces_105 : decode b_Mo_readPieces 105 = .ok (.iload 4, 2) := by decide +kernel
theorem d_Mo_readPieces_107 : decode b_Mo_readPieces 107 = .ok (.iadd, 1) := by decide +kernel
theorem d_Mo_readPieces_108 : decode b_Mo_readPieces 108 = .ok (.iload 5, 2) := by decide +kernel
theorem d_Mo_readPieces_110 : decode b_Mo_readPieces 110 = .ok (.i2c, 1) := by decide +kernel
theorem d_Mo_readPieces_111 : decode b_Mo_readPieces 111 = .ok (.castore, 1) := by decide +kernel
theorem d_Mo_readPieces_112 : decode b_Mo_readPieces 112 = .ok (.iinc 4 1, 3) := by decide +kernel
theorem d_Mo_readPieces_115 : decode b_Mo_readPieces 115 = .ok (.goto (-55), 3) := by decide +kernel
theorem d_Mo_readPieces_118 : decode b_Mo_readPieces 118 = .ok (.aload_n 0, 1) := by decide +kernel
theorem d_Mo_readPieces_119 : decode b_Mo_readPieces 119 = .ok (.getfield 16, 3) := by decide +kernel
theorem d_Mo_readPieces_122 : decode b_Mo_readPieces 122 = .ok (.aload_n 0, 1) := by decide +kernel
theorem d_Mo_readPieces_123 : decode b_Mo_readPieces 123 = .ok (.getfield 97, 3) := by decide +kernel
theorem d_Mo_readPieces_126 : decode b_Mo_readPieces 126 = .ok (.iload_n 3, 1) := by decide +kernel
theorem d_Mo_readPieces_127 : decode b_Mo_readPieces 127 = .ok (.iastore, 1) := by decide +kernel
theorem d_Mo_readPieces_128 : decode b_Mo_readPieces 128 = .ok (.aload_n 0, 1) := by decide +kernel
theorem d_Mo_readPieces_129 : decode b_Mo_readPieces 129 = .ok (.iload_n 2, 1) := by decide +kernel
theorem d_Mo_readPieces_130 : decode b_Mo_readPieces 130 = .ok (.iconst 1, 1) := by decide +kernel
theorem d_Mo_readPieces_131 : decode b_Mo_readPieces 131 = .ok (.iadd, 1) := by decide +kernel
theorem d_Mo_readPieces_132 : decode b_Mo_readPieces 132 = .ok (.iload_n 3, 1) := by decide +kernel
theorem d_Mo_readPieces_133 : decode b_Mo_readPieces 133 = .ok (.iadd, 1) := by decide +kernel
theorem d_Mo_readPieces_134 : decode b_Mo_readPieces 134 = .ok (.invokevirtual 245, 3) := by decide +kernel
theorem d_Mo_readPieces_137 : decode b_Mo_readPieces 137 = .ok (.istore 4, 2) := by decide +kernel
theorem d_Mo_readPieces_139 : decode b_Mo_readPieces 139 = .ok (.iload 4, 2) := by decide +kernel
theorem d_Mo_readPieces_141 : decode b_Mo_readPieces 141 = .ok (.iconst 1, 1) := by decide +kernel
theorem d_Mo_readPieces_142 : decode b_Mo_readPieces 142 = .ok (.if_icmp .lt 22, 3) := by decide +kernel
theorem d_Mo_readPieces_145 : decode b_Mo_readPieces 145 = .ok (.aload_n 0, 1) := by decide +kernel
theorem d_Mo_readPieces_146 : decode b_Mo_readPieces 146 = .ok (.getfield 116, 3) := by decide +kernel
theorem d_Mo_readPieces_149 : decode b_Mo_readPieces 149 = .ok (.iload 4, 2) := by decide +kernel
theorem d_Mo_readPieces_151 : decode b_Mo_readPieces 151 = .ok (.iadd, 1) := by decide +kernel
theorem d_Mo_readPieces_152 : decode b_Mo_readPieces 152 = .ok (.bipush 60, 2) := by decide +kernel
theorem d_Mo_readPieces_154 : decode b_Mo_readPieces 154 = .ok (.if_icmp .gt 10, 3) := by decide +kernel
theorem d_Mo_readPieces_157 : decode b_Mo_readPieces 157 = .ok (.aload_n 0, 1) := by decide +kernel
theorem d_Mo_readPieces_158 : decode b_Mo_readPieces 158 = .ok (.invokevirtual 248, 3) := by decide +kernel
theorem d_Mo_readPieces_161 : decode b_Mo_readPieces 161 = .ok (.ifCond .eq 5, 3) := by decide +kernel
theorem d_Mo_readPieces_164 : decode b_Mo_readPieces 164 = .ok (.iconst (-1), 1) := by decide +kernel
theorem d_Mo_readPieces_165 : decode b_Mo_readPieces 165 = .ok (.ireturn, 1) := by decide +kernel
theorem d_Mo_readPieces_166 : decode b_Mo_readPieces 166 = .ok (.aload_n 0, 1) := by decide +kernel
theorem d_Mo_readPieces_167 : decode b_Mo_readPieces 167 = .ok (.getfield 20, 3) := by decide +kernel
theorem d_Mo_readPieces_170 : decode b_Mo_readPieces 170 = .ok (.aload_n 0, 1) := by decide +kernel
theorem d_Mo_readPieces_171 : decode b_Mo_readPieces 171 = .ok (.getfield 97, 3) := by decide +kernel
theorem d_Mo_readPieces_174 : decode b_Mo_readPieces 174 = .ok (.iload 4, 2) := by decide +kernel
theorem d_Mo_readPieces_176 : decode b_Mo_readPieces 176 = .ok (.iastore, 1) := by decide +kernel
theorem d_Mo_readPieces_177 : decode b_Mo_readPieces 177 = .ok (.aload_n 0, 1) := by decide +kernel
theorem d_Mo_readPieces_178 : decode b_Mo_readPieces 178 = .ok (.aload_n 0, 1) := by decide +kernel
theorem d_Mo_readPieces_179 : decode b_Mo_readPieces 179 = .ok (.getfield 116, 3) := by decide +kernel
theorem d_Mo_readPieces_182 : decode b_Mo_readPieces 182 = .ok (.iload 4, 2) := by decide +kernel
theorem d_Mo_readPieces_184 : decode b_Mo_readPieces 184 = .ok (.iadd, 1) := by decide +kernel
theorem d_Mo_readPieces_185 : decode b_Mo_readPieces 185 = .ok (.putfield 116, 3) := by decide +kernel
theorem d_Mo_readPieces_188 : decode b_Mo_readPieces 188 = .ok (.iload_n 2, 1) := by decide +kernel
theorem d_Mo_readPieces_189 : decode b_Mo_readPieces 189 = .ok (.iload_n 3, 1) := by decide +kernel
theorem d_Mo_readPieces_190 : decode b_Mo_readPieces 190 = .ok (.iadd, 1) := by decide +kernel
theorem d_Mo_readPieces_191 : decode b_Mo_readPieces 191 = .ok (.iconst 2, 1) := by decide +kernel
theorem d_Mo_readPieces_192 : decode b_Mo_readPieces 192 = .ok (.iadd, 1) := by decide +kernel
theorem d_Mo_readPieces_193 : decode b_Mo_readPieces 193 = .ok (.istore_n 2, 1) := by decide +kernel
theorem d_Mo_readPieces_194 : decode b_Mo_readPieces 194 = .ok (.aload_n 0, 1) := by decide +kernel
theorem d_Mo_readPieces_195 : decode b_Mo_readPieces 195 = .ok (.dup, 1) := by decide +kernel
theorem d_Mo_readPieces_196 : decode b_Mo_readPieces 196 = .ok (.getfield 97, 3) := by decide +kernel
theorem d_Mo_readPieces_199 : decode b_Mo_readPieces 199 = .ok (.iconst 1, 1) := by decide +kernel
theorem d_Mo_readPieces_200 : decode b_Mo_readPieces 200 = .ok (.iadd, 1) := by decide +kernel
theorem d_Mo_readPieces_201 : decode b_Mo_readPieces 201 = .ok (.putfield 97, 3) := by decide +kernel
theorem d_Mo_readPieces_204 : decode b_Mo_readPieces 204 = .ok (.goto (-174), 3) := by decide +kernel
theorem d_Mo_readPieces_207 : decode b_Mo_readPieces 207 = .ok (.iload_n 2, 1) := by decide +kernel
theorem d_Mo_readPieces_208 : decode b_Mo_readPieces 208 = .ok (.ireturn, 1) := by decide +kernel
set_option maxHeartbeats 4000000 in
set_option maxRecDepth 100000 in
theorem c_Mo_isTwice (l : Launch) (D : va_G) (cA : Nat → ClassId) (K : Nat → Nat) (mo ta aN aS aC aB aR aO aW aD a1 a2 a3 a4 aL aY aM bN bS bC bB bR bO aU : Nat) (rd mp gd : Bool) (zt ir : Int32) (np tot rt pl sg rn rs nh td ms ip it il : Nat) (L J : List Int32) (nf : Nat → Int32) (sz : Nat → Int32) (NM : Nat → List Int32) (N9 : List Int32) (hnp : np < 5) (hnm : nm_p np NM nf sz) (h9l : N9.length ≤ 8) (h9s : sz np = nI N9.length) (h9g : ∀ j, j < N9.length → nf (8 * np + j) = N9.getD j 0) : ck_I l y_Mo_isTwice (Cond.code y_Mo_isTwice b_Mo_isTwice 4 (some .boolean) :: w_all) 1 D cA K [.ref mo] [(mo, .inr (8, [.int zt, .int (nI L.length), .ref ta, .int (nI np), .ref aN, .ref aS, .ref aC, .int (nI tot), .ref aB, .int (bz_c rd), .int (nI rt), .int (nI pl), .ref aR, .ref aO, .int (nI sg), .ref aW, .int (bz_c mp), .int (nI rn), .int (nI rs), .int (bz_c gd), .ref aD, .int (nI nh), .ref a1, .ref a2, .ref a3, .ref a4, .int (nI td), .ref aL, .int (nI J.length), .ref aY, .int (nI ms), .ref aM, .int (nI ip), .int (nI it), .int ir, .int (nI il), .ref bN, .ref bS, .ref bC, .ref bB, .ref bR, .ref bO, .ref aU])), (aN, .inl (cA 1, 40, .inl nf)), (aS, .inl (cA 0, 5, .inl sz))] (fun (r : Int32) (u : Unit) => (r = 1 ∧ ∃ p, p < np ∧ NM p = N9) ∨ (r = 0 ∧ ∀ p, p < np → ¬ NM p = N9)) (fun u => [(mo, .inr (8, [.int zt, .int (nI L.length), .ref ta, .int (nI np), .ref aN, .ref aS, .ref aC, .int (nI tot), .ref aB, .int (bz_c rd), .int (nI rt), .int (nI pl), .ref aR, .ref aO, .int (nI sg), .ref aW, .int (bz_c mp), .int (nI rn), .int (nI rs), .int (bz_c gd), .ref aD, .int (nI nh), .ref a1, .ref a2, .ref a3, .ref a4, .int (nI td), .ref aL, .int (nI J.length), .ref aY, .int (nI ms), .ref aM, .int (nI ip), .int (nI it), .int ir, .int (nI il), .ref bN, .ref bS, .ref bC, .ref bB, .ref bR, .ref bO, .ref aU])), (aN, .inl (cA 1, 40, .inl nf)), (aS, .inl (cA 0, 5, .inl sz))]) := by
  refine ck_mkI (by decide) (fun r u h => by rcases h with ⟨rfl, _⟩ | ⟨rfl, _⟩ <;> rfl) (Nat.le_of_ble_eq_true rfl) ?_
  intro pG eG sG mG argsG belowG methG cG Q A H locs ls hx hb hml hown hts hK hE hA hP hD hS hl hret
  have hl : lv_has ls 4 [(0, .ref mo)] := hl
  refine lv_iconst (v := nI 0) hx hb d_Mo_isTwice_0 (by decide) ?_
  refine lv_istore_n (lv' := [(1, .int (nI 0)), (0, .ref mo)]) hx hb d_Mo_isTwice_1 rfl hl (by decide) rfl (fun ls hl => ?_)
  have L2 : ∀ (nG : Nat) (k : Nat) (H : Heap) (locs : List Loc) (ls : Array Slot), np - k = nG → (k ≤ np) → (∀ p, p < k → ¬ NM p = N9) →  va_P D vwCl [(mo, .inr (8, [.int zt, .int (nI L.length), .ref ta, .int (nI np), .ref aN, .ref aS, .ref aC, .int (nI tot), .ref aB, .int (bz_c rd), .int (nI rt), .int (nI pl), .ref aR, .ref aO, .int (nI sg), .ref aW, .int (bz_c mp), .int (nI rn), .int (nI rs), .int (bz_c gd), .ref aD, .int (nI nh), .ref a1, .ref a2, .ref a3, .ref a4, .int (nI td), .ref aL, .int (nI J.length), .ref aY, .int (nI ms), .ref aM, .int (nI ip), .int (nI it), .int ir, .int (nI il), .ref bN, .ref bS, .ref bC, .ref bB, .ref bR, .ref bO, .ref aU])), (aN, .inl (cA 1, 40, .inl nf)), (aS, .inl (cA 0, 5, .inl sz))] H → va_D A [(mo, .inr (8, [.int zt, .int (nI L.length), .ref ta, .int (nI np), .ref aN, .ref aS, .ref aC, .int (nI tot), .ref aB, .int (bz_c rd), .int (nI rt), .int (nI pl), .ref aR, .ref aO, .int (nI sg), .ref aW, .int (bz_c mp), .int (nI rn), .int (nI rs), .int (bz_c gd), .ref aD, .int (nI nh), .ref a1, .ref a2, .ref a3, .ref a4, .int (nI td), .ref aL, .int (nI J.length), .ref aY, .int (nI ms), .ref aM, .int (nI ip), .int (nI it), .int ir, .int (nI il), .ref bN, .ref bS, .ref bC, .ref bB, .ref bR, .ref bO, .ref aU])), (aN, .inl (cA 1, 40, .inl nf)), (aS, .inl (cA 0, 5, .inl sz))] → va_S A sG.heap H locs → lv_has ls 4 [(0, .ref mo), (1, .int (nI k))] → W pG l eG (rm_d 1) sG mG argsG belowG methG cG H locs 0 0 Q (F0 mG 2 ls []) := by
    intro nG
    induction nG using Nat.strongRecOn with
    | ind nG ih2 =>
      intro k H locs ls hn2 hk hs hP hD hS hl
      refine lv_iload_n hx hb d_Mo_isTwice_2 rfl (lv_at hl 1 rfl) ?_
      refine lv_aload_n hx hb d_Mo_isTwice_3 rfl (lv_at hl 0 rfl) ?_
      refine va_get (C := RX8) (T := TX8) (N := 43) hx hb hts inX8 hown hK hP 0 rfl rfl 3 (by decide) (hts _ m_848) (fun _ h9 => h9) rfl d_Mo_isTwice_4 ?_
      refine wn_icmp_ge (by omega) (by omega) (tgt := 102) hx hb d_Mo_isTwice_7 (by decide) ?_ ?_
      · intro h7
        refine lv_iconst (v := 0) hx hb d_Mo_isTwice_102 (by decide) ?_
        exact hret 0 () _ _ _ 103 d_Mo_isTwice_103 (Or.inr ⟨rfl, fun p hp => hs p (by omega)⟩) hP hD hS
      · intro h7
        have hk8 := hnm k (by omega)
        have hk9 := hk8.1
        refine lv_aload_n hx hb d_Mo_isTwice_10 rfl (lv_at hl 0 rfl) ?_
        refine va_get (C := RX8) (T := TX8) (N := 43) hx hb hts inX8 hown hK hP 0 rfl rfl 5 (by decide) (hts _ m_850) (fun _ h9 => h9) rfl d_Mo_isTwice_11 ?_
        refine lv_iload_n hx hb d_Mo_isTwice_14 rfl (lv_at hl 1 rfl) ?_
        refine wn_iald hx hb hK hP 2 0 rfl rfl (by omega) (by omega) d_Mo_isTwice_15 ?_
        refine wn_eq (y := nI ((NM k).length)) hk8.2.1 ?_
        refine lv_aload_n hx hb d_Mo_isTwice_16 rfl (lv_at hl 0 rfl) ?_
        refine va_get (C := RX8) (T := TX8) (N := 43) hx hb hts inX8 hown hK hP 0 rfl rfl 5 (by decide) (hts _ m_850) (fun _ h9 => h9) rfl d_Mo_isTwice_17 ?_
        refine lv_aload_n hx hb d_Mo_isTwice_20 rfl (lv_at hl 0 rfl) ?_
        refine va_get (C := RX8) (T := TX8) (N := 43) hx hb hts inX8 hown hK hP 0 rfl rfl 3 (by decide) (hts _ m_848) (fun _ h9 => h9) rfl d_Mo_isTwice_21 ?_
        refine wn_iald hx hb hK hP 2 0 rfl rfl (by omega) (by omega) d_Mo_isTwice_24 ?_
        refine wn_eq (y := nI N9.length) h9s ?_
        refine wn_icmp_ne (by omega) (by omega) (tgt := 32) hx hb d_Mo_isTwice_25 (by decide) ?_ ?_
        · intro h25
          have hne : ¬ NM k = N9 := fun e => h25 (by rw [e])
          refine lv_iconst (v := nI 0) hx hb d_Mo_isTwice_32 (by decide) ?_
          refine lv_istore_n (lv' := [(2, .int (nI 0)), (0, .ref mo), (1, .int (nI k))]) hx hb d_Mo_isTwice_33 rfl hl (by decide) rfl (fun ls hl => ?_)
          refine lv_iconst (v := nI 0) hx hb d_Mo_isTwice_34 (by decide) ?_
          refine lv_istore_n (lv' := [(3, .int (nI 0)), (2, .int (nI 0)), (0, .ref mo), (1, .int (nI k))]) hx hb d_Mo_isTwice_35 rfl hl (by decide) rfl (fun ls hl => ?_)
          refine lv_iload_n hx hb d_Mo_isTwice_36 rfl (lv_at hl 0 rfl) ?_
          refine lv_aload_n hx hb d_Mo_isTwice_37 rfl (lv_at hl 2 rfl) ?_
          refine va_get (C := RX8) (T := TX8) (N := 43) hx hb hts inX8 hown hK hP 0 rfl rfl 5 (by decide) (hts _ m_850) (fun _ h9 => h9) rfl d_Mo_isTwice_38 ?_
          refine lv_iload_n hx hb d_Mo_isTwice_41 rfl (lv_at hl 3 rfl) ?_
          refine wn_iald hx hb hK hP 2 0 rfl rfl (by omega) (by omega) d_Mo_isTwice_42 ?_
          refine wn_eq (y := nI ((NM k).length)) hk8.2.1 ?_
          refine wn_icmp_ge (by omega) (by omega) (tgt := 90) hx hb d_Mo_isTwice_43 (by decide) ?_ ?_
          · intro h43
            refine lv_iload_n hx hb d_Mo_isTwice_90 rfl (lv_at hl 1 rfl) ?_
            refine lv_if_eq (tgt := 96) hx hb d_Mo_isTwice_91 (by decide) (fun _ => ?_) (fun h9 => absurd h9 (by decide))
            refine lv_iinc (k := 3) (v := nI (k + 1)) (lv' := [(1, .int (nI (k + 1))), (3, .int (nI 0)), (2, .int (nI 0)), (0, .ref mo)]) hx hb d_Mo_isTwice_96 hl rfl (wi_inc1 _) (by decide) rfl (fun ls hl => ?_)
            refine lv_goto (tgt := 2) hx hb d_Mo_isTwice_99 (by decide) ?_
            exact ih2 _ (by omega) (k + 1) _ _ _ rfl (by first | assumption | omega) (lt_s hs hne) hP hD hS (lv_sub hl [3, 0] rfl)
          · intro h43
            refine lv_iload_n hx hb d_Mo_isTwice_46 rfl (lv_at hl 1 rfl) ?_
            refine lv_if_eq (tgt := 90) hx hb d_Mo_isTwice_47 (by decide) (fun _ => ?_) (fun h9 => absurd h9 (by decide))
            refine lv_iload_n hx hb d_Mo_isTwice_90 rfl (lv_at hl 1 rfl) ?_
            refine lv_if_eq (tgt := 96) hx hb d_Mo_isTwice_91 (by decide) (fun _ => ?_) (fun h9 => absurd h9 (by decide))
            refine lv_iinc (k := 3) (v := nI (k + 1)) (lv' := [(1, .int (nI (k + 1))), (3, .int (nI 0)), (2, .int (nI 0)), (0, .ref mo)]) hx hb d_Mo_isTwice_96 hl rfl (wi_inc1 _) (by decide) rfl (fun ls hl => ?_)
            refine lv_goto (tgt := 2) hx hb d_Mo_isTwice_99 (by decide) ?_
            exact ih2 _ (by omega) (k + 1) _ _ _ rfl (by first | assumption | omega) (lt_s hs hne) hP hD hS (lv_sub hl [3, 0] rfl)
        · intro h25
          refine lv_iconst (v := 1) hx hb d_Mo_isTwice_28 (by decide) ?_
          refine lv_goto (tgt := 33) hx hb d_Mo_isTwice_29 (by decide) ?_
          refine lv_istore_n (lv' := [(2, .int 1), (0, .ref mo), (1, .int (nI k))]) hx hb d_Mo_isTwice_33 rfl hl (by decide) rfl (fun ls hl => ?_)
          refine lv_iconst (v := nI 0) hx hb d_Mo_isTwice_34 (by decide) ?_
          refine lv_istore_n (lv' := [(3, .int (nI 0)), (2, .int 1), (0, .ref mo), (1, .int (nI k))]) hx hb d_Mo_isTwice_35 rfl hl (by decide) rfl (fun ls hl => ?_)
          have L36 : ∀ (nG : Nat) (j : Nat) (H : Heap) (locs : List Loc) (ls : Array Slot), N9.length - j = nG → (j ≤ N9.length) → (∀ i, i < j → (NM k).getD i 0 = N9.getD i 0) →  va_P D vwCl [(mo, .inr (8, [.int zt, .int (nI L.length), .ref ta, .int (nI np), .ref aN, .ref aS, .ref aC, .int (nI tot), .ref aB, .int (bz_c rd), .int (nI rt), .int (nI pl), .ref aR, .ref aO, .int (nI sg), .ref aW, .int (bz_c mp), .int (nI rn), .int (nI rs), .int (bz_c gd), .ref aD, .int (nI nh), .ref a1, .ref a2, .ref a3, .ref a4, .int (nI td), .ref aL, .int (nI J.length), .ref aY, .int (nI ms), .ref aM, .int (nI ip), .int (nI it), .int ir, .int (nI il), .ref bN, .ref bS, .ref bC, .ref bB, .ref bR, .ref bO, .ref aU])), (aN, .inl (cA 1, 40, .inl nf)), (aS, .inl (cA 0, 5, .inl sz))] H → va_D A [(mo, .inr (8, [.int zt, .int (nI L.length), .ref ta, .int (nI np), .ref aN, .ref aS, .ref aC, .int (nI tot), .ref aB, .int (bz_c rd), .int (nI rt), .int (nI pl), .ref aR, .ref aO, .int (nI sg), .ref aW, .int (bz_c mp), .int (nI rn), .int (nI rs), .int (bz_c gd), .ref aD, .int (nI nh), .ref a1, .ref a2, .ref a3, .ref a4, .int (nI td), .ref aL, .int (nI J.length), .ref aY, .int (nI ms), .ref aM, .int (nI ip), .int (nI it), .int ir, .int (nI il), .ref bN, .ref bS, .ref bC, .ref bB, .ref bR, .ref bO, .ref aU])), (aN, .inl (cA 1, 40, .inl nf)), (aS, .inl (cA 0, 5, .inl sz))] → va_S A sG.heap H locs → lv_has ls 4 [(0, .ref mo), (1, .int (nI k)), (2, .int 1), (3, .int (nI j))] → W pG l eG (rm_d 1) sG mG argsG belowG methG cG H locs 0 0 Q (F0 mG 36 ls []) := by
            intro nG
            induction nG using Nat.strongRecOn with
            | ind nG ih36 =>
              intro j H locs ls hn36 hj hjs hP hD hS hl
              refine lv_iload_n hx hb d_Mo_isTwice_36 rfl (lv_at hl 3 rfl) ?_
              refine lv_aload_n hx hb d_Mo_isTwice_37 rfl (lv_at hl 0 rfl) ?_
              refine va_get (C := RX8) (T := TX8) (N := 43) hx hb hts inX8 hown hK hP 0 rfl rfl 5 (by decide) (hts _ m_850) (fun _ h9 => h9) rfl d_Mo_isTwice_38 ?_
              refine lv_iload_n hx hb d_Mo_isTwice_41 rfl (lv_at hl 1 rfl) ?_
              refine wn_iald hx hb hK hP 2 0 rfl rfl (by omega) (by omega) d_Mo_isTwice_42 ?_
              refine wn_eq (y := nI ((NM k).length)) hk8.2.1 ?_
              refine wn_icmp_ge (by omega) (by omega) (tgt := 90) hx hb d_Mo_isTwice_43 (by decide) ?_ ?_
              · intro h43
                refine lv_iload_n hx hb d_Mo_isTwice_90 rfl (lv_at hl 2 rfl) ?_
                refine lv_if_eq (tgt := 96) hx hb d_Mo_isTwice_91 (by decide) (fun h9 => absurd h9 (by decide)) (fun _ => ?_)
                refine lv_iconst (v := 1) hx hb d_Mo_isTwice_94 (by decide) ?_
                exact hret 1 () _ _ _ 95 d_Mo_isTwice_95 (Or.inl ⟨rfl, k, by omega, li_ext h25 (fun i hi => hjs i (by omega))⟩) hP hD hS
              · intro h43
                refine lv_iload_n hx hb d_Mo_isTwice_46 rfl (lv_at hl 2 rfl) ?_
                refine lv_if_eq (tgt := 90) hx hb d_Mo_isTwice_47 (by decide) (fun h9 => absurd h9 (by decide)) (fun _ => ?_)
                refine lv_aload_n hx hb d_Mo_isTwice_50 rfl (lv_at hl 0 rfl) ?_
                refine va_get (C := RX8) (T := TX8) (N := 43) hx hb hts inX8 hown hK hP 0 rfl rfl 4 (by decide) (hts _ m_849) (fun _ h9 => h9) rfl d_Mo_isTwice_51 ?_
                refine lv_bipush (v := nI 8) hx hb d_Mo_isTwice_54 (by decide) ?_
                refine lv_iload_n hx hb d_Mo_isTwice_56 rfl (lv_at hl 1 rfl) ?_
                refine wn_imul hx hb d_Mo_isTwice_57 ?_
                refine lv_iload_n hx hb d_Mo_isTwice_58 rfl (lv_at hl 3 rfl) ?_
                refine wn_iadd hx hb d_Mo_isTwice_59 ?_
                refine wn_cald hx hb hK hP 1 1 rfl rfl (by omega) (by omega) d_Mo_isTwice_60 ?_
                refine wn_eq (y := (NM k).getD j 0) (hk8.2.2 j (by omega)) ?_
                refine lv_aload_n hx hb d_Mo_isTwice_61 rfl (lv_at hl 0 rfl) ?_
                refine va_get (C := RX8) (T := TX8) (N := 43) hx hb hts inX8 hown hK hP 0 rfl rfl 4 (by decide) (hts _ m_849) (fun _ h9 => h9) rfl d_Mo_isTwice_62 ?_
                refine lv_bipush (v := nI 8) hx hb d_Mo_isTwice_65 (by decide) ?_
                refine lv_aload_n hx hb d_Mo_isTwice_67 rfl (lv_at hl 0 rfl) ?_
                refine va_get (C := RX8) (T := TX8) (N := 43) hx hb hts inX8 hown hK hP 0 rfl rfl 3 (by decide) (hts _ m_848) (fun _ h9 => h9) rfl d_Mo_isTwice_68 ?_
                refine wn_imul hx hb d_Mo_isTwice_71 ?_
                refine lv_iload_n hx hb d_Mo_isTwice_72 rfl (lv_at hl 3 rfl) ?_
                refine wn_iadd hx hb d_Mo_isTwice_73 ?_
                refine wn_cald hx hb hK hP 1 1 rfl rfl (by omega) (by omega) d_Mo_isTwice_74 ?_
                refine wn_eq (y := N9.getD j 0) (h9g j (by omega)) ?_
                refine lv_icmp_ne (tgt := 82) hx hb d_Mo_isTwice_75 (by decide) ?_ ?_
                · intro h75
                  have hne : ¬ NM k = N9 := fun e => h75 (by rw [e])
                  refine lv_iconst (v := nI 0) hx hb d_Mo_isTwice_82 (by decide) ?_
                  refine lv_istore_n (lv' := [(2, .int (nI 0)), (0, .ref mo), (1, .int (nI k)), (3, .int (nI j))]) hx hb d_Mo_isTwice_83 rfl hl (by decide) rfl (fun ls hl => ?_)
                  refine lv_iinc (k := 3) (v := nI (j + 1)) (lv' := [(3, .int (nI (j + 1))), (2, .int (nI 0)), (0, .ref mo), (1, .int (nI k))]) hx hb d_Mo_isTwice_84 hl rfl (wi_inc1 _) (by decide) rfl (fun ls hl => ?_)
                  refine lv_goto (tgt := 36) hx hb d_Mo_isTwice_87 (by decide) ?_
                  refine lv_iload_n hx hb d_Mo_isTwice_36 rfl (lv_at hl 0 rfl) ?_
                  refine lv_aload_n hx hb d_Mo_isTwice_37 rfl (lv_at hl 2 rfl) ?_
                  refine va_get (C := RX8) (T := TX8) (N := 43) hx hb hts inX8 hown hK hP 0 rfl rfl 5 (by decide) (hts _ m_850) (fun _ h9 => h9) rfl d_Mo_isTwice_38 ?_
                  refine lv_iload_n hx hb d_Mo_isTwice_41 rfl (lv_at hl 3 rfl) ?_
                  refine wn_iald hx hb hK hP 2 0 rfl rfl (by omega) (by omega) d_Mo_isTwice_42 ?_
                  refine wn_eq (y := nI ((NM k).length)) hk8.2.1 ?_
                  refine wn_icmp_ge (by omega) (by omega) (tgt := 90) hx hb d_Mo_isTwice_43 (by decide) ?_ ?_
                  · intro h43_2
                    refine lv_iload_n hx hb d_Mo_isTwice_90 rfl (lv_at hl 1 rfl) ?_
                    refine lv_if_eq (tgt := 96) hx hb d_Mo_isTwice_91 (by decide) (fun _ => ?_) (fun h9 => absurd h9 (by decide))
                    refine lv_iinc (k := 3) (v := nI (k + 1)) (lv' := [(1, .int (nI (k + 1))), (3, .int (nI (j + 1))), (2, .int (nI 0)), (0, .ref mo)]) hx hb d_Mo_isTwice_96 hl rfl (wi_inc1 _) (by decide) rfl (fun ls hl => ?_)
                    refine lv_goto (tgt := 2) hx hb d_Mo_isTwice_99 (by decide) ?_
                    exact ih2 _ (by omega) (k + 1) _ _ _ rfl (by first | assumption | omega) (lt_s hs hne) hP hD hS (lv_sub hl [3, 0] rfl)
                  · intro h43_2
                    refine lv_iload_n hx hb d_Mo_isTwice_46 rfl (lv_at hl 1 rfl) ?_
                    refine lv_if_eq (tgt := 90) hx hb d_Mo_isTwice_47 (by decide) (fun _ => ?_) (fun h9 => absurd h9 (by decide))
                    refine lv_iload_n hx hb d_Mo_isTwice_90 rfl (lv_at hl 1 rfl) ?_
                    refine lv_if_eq (tgt := 96) hx hb d_Mo_isTwice_91 (by decide) (fun _ => ?_) (fun h9 => absurd h9 (by decide))
                    refine lv_iinc (k := 3) (v := nI (k + 1)) (lv' := [(1, .int (nI (k + 1))), (3, .int (nI (j + 1))), (2, .int (nI 0)), (0, .ref mo)]) hx hb d_Mo_isTwice_96 hl rfl (wi_inc1 _) (by decide) rfl (fun ls hl => ?_)
                    refine lv_goto (tgt := 2) hx hb d_Mo_isTwice_99 (by decide) ?_
                    exact ih2 _ (by omega) (k + 1) _ _ _ rfl (by first | assumption | omega) (lt_s hs hne) hP hD hS (lv_sub hl [3, 0] rfl)
                · intro h75
                  refine lv_iconst (v := 1) hx hb d_Mo_isTwice_78 (by decide) ?_
                  refine lv_goto (tgt := 83) hx hb d_Mo_isTwice_79 (by decide) ?_
                  refine lv_istore_n (lv' := [(2, .int 1), (0, .ref mo), (1, .int (nI k)), (3, .int (nI j))]) hx hb d_Mo_isTwice_83 rfl hl (by decide) rfl (fun ls hl => ?_)
                  refine lv_iinc (k := 3) (v := nI (j + 1)) (lv' := [(3, .int (nI (j + 1))), (2, .int 1), (0, .ref mo), (1, .int (nI k))]) hx hb d_Mo_isTwice_84 hl rfl (wi_inc1 _) (by decide) rfl (fun ls hl => ?_)
                  refine lv_goto (tgt := 36) hx hb d_Mo_isTwice_87 (by decide) ?_
                  exact ih36 _ (by omega) (j + 1) _ _ _ rfl (by first | assumption | omega) (lt_s hjs h75) hP hD hS (lv_sub hl [2, 3, 1, 0] rfl)
          exact L36 _ 0 _ _ _ rfl (by first | assumption | omega) (fun j hj => absurd hj (Nat.not_lt_zero j)) hP hD hS (lv_sub hl [2, 3, 1, 0] rfl)
  exact L2 _ 0 _ _ _ rfl (by first | assumption | omega) (fun j hj => absurd hj (Nat.not_lt_zero j)) hP hD hS (lv_sub hl [1, 0] rfl)
theorem k_Mo_isTwice : cf_V y_Mo_isTwice b_Mo_isTwice 4 (some .boolean) "ReadMapperModel" 0 := ⟨⟨m_1191, (wm_s (q := (y_Mo_isTwice, 43)) (by decide +kernel)), m_9, m_1192⟩, by decide +kernel⟩
set_option maxHeartbeats 4000000 in
set_option maxRecDepth 100000 in
theorem c_Mo_readPieces (l : Launch) (D : va_G) (cA : Nat → ClassId) (K : Nat → Nat) (mo ta aN aS aC aB aR aO aW aD a1 a2 a3 a4 aL aY aM bN bS bC bB bR bO aU : Nat) (rd mp gd : Bool) (zt ir : Int32) (np tot rt pl sg rn rs nh td ms ip it il : Nat) (L J : List Int32) (yf : Nat → Int32) (nf : Nat → Int32) (sz : Nat → Int32) (bc : Nat → Int32) (hj : cd_r 200 yf J) (hby : ∀ j, j < J.length → ∃ k, k < 256 ∧ J.getD j 0 = nI k) (hnc : ∀ z, z < 40 → ch_p (nf z)) : ck_I l y_Mo_readPieces (Cond.code y_Mo_readPieces b_Mo_readPieces 6 (some .int) :: w_all) 2 D cA K [.ref mo] [(mo, .inr (8, [.int zt, .int (nI L.length), .ref ta, .int (nI np), .ref aN, .ref aS, .ref aC, .int (nI tot), .ref aB, .int (bz_c rd), .int (nI rt), .int (nI pl), .ref aR, .ref aO, .int (nI sg), .ref aW, .int (bz_c mp), .int (nI rn), .int (nI rs), .int (bz_c gd), .ref aD, .int (nI nh), .ref a1, .ref a2, .ref a3, .ref a4, .int (nI td), .ref aL, .int (nI J.length), .ref aY, .int (nI ms), .ref aM, .int (nI ip), .int (nI it), .int ir, .int (nI il), .ref bN, .ref bS, .ref bC, .ref bB, .ref bR, .ref bO, .ref aU])), (aY, .inl (cA 0, 200, .inl yf)), (aN, .inl (cA 1, 40, .inl nf)), (aS, .inl (cA 0, 5, .inl sz)), (aC, .inl (cA 0, 5, .inl bc))] (fun (r : Int32) (u : (Nat) × (Nat) × (Nat → Int32) × (Nat → Int32) × (Nat → Int32)) => (∀ z, z < 40 → ch_p (u.2.2.1 z)) ∧ ((rp_ok J ∧ r = nI (po_c J u.1) ∧ u.1 = bn_c J 3 ∧ u.2.1 = tt_c (qz_c J) u.1 ∧ nm_p u.1 (nz_c J) u.2.2.1 u.2.2.2.1 ∧ ∀ p, p < u.1 → u.2.2.2.2 p = nI (qz_c J p)) ∨ (¬ rp_ok J ∧ r = -1))) (fun u => [(mo, .inr (8, [.int zt, .int (nI L.length), .ref ta, .int (nI u.1), .ref aN, .ref aS, .ref aC, .int (nI u.2.1), .ref aB, .int (bz_c rd), .int (nI rt), .int (nI pl), .ref aR, .ref aO, .int (nI sg), .ref aW, .int (bz_c mp), .int (nI rn), .int (nI rs), .int (bz_c gd), .ref aD, .int (nI nh), .ref a1, .ref a2, .ref a3, .ref a4, .int (nI td), .ref aL, .int (nI J.length), .ref aY, .int (nI ms), .ref aM, .int (nI ip), .int (nI it), .int ir, .int (nI il), .ref bN, .ref bS, .ref bC, .ref bB, .ref bR, .ref bO, .ref aU])), (aY, .inl (cA 0, 200, .inl yf)), (aN, .inl (cA 1, 40, .inl u.2.2.1)), (aS, .inl (cA 0, 5, .inl u.2.2.2.1)), (aC, .inl (cA 0, 5, .inl u.2.2.2.2))]) := by
  refine ck_mkI (by decide) (fun _ _ _ => rfl) (Nat.le_of_ble_eq_true rfl) ?_
  intro pG eG sG mG argsG belowG methG cG Q A H locs ls hx hb hml hown hts hK hE hA hP hD hS hl hret
  have hl : lv_has ls 6 [(0, .ref mo)] := hl
  have hl1 := cd_len hj
  have hl0 : J.length ≤ 1000 := by omega
  refine lv_aload_n hx hb d_Mo_readPieces_0 rfl (lv_at hl 0 rfl) ?_
  refine lv_iconst (v := nI 3) hx hb d_Mo_readPieces_1 (by decide) ?_
  refine ck_cV (C := "ReadMapperModel") (ci := 8) (rest := []) (wr := [(aN, .inl (cA 1, 40, .inl nf)), (aS, .inl (cA 0, 5, .inl sz)), (aC, .inl (cA 0, 5, .inl bc))]) (ws2 := fun u => [(mo, .inr (8, [.int zt, .int (nI L.length), .ref ta, .int (nI np), .ref aN, .ref aS, .ref aC, .int (nI tot), .ref aB, .int (bz_c rd), .int (nI rt), .int (nI pl), .ref aR, .ref aO, .int (nI sg), .ref aW, .int (bz_c mp), .int (nI rn), .int (nI rs), .int (bz_c gd), .ref aD, .int (nI nh), .ref a1, .ref a2, .ref a3, .ref a4, .int (nI td), .ref aL, .int (nI J.length), .ref aY, .int (nI ms), .ref aM, .int (nI ip), .int (nI it), .int ir, .int (nI il), .ref bN, .ref bS, .ref bC, .ref bB, .ref bR, .ref bO, .ref aU])), (aY, .inl (cA 0, 200, .inl yf)), (aN, .inl (cA 1, 40, .inl nf)), (aS, .inl (cA 0, 5, .inl sz)), (aC, .inl (cA 0, 5, .inl bc))]) (c_Mo_at l D cA K mo ta aN aS aC aB aR aO aW aD a1 a2 a3 a4 aL aY aM bN bS bC bB bR bO aU rd mp gd zt ir np tot rt pl sg rn rs nh td ms ip it il L J yf 3 (by first | assumption | omega) (by first | assumption | omega)) hx hb hml hown hts hK hE hA hP hD hS k_Mo_at m_1185 (by decide) 0 rfl rfl rfl hl.1 rfl (Nat.le_of_ble_eq_true rfl) d_Mo_readPieces_2  [0, 1] [2, 3, 4] [3, 4, 0, 1, 2] rfl rfl (by decide) (fun _ => rfl) (fun r2 u2 H locs hq2 hP hD hS => ?_)
  try dsimp only at hq2
  have hP : va_P D vwCl [(mo, .inr (8, [.int zt, .int (nI L.length), .ref ta, .int (nI np), .ref aN, .ref aS, .ref aC, .int (nI tot), .ref aB, .int (bz_c rd), .int (nI rt), .int (nI pl), .ref aR, .ref aO, .int (nI sg), .ref aW, .int (bz_c mp), .int (nI rn), .int (nI rs), .int (bz_c gd), .ref aD, .int (nI nh), .ref a1, .ref a2, .ref a3, .ref a4, .int (nI td), .ref aL, .int (nI J.length), .ref aY, .int (nI ms), .ref aM, .int (nI ip), .int (nI it), .int ir, .int (nI il), .ref bN, .ref bS, .ref bC, .ref bB, .ref bR, .ref bO, .ref aU])), (aY, .inl (cA 0, 200, .inl yf)), (aN, .inl (cA 1, 40, .inl nf)), (aS, .inl (cA 0, 5, .inl sz)), (aC, .inl (cA 0, 5, .inl bc))] H := hP
  have hD : va_D A [(mo, .inr (8, [.int zt, .int (nI L.length), .ref ta, .int (nI np), .ref aN, .ref aS, .ref aC, .int (nI tot), .ref aB, .int (bz_c rd), .int (nI rt), .int (nI pl), .ref aR, .ref aO, .int (nI sg), .ref aW, .int (bz_c mp), .int (nI rn), .int (nI rs), .int (bz_c gd), .ref aD, .int (nI nh), .ref a1, .ref a2, .ref a3, .ref a4, .int (nI td), .ref aL, .int (nI J.length), .ref aY, .int (nI ms), .ref aM, .int (nI ip), .int (nI it), .int ir, .int (nI il), .ref bN, .ref bS, .ref bC, .ref bB, .ref bR, .ref bO, .ref aU])), (aY, .inl (cA 0, 200, .inl yf)), (aN, .inl (cA 1, 40, .inl nf)), (aS, .inl (cA 0, 5, .inl sz)), (aC, .inl (cA 0, 5, .inl bc))] := hD
  subst r2
  refine lv_istore_n (lv' := [(1, .int (at_c J (nI 3))), (0, .ref mo)]) hx hb d_Mo_readPieces_5 rfl hl (by decide) rfl (fun ls hl => ?_)
  refine lv_iload_n hx hb d_Mo_readPieces_6 rfl (lv_at hl 0 rfl) ?_
  refine lv_iconst (v := 1) hx hb d_Mo_readPieces_7 (by decide) ?_
  refine lv_icmp_lt (tgt := 16) hx hb d_Mo_readPieces_8 (by decide) ?_ ?_
  · intro h8
    refine lv_iconst (v := (-1)) hx hb d_Mo_readPieces_16 (by decide) ?_
    exact hret (-1) (np, tot, nf, sz, bc) _ _ _ 17 d_Mo_readPieces_17 (by first | exact ⟨hnc, Or.inr ⟨fun z => bn_x1 hby hl0 (by omega) h8 z.1, rfl⟩⟩ | exact ⟨hnc, Or.inr ⟨fun z => bn_x2 (m := 5) rfl hby hl0 (by omega) h13 (show bn_c J 3 ≤ 5 from z.2.1), rfl⟩⟩) hP hD hS
  · intro h8
    refine lv_iload_n hx hb d_Mo_readPieces_11 rfl (lv_at hl 0 rfl) ?_
    refine lv_iconst (v := 5) hx hb d_Mo_readPieces_12 (by decide) ?_
    refine lv_icmp_le (tgt := 18) hx hb d_Mo_readPieces_13 (by decide) ?_ ?_
    · intro h13
      obtain ⟨hben, hb1n, hb2n, hb3n⟩ := bn_p hby hl0 (i := 3) (by omega) h8
      obtain ⟨n, hvn⟩ : ∃ z, z = bn_c J 3 := ⟨_, rfl⟩
      rw [← hvn] at hben hb1n hb2n
      have hl : lv_has ls 6 [(1, .int (nI n)), (0, .ref mo)] := by rw [hben] at hl; exact hl
      have hn5 := bn_m (m := 5) rfl hben h13 hb2n
      refine lv_iconst (v := nI 4) hx hb d_Mo_readPieces_18 (by decide) ?_
      refine lv_istore_n (lv' := [(2, .int (nI 4)), (1, .int (nI n)), (0, .ref mo)]) hx hb d_Mo_readPieces_19 rfl hl (by decide) rfl (fun ls hl => ?_)
      refine lv_aload_n hx hb d_Mo_readPieces_20 rfl (lv_at hl 2 rfl) ?_
      refine lv_iconst (v := nI 0) hx hb d_Mo_readPieces_21 (by decide) ?_
      refine va_put (D := D) (ci := 8) (v := .int (nI 0)) (ty := .int) (C := RX8) (T := TX8) (N := 43) hx hb hts inX8 tyX8 tyX8_ok nmX8 hown hK hP hD hS 0 rfl rfl 7 (by decide) (hts _ m_852) (fun _ h9 => h9) rfl (by decide +kernel) rfl rfl (Nat.le_of_ble_eq_true rfl) d_Mo_readPieces_22 (fun H locs hP hD hS => ?_)
      have hP : va_P D vwCl [(mo, .inr (8, [.int zt, .int (nI L.length), .ref ta, .int (nI np), .ref aN, .ref aS, .ref aC, .int (nI 0), .ref aB, .int (bz_c rd), .int (nI rt), .int (nI pl), .ref aR, .ref aO, .int (nI sg), .ref aW, .int (bz_c mp), .int (nI rn), .int (nI rs), .int (bz_c gd), .ref aD, .int (nI nh), .ref a1, .ref a2, .ref a3, .ref a4, .int (nI td), .ref aL, .int (nI J.length), .ref aY, .int (nI ms), .ref aM, .int (nI ip), .int (nI it), .int ir, .int (nI il), .ref bN, .ref bS, .ref bC, .ref bB, .ref bR, .ref bO, .ref aU])), (aY, .inl (cA 0, 200, .inl yf)), (aN, .inl (cA 1, 40, .inl nf)), (aS, .inl (cA 0, 5, .inl sz)), (aC, .inl (cA 0, 5, .inl bc))] H := hP
      have hD : va_D A [(mo, .inr (8, [.int zt, .int (nI L.length), .ref ta, .int (nI np), .ref aN, .ref aS, .ref aC, .int (nI 0), .ref aB, .int (bz_c rd), .int (nI rt), .int (nI pl), .ref aR, .ref aO, .int (nI sg), .ref aW, .int (bz_c mp), .int (nI rn), .int (nI rs), .int (bz_c gd), .ref aD, .int (nI nh), .ref a1, .ref a2, .ref a3, .ref a4, .int (nI td), .ref aL, .int (nI J.length), .ref aY, .int (nI ms), .ref aM, .int (nI ip), .int (nI it), .int ir, .int (nI il), .ref bN, .ref bS, .ref bC, .ref bB, .ref bR, .ref bO, .ref aU])), (aY, .inl (cA 0, 200, .inl yf)), (aN, .inl (cA 1, 40, .inl nf)), (aS, .inl (cA 0, 5, .inl sz)), (aC, .inl (cA 0, 5, .inl bc))] := hD
      refine lv_aload_n hx hb d_Mo_readPieces_25 rfl (lv_at hl 2 rfl) ?_
      refine lv_iconst (v := nI 0) hx hb d_Mo_readPieces_26 (by decide) ?_
      refine va_put (D := D) (ci := 8) (v := .int (nI 0)) (ty := .int) (C := RX8) (T := TX8) (N := 43) hx hb hts inX8 tyX8 tyX8_ok nmX8 hown hK hP hD hS 0 rfl rfl 3 (by decide) (hts _ m_848) (fun _ h9 => h9) rfl (by decide +kernel) rfl rfl (Nat.le_of_ble_eq_true rfl) d_Mo_readPieces_27 (fun H locs hP hD hS => ?_)
      have hP : va_P D vwCl [(mo, .inr (8, [.int zt, .int (nI L.length), .ref ta, .int (nI 0), .ref aN, .ref aS, .ref aC, .int (nI 0), .ref aB, .int (bz_c rd), .int (nI rt), .int (nI pl), .ref aR, .ref aO, .int (nI sg), .ref aW, .int (bz_c mp), .int (nI rn), .int (nI rs), .int (bz_c gd), .ref aD, .int (nI nh), .ref a1, .ref a2, .ref a3, .ref a4, .int (nI td), .ref aL, .int (nI J.length), .ref aY, .int (nI ms), .ref aM, .int (nI ip), .int (nI it), .int ir, .int (nI il), .ref bN, .ref bS, .ref bC, .ref bB, .ref bR, .ref bO, .ref aU])), (aY, .inl (cA 0, 200, .inl yf)), (aN, .inl (cA 1, 40, .inl nf)), (aS, .inl (cA 0, 5, .inl sz)), (aC, .inl (cA 0, 5, .inl bc))] H := hP
      have hD : va_D A [(mo, .inr (8, [.int zt, .int (nI L.length), .ref ta, .int (nI 0), .ref aN, .ref aS, .ref aC, .int (nI 0), .ref aB, .int (bz_c rd), .int (nI rt), .int (nI pl), .ref aR, .ref aO, .int (nI sg), .ref aW, .int (bz_c mp), .int (nI rn), .int (nI rs), .int (bz_c gd), .ref aD, .int (nI nh), .ref a1, .ref a2, .ref a3, .ref a4, .int (nI td), .ref aL, .int (nI J.length), .ref aY, .int (nI ms), .ref aM, .int (nI ip), .int (nI it), .int ir, .int (nI il), .ref bN, .ref bS, .ref bC, .ref bB, .ref bR, .ref bO, .ref aU])), (aY, .inl (cA 0, 200, .inl yf)), (aN, .inl (cA 1, 40, .inl nf)), (aS, .inl (cA 0, 5, .inl sz)), (aC, .inl (cA 0, 5, .inl bc))] := hD
      have L30 : ∀ (nG : Nat) (i t p : Nat) (nf1 : Nat → Int32) (sz1 : Nat → Int32) (bc1 : Nat → Int32) (H : Heap) (locs : List Loc) (ls : Array Slot), n - i = nG → (i ≤ n) → (p = po_c J i) → (t = tt_c (qz_c J) i) → (∀ x, x < i → rj_p J x) → (nm_p i (nz_c J) nf1 sz1) → (∀ x, x < i → bc1 x = nI (qz_c J x)) → (∀ z, z < 40 → ch_p (nf1 z)) →  va_P D vwCl [(mo, .inr (8, [.int zt, .int (nI L.length), .ref ta, .int (nI i), .ref aN, .ref aS, .ref aC, .int (nI t), .ref aB, .int (bz_c rd), .int (nI rt), .int (nI pl), .ref aR, .ref aO, .int (nI sg), .ref aW, .int (bz_c mp), .int (nI rn), .int (nI rs), .int (bz_c gd), .ref aD, .int (nI nh), .ref a1, .ref a2, .ref a3, .ref a4, .int (nI td), .ref aL, .int (nI J.length), .ref aY, .int (nI ms), .ref aM, .int (nI ip), .int (nI it), .int ir, .int (nI il), .ref bN, .ref bS, .ref bC, .ref bB, .ref bR, .ref bO, .ref aU])), (aY, .inl (cA 0, 200, .inl yf)), (aN, .inl (cA 1, 40, .inl nf1)), (aS, .inl (cA 0, 5, .inl sz1)), (aC, .inl (cA 0, 5, .inl bc1))] H → va_D A [(mo, .inr (8, [.int zt, .int (nI L.length), .ref ta, .int (nI i), .ref aN, .ref aS, .ref aC, .int (nI t), .ref aB, .int (bz_c rd), .int (nI rt), .int (nI pl), .ref aR, .ref aO, .int (nI sg), .ref aW, .int (bz_c mp), .int (nI rn), .int (nI rs), .int (bz_c gd), .ref aD, .int (nI nh), .ref a1, .ref a2, .ref a3, .ref a4, .int (nI td), .ref aL, .int (nI J.length), .ref aY, .int (nI ms), .ref aM, .int (nI ip), .int (nI it), .int ir, .int (nI il), .ref bN, .ref bS, .ref bC, .ref bB, .ref bR, .ref bO, .ref aU])), (aY, .inl (cA 0, 200, .inl yf)), (aN, .inl (cA 1, 40, .inl nf1)), (aS, .inl (cA 0, 5, .inl sz1)), (aC, .inl (cA 0, 5, .inl bc1))] → va_S A sG.heap H locs → lv_has ls 6 [(0, .ref mo), (1, .int (nI n)), (2, .int (nI p))] → W pG l eG (rm_d 2) sG mG argsG belowG methG cG H locs 0 0 Q (F0 mG 30 ls []) := by
        intro nG
        induction nG using Nat.strongRecOn with
        | ind nG ih30 =>
          intro i t p nf1 sz1 bc1 H locs ls hn30 hi hp ht hrj hnm1 hbc1 hch hP hD hS hl
          have hpb := po_le hrj
          rw [← hp] at hpb
          have htb := tt_le hrj
          rw [← ht] at htb
          refine lv_aload_n hx hb d_Mo_readPieces_30 rfl (lv_at hl 0 rfl) ?_
          refine va_get (C := RX8) (T := TX8) (N := 43) hx hb hts inX8 hown hK hP 0 rfl rfl 3 (by decide) (hts _ m_848) (fun _ h9 => h9) rfl d_Mo_readPieces_31 ?_
          refine lv_iload_n hx hb d_Mo_readPieces_34 rfl (lv_at hl 1 rfl) ?_
          refine wn_icmp_ge (by omega) (by omega) (tgt := 207) hx hb d_Mo_readPieces_35 (by decide) ?_ ?_
          · intro h35
            refine lv_iload_n hx hb d_Mo_readPieces_207 rfl (lv_at hl 2 rfl) ?_
            exact hret (nI p) (i, t, nf1, sz1, bc1) _ _ _ 208 d_Mo_readPieces_208 (by have hin : i = bn_c J 3 := (by omega); exact ⟨hch, Or.inl ⟨⟨by omega, by omega, fun x hx => hrj x (by omega)⟩, by rw [hp], hin, ht, hnm1, hbc1⟩⟩) hP hD hS
          · intro h35
            refine lv_aload_n hx hb d_Mo_readPieces_38 rfl (lv_at hl 0 rfl) ?_
            refine lv_iload_n hx hb d_Mo_readPieces_39 rfl (lv_at hl 2 rfl) ?_
            refine ck_cV (C := "ReadMapperModel") (ci := 8) (rest := []) (wr := [(aN, .inl (cA 1, 40, .inl nf1)), (aS, .inl (cA 0, 5, .inl sz1)), (aC, .inl (cA 0, 5, .inl bc1))]) (ws2 := fun u => [(mo, .inr (8, [.int zt, .int (nI L.length), .ref ta, .int (nI i), .ref aN, .ref aS, .ref aC, .int (nI t), .ref aB, .int (bz_c rd), .int (nI rt), .int (nI pl), .ref aR, .ref aO, .int (nI sg), .ref aW, .int (bz_c mp), .int (nI rn), .int (nI rs), .int (bz_c gd), .ref aD, .int (nI nh), .ref a1, .ref a2, .ref a3, .ref a4, .int (nI td), .ref aL, .int (nI J.length), .ref aY, .int (nI ms), .ref aM, .int (nI ip), .int (nI it), .int ir, .int (nI il), .ref bN, .ref bS, .ref bC, .ref bB, .ref bR, .ref bO, .ref aU])), (aY, .inl (cA 0, 200, .inl yf)), (aN, .inl (cA 1, 40, .inl nf1)), (aS, .inl (cA 0, 5, .inl sz1)), (aC, .inl (cA 0, 5, .inl bc1))]) (c_Mo_at l D cA K mo ta aN aS aC aB aR aO aW aD a1 a2 a3 a4 aL aY aM bN bS bC bB bR bO aU rd mp gd zt ir i t rt pl sg rn rs nh td ms ip it il L J yf p (by first | assumption | omega) (by first | assumption | omega)) hx hb hml hown hts hK hE hA hP hD hS k_Mo_at m_1185 (by decide) 0 rfl rfl rfl hl.1 rfl (Nat.le_of_ble_eq_true rfl) d_Mo_readPieces_40  [0, 1] [2, 3, 4] [3, 4, 0, 1, 2] rfl rfl (by decide) (fun _ => rfl) (fun r40 u40 H locs hq40 hP hD hS => ?_)
            try dsimp only at hq40
            have hP : va_P D vwCl [(mo, .inr (8, [.int zt, .int (nI L.length), .ref ta, .int (nI i), .ref aN, .ref aS, .ref aC, .int (nI t), .ref aB, .int (bz_c rd), .int (nI rt), .int (nI pl), .ref aR, .ref aO, .int (nI sg), .ref aW, .int (bz_c mp), .int (nI rn), .int (nI rs), .int (bz_c gd), .ref aD, .int (nI nh), .ref a1, .ref a2, .ref a3, .ref a4, .int (nI td), .ref aL, .int (nI J.length), .ref aY, .int (nI ms), .ref aM, .int (nI ip), .int (nI it), .int ir, .int (nI il), .ref bN, .ref bS, .ref bC, .ref bB, .ref bR, .ref bO, .ref aU])), (aY, .inl (cA 0, 200, .inl yf)), (aN, .inl (cA 1, 40, .inl nf1)), (aS, .inl (cA 0, 5, .inl sz1)), (aC, .inl (cA 0, 5, .inl bc1))] H := hP
            have hD : va_D A [(mo, .inr (8, [.int zt, .int (nI L.length), .ref ta, .int (nI i), .ref aN, .ref aS, .ref aC, .int (nI t), .ref aB, .int (bz_c rd), .int (nI rt), .int (nI pl), .ref aR, .ref aO, .int (nI sg), .ref aW, .int (bz_c mp), .int (nI rn), .int (nI rs), .int (bz_c gd), .ref aD, .int (nI nh), .ref a1, .ref a2, .ref a3, .ref a4, .int (nI td), .ref aL, .int (nI J.length), .ref aY, .int (nI ms), .ref aM, .int (nI ip), .int (nI it), .int ir, .int (nI il), .ref bN, .ref bS, .ref bC, .ref bB, .ref bR, .ref bO, .ref aU])), (aY, .inl (cA 0, 200, .inl yf)), (aN, .inl (cA 1, 40, .inl nf1)), (aS, .inl (cA 0, 5, .inl sz1)), (aC, .inl (cA 0, 5, .inl bc1))] := hD
            subst r40
            refine lv_istore_n (lv' := [(3, .int (at_c J (nI p))), (0, .ref mo), (1, .int (nI n)), (2, .int (nI p))]) hx hb d_Mo_readPieces_43 rfl hl (by decide) rfl (fun ls hl => ?_)
            refine lv_iload_n hx hb d_Mo_readPieces_44 rfl (lv_at hl 0 rfl) ?_
            refine lv_iconst (v := 1) hx hb d_Mo_readPieces_45 (by decide) ?_
            refine lv_icmp_lt (tgt := 55) hx hb d_Mo_readPieces_46 (by decide) ?_ ?_
            · intro h46
              refine lv_iconst (v := (-1)) hx hb d_Mo_readPieces_55 (by decide) ?_
              exact hret (-1) (i, t, nf1, sz1, bc1) _ _ _ 56 d_Mo_readPieces_56 (by first | exact ⟨hch, Or.inr ⟨fun z => bn_x1 hby hl0 (by omega) h46 (rj_1 (z.2.2 i (by omega)) hp), rfl⟩⟩ | exact ⟨hch, Or.inr ⟨fun z => bn_x2 (m := 8) rfl hby hl0 (by omega) h52 (rj_2 (z.2.2 i (by omega)) hp), rfl⟩⟩) hP hD hS
            · intro h46
              refine lv_iload_n hx hb d_Mo_readPieces_49 rfl (lv_at hl 0 rfl) ?_
              refine lv_bipush (v := 8) hx hb d_Mo_readPieces_50 (by decide) ?_
              refine lv_icmp_le (tgt := 57) hx hb d_Mo_readPieces_52 (by decide) ?_ ?_
              · intro h52
                obtain ⟨hbesz9, hb1sz9, hb2sz9, hb3sz9⟩ := bn_p hby hl0 (i := p) (by omega) h46
                obtain ⟨sz9, hvsz9⟩ : ∃ z, z = bn_c J p := ⟨_, rfl⟩
                rw [← hvsz9] at hbesz9 hb1sz9 hb2sz9
                have hl : lv_has ls 6 [(3, .int (nI sz9)), (0, .ref mo), (1, .int (nI n)), (2, .int (nI p))] := by rw [hbesz9] at hl; exact hl
                have hs8 := bn_m (m := 8) rfl hbesz9 h52 hb2sz9
                refine lv_iconst (v := nI 0) hx hb d_Mo_readPieces_57 (by decide) ?_
                refine lv_istore (lv' := [(4, .int (nI 0)), (3, .int (nI sz9)), (0, .ref mo), (1, .int (nI n)), (2, .int (nI p))]) hx hb d_Mo_readPieces_58 hl (by decide) rfl (fun ls hl => ?_)
                have L60 : ∀ (nG : Nat) (k : Nat) (nf2 : Nat → Int32) (H : Heap) (locs : List Loc) (ls : Array Slot), sz9 - k = nG → (k ≤ sz9) → (∀ z, z < 8 * i → nf2 z = nf1 z) → (∀ j, j < k → nf2 (8 * i + j) = J.getD (p + 1 + j) 0) → (∀ j, j < k → p + 1 + j < J.length ∧ nm_c (J.getD (p + 1 + j) 0)) → (∀ z, z < 40 → ch_p (nf2 z)) →  va_P D vwCl [(mo, .inr (8, [.int zt, .int (nI L.length), .ref ta, .int (nI i), .ref aN, .ref aS, .ref aC, .int (nI t), .ref aB, .int (bz_c rd), .int (nI rt), .int (nI pl), .ref aR, .ref aO, .int (nI sg), .ref aW, .int (bz_c mp), .int (nI rn), .int (nI rs), .int (bz_c gd), .ref aD, .int (nI nh), .ref a1, .ref a2, .ref a3, .ref a4, .int (nI td), .ref aL, .int (nI J.length), .ref aY, .int (nI ms), .ref aM, .int (nI ip), .int (nI it), .int ir, .int (nI il), .ref bN, .ref bS, .ref bC, .ref bB, .ref bR, .ref bO, .ref aU])), (aY, .inl (cA 0, 200, .inl yf)), (aN, .inl (cA 1, 40, .inl nf2)), (aS, .inl (cA 0, 5, .inl sz1)), (aC, .inl (cA 0, 5, .inl bc1))] H → va_D A [(mo, .inr (8, [.int zt, .int (nI L.length), .ref ta, .int (nI i), .ref aN, .ref aS, .ref aC, .int (nI t), .ref aB, .int (bz_c rd), .int (nI rt), .int (nI pl), .ref aR, .ref aO, .int (nI sg), .ref aW, .int (bz_c mp), .int (nI rn), .int (nI rs), .int (bz_c gd), .ref aD, .int (nI nh), .ref a1, .ref a2, .ref a3, .ref a4, .int (nI td), .ref aL, .int (nI J.length), .ref aY, .int (nI ms), .ref aM, .int (nI ip), .int (nI it), .int ir, .int (nI il), .ref bN, .ref bS, .ref bC, .ref bB, .ref bR, .ref bO, .ref aU])), (aY, .inl (cA 0, 200, .inl yf)), (aN, .inl (cA 1, 40, .inl nf2)), (aS, .inl (cA 0, 5, .inl sz1)), (aC, .inl (cA 0, 5, .inl bc1))] → va_S A sG.heap H locs → lv_has ls 6 [(0, .ref mo), (1, .int (nI n)), (2, .int (nI p)), (3, .int (nI sz9)), (4, .int (nI k))] → W pG l eG (rm_d 2) sG mG argsG belowG methG cG H locs 0 0 Q (F0 mG 60 ls []) := by
                  intro nG
                  induction nG using Nat.strongRecOn with
                  | ind nG ih60 =>
                    intro k nf2 H locs ls hn60 hk hn1 hn2 hnk hch2 hP hD hS hl
                    refine lv_iload hx hb d_Mo_readPieces_60 (lv_at hl 4 rfl) ?_
                    refine lv_iload_n hx hb d_Mo_readPieces_62 rfl (lv_at hl 3 rfl) ?_
                    refine wn_icmp_ge (by omega) (by omega) (tgt := 118) hx hb d_Mo_readPieces_63 (by decide) ?_ ?_
                    · intro h63
                      have hks : k = sz9 := by omega
                      subst hks
                      have hnz9 : nz_c J i = sl_p J (p + 1) (p + 1 + k) := by unfold nz_c; rw [← hp, ← hvsz9]
                      have hkl : p + 1 + k ≤ J.length := by have := (hnk (k - 1) (by omega)).1; omega
                      have h9l : (nz_c J i).length = k := by rw [hnz9, sl_len hkl]; omega
                      have h9g : ∀ j, j < (nz_c J i).length → nf2 (8 * i + j) = (nz_c J i).getD j 0 := fun j hj => by rw [hn2 j (by omega), hnz9, sl_get (by omega)]
                      refine lv_aload_n hx hb d_Mo_readPieces_118 rfl (lv_at hl 0 rfl) ?_
                      refine va_get (C := RX8) (T := TX8) (N := 43) hx hb hts inX8 hown hK hP 0 rfl rfl 5 (by decide) (hts _ m_850) (fun _ h9 => h9) rfl d_Mo_readPieces_119 ?_
                      refine lv_aload_n hx hb d_Mo_readPieces_122 rfl (lv_at hl 0 rfl) ?_
                      refine va_get (C := RX8) (T := TX8) (N := 43) hx hb hts inX8 hown hK hP 0 rfl rfl 3 (by decide) (hts _ m_848) (fun _ h9 => h9) rfl d_Mo_readPieces_123 ?_
                      refine lv_iload_n hx hb d_Mo_readPieces_126 rfl (lv_at hl 3 rfl) ?_
                      refine wn_iast hx hb hK hP hD hS 3 0 rfl rfl (by omega) (by omega) d_Mo_readPieces_127 (fun H locs hP hD hS => ?_)
                      have hP : va_P D vwCl [(mo, .inr (8, [.int zt, .int (nI L.length), .ref ta, .int (nI i), .ref aN, .ref aS, .ref aC, .int (nI t), .ref aB, .int (bz_c rd), .int (nI rt), .int (nI pl), .ref aR, .ref aO, .int (nI sg), .ref aW, .int (bz_c mp), .int (nI rn), .int (nI rs), .int (bz_c gd), .ref aD, .int (nI nh), .ref a1, .ref a2, .ref a3, .ref a4, .int (nI td), .ref aL, .int (nI J.length), .ref aY, .int (nI ms), .ref aM, .int (nI ip), .int (nI it), .int ir, .int (nI il), .ref bN, .ref bS, .ref bC, .ref bB, .ref bR, .ref bO, .ref aU])), (aY, .inl (cA 0, 200, .inl yf)), (aN, .inl (cA 1, 40, .inl nf2)), (aS, .inl (cA 0, 5, .inl (upd sz1 i (nI k)))), (aC, .inl (cA 0, 5, .inl bc1))] H := hP
                      have hD : va_D A [(mo, .inr (8, [.int zt, .int (nI L.length), .ref ta, .int (nI i), .ref aN, .ref aS, .ref aC, .int (nI t), .ref aB, .int (bz_c rd), .int (nI rt), .int (nI pl), .ref aR, .ref aO, .int (nI sg), .ref aW, .int (bz_c mp), .int (nI rn), .int (nI rs), .int (bz_c gd), .ref aD, .int (nI nh), .ref a1, .ref a2, .ref a3, .ref a4, .int (nI td), .ref aL, .int (nI J.length), .ref aY, .int (nI ms), .ref aM, .int (nI ip), .int (nI it), .int ir, .int (nI il), .ref bN, .ref bS, .ref bC, .ref bB, .ref bR, .ref bO, .ref aU])), (aY, .inl (cA 0, 200, .inl yf)), (aN, .inl (cA 1, 40, .inl nf2)), (aS, .inl (cA 0, 5, .inl (upd sz1 i (nI k)))), (aC, .inl (cA 0, 5, .inl bc1))] := hD
                      refine lv_aload_n hx hb d_Mo_readPieces_128 rfl (lv_at hl 0 rfl) ?_
                      refine lv_iload_n hx hb d_Mo_readPieces_129 rfl (lv_at hl 2 rfl) ?_
                      refine lv_iconst (v := nI 1) hx hb d_Mo_readPieces_130 (by decide) ?_
                      refine wn_iadd hx hb d_Mo_readPieces_131 ?_
                      refine lv_iload_n hx hb d_Mo_readPieces_132 rfl (lv_at hl 3 rfl) ?_
                      refine wn_iadd hx hb d_Mo_readPieces_133 ?_
                      refine ck_cV (C := "ReadMapperModel") (ci := 8) (rest := []) (wr := [(aN, .inl (cA 1, 40, .inl nf2)), (aS, .inl (cA 0, 5, .inl (upd sz1 i (nI k)))), (aC, .inl (cA 0, 5, .inl bc1))]) (ws2 := fun u => [(mo, .inr (8, [.int zt, .int (nI L.length), .ref ta, .int (nI i), .ref aN, .ref aS, .ref aC, .int (nI t), .ref aB, .int (bz_c rd), .int (nI rt), .int (nI pl), .ref aR, .ref aO, .int (nI sg), .ref aW, .int (bz_c mp), .int (nI rn), .int (nI rs), .int (bz_c gd), .ref aD, .int (nI nh), .ref a1, .ref a2, .ref a3, .ref a4, .int (nI td), .ref aL, .int (nI J.length), .ref aY, .int (nI ms), .ref aM, .int (nI ip), .int (nI it), .int ir, .int (nI il), .ref bN, .ref bS, .ref bC, .ref bB, .ref bR, .ref bO, .ref aU])), (aY, .inl (cA 0, 200, .inl yf)), (aN, .inl (cA 1, 40, .inl nf2)), (aS, .inl (cA 0, 5, .inl (upd sz1 i (nI k)))), (aC, .inl (cA 0, 5, .inl bc1))]) (c_Mo_at l D cA K mo ta aN aS aC aB aR aO aW aD a1 a2 a3 a4 aL aY aM bN bS bC bB bR bO aU rd mp gd zt ir i t rt pl sg rn rs nh td ms ip it il L J yf ((p + 1) + k) (by first | assumption | omega) (by first | assumption | omega)) hx hb hml hown hts hK hE hA hP hD hS k_Mo_at m_1185 (by decide) 0 rfl rfl rfl hl.1 rfl (Nat.le_of_ble_eq_true rfl) d_Mo_readPieces_134  [0, 1] [2, 3, 4] [3, 4, 0, 1, 2] rfl rfl (by decide) (fun _ => rfl) (fun r134 u134 H locs hq134 hP hD hS => ?_)
                      try dsimp only at hq134
                      have hP : va_P D vwCl [(mo, .inr (8, [.int zt, .int (nI L.length), .ref ta, .int (nI i), .ref aN, .ref aS, .ref aC, .int (nI t), .ref aB, .int (bz_c rd), .int (nI rt), .int (nI pl), .ref aR, .ref aO, .int (nI sg), .ref aW, .int (bz_c mp), .int (nI rn), .int (nI rs), .int (bz_c gd), .ref aD, .int (nI nh), .ref a1, .ref a2, .ref a3, .ref a4, .int (nI td), .ref aL, .int (nI J.length), .ref aY, .int (nI ms), .ref aM, .int (nI ip), .int (nI it), .int ir, .int (nI il), .ref bN, .ref bS, .ref bC, .ref bB, .ref bR, .ref bO, .ref aU])), (aY, .inl (cA 0, 200, .inl yf)), (aN, .inl (cA 1, 40, .inl nf2)), (aS, .inl (cA 0, 5, .inl (upd sz1 i (nI k)))), (aC, .inl (cA 0, 5, .inl bc1))] H := hP
                      have hD : va_D A [(mo, .inr (8, [.int zt, .int (nI L.length), .ref ta, .int (nI i), .ref aN, .ref aS, .ref aC, .int (nI t), .ref aB, .int (bz_c rd), .int (nI rt), .int (nI pl), .ref aR, .ref aO, .int (nI sg), .ref aW, .int (bz_c mp), .int (nI rn), .int (nI rs), .int (bz_c gd), .ref aD, .int (nI nh), .ref a1, .ref a2, .ref a3, .ref a4, .int (nI td), .ref aL, .int (nI J.length), .ref aY, .int (nI ms), .ref aM, .int (nI ip), .int (nI it), .int ir, .int (nI il), .ref bN, .ref bS, .ref bC, .ref bB, .ref bR, .ref bO, .ref aU])), (aY, .inl (cA 0, 200, .inl yf)), (aN, .inl (cA 1, 40, .inl nf2)), (aS, .inl (cA 0, 5, .inl (upd sz1 i (nI k)))), (aC, .inl (cA 0, 5, .inl bc1))] := hD
                      subst r134
                      refine lv_istore (lv' := [(4, .int (at_c J (nI ((p + 1) + k)))), (0, .ref mo), (1, .int (nI n)), (2, .int (nI p)), (3, .int (nI k))]) hx hb d_Mo_readPieces_137 hl (by decide) rfl (fun ls hl => ?_)
                      refine lv_iload hx hb d_Mo_readPieces_139 (lv_at hl 0 rfl) ?_
                      refine lv_iconst (v := 1) hx hb d_Mo_readPieces_141 (by decide) ?_
                      refine lv_icmp_lt (tgt := 164) hx hb d_Mo_readPieces_142 (by decide) ?_ ?_
                      · intro h142
                        refine lv_iconst (v := (-1)) hx hb d_Mo_readPieces_164 (by decide) ?_
                        exact hret (-1) (i, t, nf2, upd sz1 i (nI k), bc1) _ _ _ 165 d_Mo_readPieces_165 (by first | exact ⟨hch2, Or.inr ⟨fun z => (hq158.elim (fun y hy => (z.2.2 i (by omega)).2.1 y hy.1 hy.2)), rfl⟩⟩ | exact ⟨hch2, Or.inr ⟨fun z => bn_x1 hby hl0 (by omega) h142 (rj_5 (z.2.2 i (by omega)) hp hvsz9), rfl⟩⟩ | exact ⟨hch2, Or.inr ⟨fun z => absurd (rj_6 (z.2.2 i (by omega)) hp hvsz9 hvmn ht) (by omega), rfl⟩⟩) hP hD hS
                      · intro h142
                        obtain ⟨hbemn, hb1mn, hb2mn, hb3mn⟩ := bn_p hby hl0 (i := p + 1 + k) (by omega) h142
                        obtain ⟨mn, hvmn⟩ : ∃ z, z = bn_c J (p + 1 + k) := ⟨_, rfl⟩
                        rw [← hvmn] at hbemn hb1mn hb2mn
                        have hl : lv_has ls 6 [(4, .int (nI mn)), (0, .ref mo), (1, .int (nI n)), (2, .int (nI p)), (3, .int (nI k))] := by rw [hbemn] at hl; exact hl
                        refine lv_aload_n hx hb d_Mo_readPieces_145 rfl (lv_at hl 1 rfl) ?_
                        refine va_get (C := RX8) (T := TX8) (N := 43) hx hb hts inX8 hown hK hP 0 rfl rfl 7 (by decide) (hts _ m_852) (fun _ h9 => h9) rfl d_Mo_readPieces_146 ?_
                        refine lv_iload hx hb d_Mo_readPieces_149 (lv_at hl 0 rfl) ?_
                        refine wn_iadd hx hb d_Mo_readPieces_151 ?_
                        refine lv_bipush (v := nI 60) hx hb d_Mo_readPieces_152 (by decide) ?_
                        refine wn_icmp_gt (by omega) (by omega) (tgt := 164) hx hb d_Mo_readPieces_154 (by decide) ?_ ?_
                        · intro h154
                          refine lv_iconst (v := (-1)) hx hb d_Mo_readPieces_164 (by decide) ?_
                          exact hret (-1) (i, t, nf2, upd sz1 i (nI k), bc1) _ _ _ 165 d_Mo_readPieces_165 (by first | exact ⟨hch2, Or.inr ⟨fun z => (hq158.elim (fun y hy => (z.2.2 i (by omega)).2.1 y hy.1 hy.2)), rfl⟩⟩ | exact ⟨hch2, Or.inr ⟨fun z => bn_x1 hby hl0 (by omega) h142 (rj_5 (z.2.2 i (by omega)) hp hvsz9), rfl⟩⟩ | exact ⟨hch2, Or.inr ⟨fun z => absurd (rj_6 (z.2.2 i (by omega)) hp hvsz9 hvmn ht) (by omega), rfl⟩⟩) hP hD hS
                        · intro h154
                          refine lv_aload_n hx hb d_Mo_readPieces_157 rfl (lv_at hl 1 rfl) ?_
                          refine ck_cV (C := "ReadMapperModel") (ci := 8) (rest := []) (wr := [(aY, .inl (cA 0, 200, .inl yf)), (aC, .inl (cA 0, 5, .inl bc1))]) (ws2 := fun u => [(mo, .inr (8, [.int zt, .int (nI L.length), .ref ta, .int (nI i), .ref aN, .ref aS, .ref aC, .int (nI t), .ref aB, .int (bz_c rd), .int (nI rt), .int (nI pl), .ref aR, .ref aO, .int (nI sg), .ref aW, .int (bz_c mp), .int (nI rn), .int (nI rs), .int (bz_c gd), .ref aD, .int (nI nh), .ref a1, .ref a2, .ref a3, .ref a4, .int (nI td), .ref aL, .int (nI J.length), .ref aY, .int (nI ms), .ref aM, .int (nI ip), .int (nI it), .int ir, .int (nI il), .ref bN, .ref bS, .ref bC, .ref bB, .ref bR, .ref bO, .ref aU])), (aY, .inl (cA 0, 200, .inl yf)), (aN, .inl (cA 1, 40, .inl nf2)), (aS, .inl (cA 0, 5, .inl (upd sz1 i (nI k)))), (aC, .inl (cA 0, 5, .inl bc1))]) (c_Mo_isTwice l D cA K mo ta aN aS aC aB aR aO aW aD a1 a2 a3 a4 aL aY aM bN bS bC bB bR bO aU rd mp gd zt ir i t rt pl sg rn rs nh td ms ip it il L J nf2 (upd sz1 i (nI k)) (nz_c J) (nz_c J i) (by omega) (np_k hnm1 hn1) (by omega) (by rw [pk_us, h9l]) h9g) hx hb hml hown hts hK hE hA hP hD hS k_Mo_isTwice m_1189 (by decide) 0 rfl rfl rfl hl.1 rfl (Nat.le_of_ble_eq_true rfl) d_Mo_readPieces_158  [0, 2, 3] [1, 4] [2, 0, 3, 4, 1] rfl rfl (by decide) (fun _ => rfl) (fun r158 u158 H locs hq158 hP hD hS => ?_)
                          try dsimp only at hq158
                          have hP : va_P D vwCl [(mo, .inr (8, [.int zt, .int (nI L.length), .ref ta, .int (nI i), .ref aN, .ref aS, .ref aC, .int (nI t), .ref aB, .int (bz_c rd), .int (nI rt), .int (nI pl), .ref aR, .ref aO, .int (nI sg), .ref aW, .int (bz_c mp), .int (nI rn), .int (nI rs), .int (bz_c gd), .ref aD, .int (nI nh), .ref a1, .ref a2, .ref a3, .ref a4, .int (nI td), .ref aL, .int (nI J.length), .ref aY, .int (nI ms), .ref aM, .int (nI ip), .int (nI it), .int ir, .int (nI il), .ref bN, .ref bS, .ref bC, .ref bB, .ref bR, .ref bO, .ref aU])), (aY, .inl (cA 0, 200, .inl yf)), (aN, .inl (cA 1, 40, .inl nf2)), (aS, .inl (cA 0, 5, .inl (upd sz1 i (nI k)))), (aC, .inl (cA 0, 5, .inl bc1))] H := hP
                          have hD : va_D A [(mo, .inr (8, [.int zt, .int (nI L.length), .ref ta, .int (nI i), .ref aN, .ref aS, .ref aC, .int (nI t), .ref aB, .int (bz_c rd), .int (nI rt), .int (nI pl), .ref aR, .ref aO, .int (nI sg), .ref aW, .int (bz_c mp), .int (nI rn), .int (nI rs), .int (bz_c gd), .ref aD, .int (nI nh), .ref a1, .ref a2, .ref a3, .ref a4, .int (nI td), .ref aL, .int (nI J.length), .ref aY, .int (nI ms), .ref aM, .int (nI ip), .int (nI it), .int ir, .int (nI il), .ref bN, .ref bS, .ref bC, .ref bB, .ref bR, .ref bO, .ref aU])), (aY, .inl (cA 0, 200, .inl yf)), (aN, .inl (cA 1, 40, .inl nf2)), (aS, .inl (cA 0, 5, .inl (upd sz1 i (nI k)))), (aC, .inl (cA 0, 5, .inl bc1))] := hD
                          rcases hq158 with ⟨rfl, hq158⟩ | ⟨rfl, hq158⟩
                          ·
                            refine lv_if_eq (tgt := 166) hx hb d_Mo_readPieces_161 (by decide) (fun h9 => absurd h9 (by decide)) (fun _ => ?_)
                            refine lv_iconst (v := (-1)) hx hb d_Mo_readPieces_164 (by decide) ?_
                            exact hret (-1) (i, t, nf2, upd sz1 i (nI k), bc1) _ _ _ 165 d_Mo_readPieces_165 (by first | exact ⟨hch2, Or.inr ⟨fun z => (hq158.elim (fun y hy => (z.2.2 i (by omega)).2.1 y hy.1 hy.2)), rfl⟩⟩ | exact ⟨hch2, Or.inr ⟨fun z => bn_x1 hby hl0 (by omega) h142 (rj_5 (z.2.2 i (by omega)) hp hvsz9), rfl⟩⟩ | exact ⟨hch2, Or.inr ⟨fun z => absurd (rj_6 (z.2.2 i (by omega)) hp hvsz9 hvmn ht) (by omega), rfl⟩⟩) hP hD hS
                          ·
                            refine lv_if_eq (tgt := 166) hx hb d_Mo_readPieces_161 (by decide) (fun _ => ?_) (fun h9 => absurd h9 (by decide))
                            have hrj9 : rj_p J i := ⟨by rw [← hp, ← hvsz9]; exact ⟨by omega, by omega, hkl, fun j a b => by have := (hnk (j - (p + 1)) (by omega)).2; rw [show p + 1 + (j - (p + 1)) = j by omega] at this; exact this⟩, hq158, by unfold qz_c; rw [← hp, ← hvsz9, ← hvmn]; omega, by rw [← ht]; unfold qz_c; rw [← hp, ← hvsz9, ← hvmn]; omega⟩
                            refine lv_aload_n hx hb d_Mo_readPieces_166 rfl (lv_at hl 1 rfl) ?_
                            refine va_get (C := RX8) (T := TX8) (N := 43) hx hb hts inX8 hown hK hP 0 rfl rfl 6 (by decide) (hts _ m_851) (fun _ h9 => h9) rfl d_Mo_readPieces_167 ?_
                            refine lv_aload_n hx hb d_Mo_readPieces_170 rfl (lv_at hl 1 rfl) ?_
                            refine va_get (C := RX8) (T := TX8) (N := 43) hx hb hts inX8 hown hK hP 0 rfl rfl 3 (by decide) (hts _ m_848) (fun _ h9 => h9) rfl d_Mo_readPieces_171 ?_
                            refine lv_iload hx hb d_Mo_readPieces_174 (lv_at hl 0 rfl) ?_
                            refine wn_iast hx hb hK hP hD hS 4 0 rfl rfl (by omega) (by omega) d_Mo_readPieces_176 (fun H locs hP hD hS => ?_)
                            have hP : va_P D vwCl [(mo, .inr (8, [.int zt, .int (nI L.length), .ref ta, .int (nI i), .ref aN, .ref aS, .ref aC, .int (nI t), .ref aB, .int (bz_c rd), .int (nI rt), .int (nI pl), .ref aR, .ref aO, .int (nI sg), .ref aW, .int (bz_c mp), .int (nI rn), .int (nI rs), .int (bz_c gd), .ref aD, .int (nI nh), .ref a1, .ref a2, .ref a3, .ref a4, .int (nI td), .ref aL, .int (nI J.length), .ref aY, .int (nI ms), .ref aM, .int (nI ip), .int (nI it), .int ir, .int (nI il), .ref bN, .ref bS, .ref bC, .ref bB, .ref bR, .ref bO, .ref aU])), (aY, .inl (cA 0, 200, .inl yf)), (aN, .inl (cA 1, 40, .inl nf2)), (aS, .inl (cA 0, 5, .inl (upd sz1 i (nI k)))), (aC, .inl (cA 0, 5, .inl (upd bc1 i (nI mn))))] H := hP
                            have hD : va_D A [(mo, .inr (8, [.int zt, .int (nI L.length), .ref ta, .int (nI i), .ref aN, .ref aS, .ref aC, .int (nI t), .ref aB, .int (bz_c rd), .int (nI rt), .int (nI pl), .ref aR, .ref aO, .int (nI sg), .ref aW, .int (bz_c mp), .int (nI rn), .int (nI rs), .int (bz_c gd), .ref aD, .int (nI nh), .ref a1, .ref a2, .ref a3, .ref a4, .int (nI td), .ref aL, .int (nI J.length), .ref aY, .int (nI ms), .ref aM, .int (nI ip), .int (nI it), .int ir, .int (nI il), .ref bN, .ref bS, .ref bC, .ref bB, .ref bR, .ref bO, .ref aU])), (aY, .inl (cA 0, 200, .inl yf)), (aN, .inl (cA 1, 40, .inl nf2)), (aS, .inl (cA 0, 5, .inl (upd sz1 i (nI k)))), (aC, .inl (cA 0, 5, .inl (upd bc1 i (nI mn))))] := hD
                            refine lv_aload_n hx hb d_Mo_readPieces_177 rfl (lv_at hl 1 rfl) ?_
                            refine lv_aload_n hx hb d_Mo_readPieces_178 rfl (lv_at hl 1 rfl) ?_
                            refine va_get (C := RX8) (T := TX8) (N := 43) hx hb hts inX8 hown hK hP 0 rfl rfl 7 (by decide) (hts _ m_852) (fun _ h9 => h9) rfl d_Mo_readPieces_179 ?_
                            refine lv_iload hx hb d_Mo_readPieces_182 (lv_at hl 0 rfl) ?_
                            refine wn_iadd hx hb d_Mo_readPieces_184 ?_
                            refine va_put (D := D) (ci := 8) (v := .int (nI (t + mn))) (ty := .int) (C := RX8) (T := TX8) (N := 43) hx hb hts inX8 tyX8 tyX8_ok nmX8 hown hK hP hD hS 0 rfl rfl 7 (by decide) (hts _ m_852) (fun _ h9 => h9) rfl (by decide +kernel) rfl rfl (Nat.le_of_ble_eq_true rfl) d_Mo_readPieces_185 (fun H locs hP hD hS => ?_)
                            have hP : va_P D vwCl [(mo, .inr (8, [.int zt, .int (nI L.length), .ref ta, .int (nI i), .ref aN, .ref aS, .ref aC, .int (nI (t + mn)), .ref aB, .int (bz_c rd), .int (nI rt), .int (nI pl), .ref aR, .ref aO, .int (nI sg), .ref aW, .int (bz_c mp), .int (nI rn), .int (nI rs), .int (bz_c gd), .ref aD, .int (nI nh), .ref a1, .ref a2, .ref a3, .ref a4, .int (nI td), .ref aL, .int (nI J.length), .ref aY, .int (nI ms), .ref aM, .int (nI ip), .int (nI it), .int ir, .int (nI il), .ref bN, .ref bS, .ref bC, .ref bB, .ref bR, .ref bO, .ref aU])), (aY, .inl (cA 0, 200, .inl yf)), (aN, .inl (cA 1, 40, .inl nf2)), (aS, .inl (cA 0, 5, .inl (upd sz1 i (nI k)))), (aC, .inl (cA 0, 5, .inl (upd bc1 i (nI mn))))] H := hP
                            have hD : va_D A [(mo, .inr (8, [.int zt, .int (nI L.length), .ref ta, .int (nI i), .ref aN, .ref aS, .ref aC, .int (nI (t + mn)), .ref aB, .int (bz_c rd), .int (nI rt), .int (nI pl), .ref aR, .ref aO, .int (nI sg), .ref aW, .int (bz_c mp), .int (nI rn), .int (nI rs), .int (bz_c gd), .ref aD, .int (nI nh), .ref a1, .ref a2, .ref a3, .ref a4, .int (nI td), .ref aL, .int (nI J.length), .ref aY, .int (nI ms), .ref aM, .int (nI ip), .int (nI it), .int ir, .int (nI il), .ref bN, .ref bS, .ref bC, .ref bB, .ref bR, .ref bO, .ref aU])), (aY, .inl (cA 0, 200, .inl yf)), (aN, .inl (cA 1, 40, .inl nf2)), (aS, .inl (cA 0, 5, .inl (upd sz1 i (nI k)))), (aC, .inl (cA 0, 5, .inl (upd bc1 i (nI mn))))] := hD
                            refine lv_iload_n hx hb d_Mo_readPieces_188 rfl (lv_at hl 3 rfl) ?_
                            refine lv_iload_n hx hb d_Mo_readPieces_189 rfl (lv_at hl 4 rfl) ?_
                            refine wn_iadd hx hb d_Mo_readPieces_190 ?_
                            refine lv_iconst (v := nI 2) hx hb d_Mo_readPieces_191 (by decide) ?_
                            refine wn_iadd hx hb d_Mo_readPieces_192 ?_
                            refine lv_istore_n (lv' := [(2, .int (nI ((p + k) + 2))), (4, .int (nI mn)), (0, .ref mo), (1, .int (nI n)), (3, .int (nI k))]) hx hb d_Mo_readPieces_193 rfl hl (by decide) rfl (fun ls hl => ?_)
                            refine lv_aload_n hx hb d_Mo_readPieces_194 rfl (lv_at hl 2 rfl) ?_
                            refine lv_dup hx hb d_Mo_readPieces_195 rfl ?_
                            refine va_get (C := RX8) (T := TX8) (N := 43) hx hb hts inX8 hown hK hP 0 rfl rfl 3 (by decide) (hts _ m_848) (fun _ h9 => h9) rfl d_Mo_readPieces_196 ?_
                            refine lv_iconst (v := nI 1) hx hb d_Mo_readPieces_199 (by decide) ?_
                            refine wn_iadd hx hb d_Mo_readPieces_200 ?_
                            refine va_put (D := D) (ci := 8) (v := .int (nI (i + 1))) (ty := .int) (C := RX8) (T := TX8) (N := 43) hx hb hts inX8 tyX8 tyX8_ok nmX8 hown hK hP hD hS 0 rfl rfl 3 (by decide) (hts _ m_848) (fun _ h9 => h9) rfl (by decide +kernel) rfl rfl (Nat.le_of_ble_eq_true rfl) d_Mo_readPieces_201 (fun H locs hP hD hS => ?_)
                            have hP : va_P D vwCl [(mo, .inr (8, [.int zt, .int (nI L.length), .ref ta, .int (nI (i + 1)), .ref aN, .ref aS, .ref aC, .int (nI (t + mn)), .ref aB, .int (bz_c rd), .int (nI rt), .int (nI pl), .ref aR, .ref aO, .int (nI sg), .ref aW, .int (bz_c mp), .int (nI rn), .int (nI rs), .int (bz_c gd), .ref aD, .int (nI nh), .ref a1, .ref a2, .ref a3, .ref a4, .int (nI td), .ref aL, .int (nI J.length), .ref aY, .int (nI ms), .ref aM, .int (nI ip), .int (nI it), .int ir, .int (nI il), .ref bN, .ref bS, .ref bC, .ref bB, .ref bR, .ref bO, .ref aU])), (aY, .inl (cA 0, 200, .inl yf)), (aN, .inl (cA 1, 40, .inl nf2)), (aS, .inl (cA 0, 5, .inl (upd sz1 i (nI k)))), (aC, .inl (cA 0, 5, .inl (upd bc1 i (nI mn))))] H := hP
                            have hD : va_D A [(mo, .inr (8, [.int zt, .int (nI L.length), .ref ta, .int (nI (i + 1)), .ref aN, .ref aS, .ref aC, .int (nI (t + mn)), .ref aB, .int (bz_c rd), .int (nI rt), .int (nI pl), .ref aR, .ref aO, .int (nI sg), .ref aW, .int (bz_c mp), .int (nI rn), .int (nI rs), .int (bz_c gd), .ref aD, .int (nI nh), .ref a1, .ref a2, .ref a3, .ref a4, .int (nI td), .ref aL, .int (nI J.length), .ref aY, .int (nI ms), .ref aM, .int (nI ip), .int (nI it), .int ir, .int (nI il), .ref bN, .ref bS, .ref bC, .ref bB, .ref bR, .ref bO, .ref aU])), (aY, .inl (cA 0, 200, .inl yf)), (aN, .inl (cA 1, 40, .inl nf2)), (aS, .inl (cA 0, 5, .inl (upd sz1 i (nI k)))), (aC, .inl (cA 0, 5, .inl (upd bc1 i (nI mn))))] := hD
                            refine lv_goto (tgt := 30) hx hb d_Mo_readPieces_204 (by decide) ?_
                            exact ih30 _ (by omega) (i + 1) (t + mn) ((p + k) + 2) nf2 (upd sz1 i (nI k)) (upd bc1 i (nI mn)) _ _ _ rfl (by first | assumption | omega) (by rw [hp, hvsz9, hp]; rfl) (by rw [ht, hvmn, hvsz9, hp]; rfl) (lt_s hrj hrj9) (np_s hnm1 h9l (by omega) hn1 h9g) (up_s hbc1 (by rw [hvmn, hvsz9, hp]; rfl)) hch2 hP hD hS (lv_sub hl [2, 3, 0] rfl)
                    · intro h63
                      refine lv_aload_n hx hb d_Mo_readPieces_66 rfl (lv_at hl 0 rfl) ?_
                      refine lv_iload_n hx hb d_Mo_readPieces_67 rfl (lv_at hl 2 rfl) ?_
                      refine lv_iconst (v := nI 1) hx hb d_Mo_readPieces_68 (by decide) ?_
                      refine wn_iadd hx hb d_Mo_readPieces_69 ?_
                      refine lv_iload hx hb d_Mo_readPieces_70 (lv_at hl 4 rfl) ?_
                      refine wn_iadd hx hb d_Mo_readPieces_72 ?_
                      refine ck_cV (C := "ReadMapperModel") (ci := 8) (rest := []) (wr := [(aN, .inl (cA 1, 40, .inl nf2)), (aS, .inl (cA 0, 5, .inl sz1)), (aC, .inl (cA 0, 5, .inl bc1))]) (ws2 := fun u => [(mo, .inr (8, [.int zt, .int (nI L.length), .ref ta, .int (nI i), .ref aN, .ref aS, .ref aC, .int (nI t), .ref aB, .int (bz_c rd), .int (nI rt), .int (nI pl), .ref aR, .ref aO, .int (nI sg), .ref aW, .int (bz_c mp), .int (nI rn), .int (nI rs), .int (bz_c gd), .ref aD, .int (nI nh), .ref a1, .ref a2, .ref a3, .ref a4, .int (nI td), .ref aL, .int (nI J.length), .ref aY, .int (nI ms), .ref aM, .int (nI ip), .int (nI it), .int ir, .int (nI il), .ref bN, .ref bS, .ref bC, .ref bB, .ref bR, .ref bO, .ref aU])), (aY, .inl (cA 0, 200, .inl yf)), (aN, .inl (cA 1, 40, .inl nf2)), (aS, .inl (cA 0, 5, .inl sz1)), (aC, .inl (cA 0, 5, .inl bc1))]) (c_Mo_at l D cA K mo ta aN aS aC aB aR aO aW aD a1 a2 a3 a4 aL aY aM bN bS bC bB bR bO aU rd mp gd zt ir i t rt pl sg rn rs nh td ms ip it il L J yf ((p + 1) + k) (by first | assumption | omega) (by first | assumption | omega)) hx hb hml hown hts hK hE hA hP hD hS k_Mo_at m_1185 (by decide) 0 rfl rfl rfl hl.1 rfl (Nat.le_of_ble_eq_true rfl) d_Mo_readPieces_73  [0, 1] [2, 3, 4] [3, 4, 0, 1, 2] rfl rfl (by decide) (fun _ => rfl) (fun r73 u73 H locs hq73 hP hD hS => ?_)
                      try dsimp only at hq73
                      have hP : va_P D vwCl [(mo, .inr (8, [.int zt, .int (nI L.length), .ref ta, .int (nI i), .ref aN, .ref aS, .ref aC, .int (nI t), .ref aB, .int (bz_c rd), .int (nI rt), .int (nI pl), .ref aR, .ref aO, .int (nI sg), .ref aW, .int (bz_c mp), .int (nI rn), .int (nI rs), .int (bz_c gd), .ref aD, .int (nI nh), .ref a1, .ref a2, .ref a3, .ref a4, .int (nI td), .ref aL, .int (nI J.length), .ref aY, .int (nI ms), .ref aM, .int (nI ip), .int (nI it), .int ir, .int (nI il), .ref bN, .ref bS, .ref bC, .ref bB, .ref bR, .ref bO, .ref aU])), (aY, .inl (cA 0, 200, .inl yf)), (aN, .inl (cA 1, 40, .inl nf2)), (aS, .inl (cA 0, 5, .inl sz1)), (aC, .inl (cA 0, 5, .inl bc1))] H := hP
                      have hD : va_D A [(mo, .inr (8, [.int zt, .int (nI L.length), .ref ta, .int (nI i), .ref aN, .ref aS, .ref aC, .int (nI t), .ref aB, .int (bz_c rd), .int (nI rt), .int (nI pl), .ref aR, .ref aO, .int (nI sg), .ref aW, .int (bz_c mp), .int (nI rn), .int (nI rs), .int (bz_c gd), .ref aD, .int (nI nh), .ref a1, .ref a2, .ref a3, .ref a4, .int (nI td), .ref aL, .int (nI J.length), .ref aY, .int (nI ms), .ref aM, .int (nI ip), .int (nI it), .int ir, .int (nI il), .ref bN, .ref bS, .ref bC, .ref bB, .ref bR, .ref bO, .ref aU])), (aY, .inl (cA 0, 200, .inl yf)), (aN, .inl (cA 1, 40, .inl nf2)), (aS, .inl (cA 0, 5, .inl sz1)), (aC, .inl (cA 0, 5, .inl bc1))] := hD
                      subst r73
                      refine lv_istore (lv' := [(5, .int (at_c J (nI ((p + 1) + k)))), (0, .ref mo), (1, .int (nI n)), (2, .int (nI p)), (3, .int (nI sz9)), (4, .int (nI k))]) hx hb d_Mo_readPieces_76 hl (by decide) rfl (fun ls hl => ?_)
                      refine lv_iload hx hb d_Mo_readPieces_78 (lv_at hl 0 rfl) ?_
                      refine lv_if_lt (tgt := 92) hx hb d_Mo_readPieces_80 (by decide) ?_ ?_
                      · intro h80
                        refine lv_iconst (v := (-1)) hx hb d_Mo_readPieces_92 (by decide) ?_
                        exact hret (-1) (i, t, nf2, sz1, bc1) _ _ _ 93 d_Mo_readPieces_93 (by first | exact ⟨hch2, Or.inr ⟨fun z => rj_3 (z.2.2 i (by omega)) hp hvsz9 (by omega) (bn_neg hby hl0 (by omega) h80), rfl⟩⟩ | exact ⟨hch2, Or.inr ⟨fun z => rj_4 (z.2.2 i (by omega)) hp hvsz9 (by omega) (hat9 ▸ hq86), rfl⟩⟩) hP hD hS
                      · intro h80
                        obtain ⟨hcp9, hlt9, hat9⟩ := bn_ch hby hl0 (i := p + 1 + k) (by omega) h80
                        refine lv_iload hx hb d_Mo_readPieces_83 (lv_at hl 0 rfl) ?_
                        refine lv_i2c (v := at_c J (nI ((p + 1) + k))) hx hb d_Mo_readPieces_85 (ch_c hcp9) ?_
                        refine ck_cS (rest := []) (wr := [(mo, .inr (8, [.int zt, .int (nI L.length), .ref ta, .int (nI i), .ref aN, .ref aS, .ref aC, .int (nI t), .ref aB, .int (bz_c rd), .int (nI rt), .int (nI pl), .ref aR, .ref aO, .int (nI sg), .ref aW, .int (bz_c mp), .int (nI rn), .int (nI rs), .int (bz_c gd), .ref aD, .int (nI nh), .ref a1, .ref a2, .ref a3, .ref a4, .int (nI td), .ref aL, .int (nI J.length), .ref aY, .int (nI ms), .ref aM, .int (nI ip), .int (nI it), .int ir, .int (nI il), .ref bN, .ref bS, .ref bC, .ref bB, .ref bR, .ref bO, .ref aU])), (aY, .inl (cA 0, 200, .inl yf)), (aN, .inl (cA 1, 40, .inl nf2)), (aS, .inl (cA 0, 5, .inl sz1)), (aC, .inl (cA 0, 5, .inl bc1))]) (ws2 := fun u => [(mo, .inr (8, [.int zt, .int (nI L.length), .ref ta, .int (nI i), .ref aN, .ref aS, .ref aC, .int (nI t), .ref aB, .int (bz_c rd), .int (nI rt), .int (nI pl), .ref aR, .ref aO, .int (nI sg), .ref aW, .int (bz_c mp), .int (nI rn), .int (nI rs), .int (bz_c gd), .ref aD, .int (nI nh), .ref a1, .ref a2, .ref a3, .ref a4, .int (nI td), .ref aL, .int (nI J.length), .ref aY, .int (nI ms), .ref aM, .int (nI ip), .int (nI it), .int ir, .int (nI il), .ref bN, .ref bS, .ref bC, .ref bB, .ref bR, .ref bO, .ref aU])), (aY, .inl (cA 0, 200, .inl yf)), (aN, .inl (cA 1, 40, .inl nf2)), (aS, .inl (cA 0, 5, .inl sz1)), (aC, .inl (cA 0, 5, .inl bc1))]) (c_Mo_inName l D cA K (at_c J (nI ((p + 1) + k))) ) hx hb hml hown hts hK hE hA hP hD hS k_Mo_inName m_993 (by decide) rfl hl.1 rfl (Nat.le_of_ble_eq_true rfl) d_Mo_readPieces_86 [] [0, 1, 2, 3, 4] [0, 1, 2, 3, 4] rfl rfl (by decide) (fun _ => rfl) (fun r86 u86 H locs hq86 hP hD hS => ?_)
                        try dsimp only at hq86
                        have hP : va_P D vwCl [(mo, .inr (8, [.int zt, .int (nI L.length), .ref ta, .int (nI i), .ref aN, .ref aS, .ref aC, .int (nI t), .ref aB, .int (bz_c rd), .int (nI rt), .int (nI pl), .ref aR, .ref aO, .int (nI sg), .ref aW, .int (bz_c mp), .int (nI rn), .int (nI rs), .int (bz_c gd), .ref aD, .int (nI nh), .ref a1, .ref a2, .ref a3, .ref a4, .int (nI td), .ref aL, .int (nI J.length), .ref aY, .int (nI ms), .ref aM, .int (nI ip), .int (nI it), .int ir, .int (nI il), .ref bN, .ref bS, .ref bC, .ref bB, .ref bR, .ref bO, .ref aU])), (aY, .inl (cA 0, 200, .inl yf)), (aN, .inl (cA 1, 40, .inl nf2)), (aS, .inl (cA 0, 5, .inl sz1)), (aC, .inl (cA 0, 5, .inl bc1))] H := hP
                        have hD : va_D A [(mo, .inr (8, [.int zt, .int (nI L.length), .ref ta, .int (nI i), .ref aN, .ref aS, .ref aC, .int (nI t), .ref aB, .int (bz_c rd), .int (nI rt), .int (nI pl), .ref aR, .ref aO, .int (nI sg), .ref aW, .int (bz_c mp), .int (nI rn), .int (nI rs), .int (bz_c gd), .ref aD, .int (nI nh), .ref a1, .ref a2, .ref a3, .ref a4, .int (nI td), .ref aL, .int (nI J.length), .ref aY, .int (nI ms), .ref aM, .int (nI ip), .int (nI it), .int ir, .int (nI il), .ref bN, .ref bS, .ref bC, .ref bB, .ref bR, .ref bO, .ref aU])), (aY, .inl (cA 0, 200, .inl yf)), (aN, .inl (cA 1, 40, .inl nf2)), (aS, .inl (cA 0, 5, .inl sz1)), (aC, .inl (cA 0, 5, .inl bc1))] := hD
                        rcases hq86 with ⟨rfl, hq86⟩ | ⟨rfl, hq86⟩
                        ·
                          refine lv_if_ne (tgt := 94) hx hb d_Mo_readPieces_89 (by decide) (fun _ => ?_) (fun h9 => absurd h9 (by decide))
                          refine lv_aload_n hx hb d_Mo_readPieces_94 rfl (lv_at hl 1 rfl) ?_
                          refine va_get (C := RX8) (T := TX8) (N := 43) hx hb hts inX8 hown hK hP 0 rfl rfl 4 (by decide) (hts _ m_849) (fun _ h9 => h9) rfl d_Mo_readPieces_95 ?_
                          refine lv_bipush (v := nI 8) hx hb d_Mo_readPieces_98 (by decide) ?_
                          refine lv_aload_n hx hb d_Mo_readPieces_100 rfl (lv_at hl 1 rfl) ?_
                          refine va_get (C := RX8) (T := TX8) (N := 43) hx hb hts inX8 hown hK hP 0 rfl rfl 3 (by decide) (hts _ m_848) (fun _ h9 => h9) rfl d_Mo_readPieces_101 ?_
                          refine wn_imul hx hb d_Mo_readPieces_104 ?_
                          refine lv_iload hx hb d_Mo_readPieces_105 (lv_at hl 5 rfl) ?_
                          refine wn_iadd hx hb d_Mo_readPieces_107 ?_
                          refine lv_iload hx hb d_Mo_readPieces_108 (lv_at hl 0 rfl) ?_
                          refine lv_i2c (v := at_c J (nI ((p + 1) + k))) hx hb d_Mo_readPieces_110 (ch_c hcp9) ?_
                          refine wn_cast hx hb hK hP hD hS 2 1 rfl rfl (by omega) (by omega) (ch_f hcp9) d_Mo_readPieces_111 (fun H locs hP hD hS => ?_)
                          have hP : va_P D vwCl [(mo, .inr (8, [.int zt, .int (nI L.length), .ref ta, .int (nI i), .ref aN, .ref aS, .ref aC, .int (nI t), .ref aB, .int (bz_c rd), .int (nI rt), .int (nI pl), .ref aR, .ref aO, .int (nI sg), .ref aW, .int (bz_c mp), .int (nI rn), .int (nI rs), .int (bz_c gd), .ref aD, .int (nI nh), .ref a1, .ref a2, .ref a3, .ref a4, .int (nI td), .ref aL, .int (nI J.length), .ref aY, .int (nI ms), .ref aM, .int (nI ip), .int (nI it), .int ir, .int (nI il), .ref bN, .ref bS, .ref bC, .ref bB, .ref bR, .ref bO, .ref aU])), (aY, .inl (cA 0, 200, .inl yf)), (aN, .inl (cA 1, 40, .inl (upd nf2 ((8 * i) + k) (at_c J (nI ((p + 1) + k)))))), (aS, .inl (cA 0, 5, .inl sz1)), (aC, .inl (cA 0, 5, .inl bc1))] H := hP
                          have hD : va_D A [(mo, .inr (8, [.int zt, .int (nI L.length), .ref ta, .int (nI i), .ref aN, .ref aS, .ref aC, .int (nI t), .ref aB, .int (bz_c rd), .int (nI rt), .int (nI pl), .ref aR, .ref aO, .int (nI sg), .ref aW, .int (bz_c mp), .int (nI rn), .int (nI rs), .int (bz_c gd), .ref aD, .int (nI nh), .ref a1, .ref a2, .ref a3, .ref a4, .int (nI td), .ref aL, .int (nI J.length), .ref aY, .int (nI ms), .ref aM, .int (nI ip), .int (nI it), .int ir, .int (nI il), .ref bN, .ref bS, .ref bC, .ref bB, .ref bR, .ref bO, .ref aU])), (aY, .inl (cA 0, 200, .inl yf)), (aN, .inl (cA 1, 40, .inl (upd nf2 ((8 * i) + k) (at_c J (nI ((p + 1) + k)))))), (aS, .inl (cA 0, 5, .inl sz1)), (aC, .inl (cA 0, 5, .inl bc1))] := hD
                          refine lv_iinc (k := 5) (v := nI (k + 1)) (lv' := [(4, .int (nI (k + 1))), (5, .int (at_c J (nI ((p + 1) + k)))), (0, .ref mo), (1, .int (nI n)), (2, .int (nI p)), (3, .int (nI sz9))]) hx hb d_Mo_readPieces_112 hl rfl (wi_inc1 _) (by decide) rfl (fun ls hl => ?_)
                          refine lv_goto (tgt := 60) hx hb d_Mo_readPieces_115 (by decide) ?_
                          exact ih60 _ (by omega) (k + 1) (upd nf2 ((8 * i) + k) (at_c J (nI ((p + 1) + k)))) _ _ _ rfl (by first | assumption | omega) (up_b (by omega) hn1) (up_o2 hn2 hat9) (lt_s hnk ⟨hlt9, by rw [← hat9]; exact hq86⟩) (up_c hch2 hcp9) hP hD hS (lv_sub hl [2, 3, 4, 5, 0] rfl)
                        ·
                          refine lv_if_ne (tgt := 94) hx hb d_Mo_readPieces_89 (by decide) (fun h9 => absurd h9 (by decide)) (fun _ => ?_)
                          refine lv_iconst (v := (-1)) hx hb d_Mo_readPieces_92 (by decide) ?_
                          exact hret (-1) (i, t, nf2, sz1, bc1) _ _ _ 93 d_Mo_readPieces_93 (by first | exact ⟨hch2, Or.inr ⟨fun z => rj_3 (z.2.2 i (by omega)) hp hvsz9 (by omega) (bn_neg hby hl0 (by omega) h80), rfl⟩⟩ | exact ⟨hch2, Or.inr ⟨fun z => rj_4 (z.2.2 i (by omega)) hp hvsz9 (by omega) (hat9 ▸ hq86), rfl⟩⟩) hP hD hS
                exact L60 _ 0 nf1 _ _ _ rfl (by first | assumption | omega) (fun _ _ => rfl) (fun j hj => absurd hj (Nat.not_lt_zero j)) (fun j hj => absurd hj (Nat.not_lt_zero j)) hch hP hD hS (lv_sub hl [2, 3, 4, 1, 0] rfl)
              · intro h52
                refine lv_iconst (v := (-1)) hx hb d_Mo_readPieces_55 (by decide) ?_
                exact hret (-1) (i, t, nf1, sz1, bc1) _ _ _ 56 d_Mo_readPieces_56 (by first | exact ⟨hch, Or.inr ⟨fun z => bn_x1 hby hl0 (by omega) h46 (rj_1 (z.2.2 i (by omega)) hp), rfl⟩⟩ | exact ⟨hch, Or.inr ⟨fun z => bn_x2 (m := 8) rfl hby hl0 (by omega) h52 (rj_2 (z.2.2 i (by omega)) hp), rfl⟩⟩) hP hD hS
      exact L30 _ 0 0 4 nf sz bc _ _ _ rfl (by first | assumption | omega) rfl rfl (fun j hj => absurd hj (Nat.not_lt_zero j)) (fun j hj => absurd hj (Nat.not_lt_zero j)) (fun j hj => absurd hj (Nat.not_lt_zero j)) hnc hP hD hS (lv_sub hl [2, 1, 0] rfl)
    · intro h13
      refine lv_iconst (v := (-1)) hx hb d_Mo_readPieces_16 (by decide) ?_
      exact hret (-1) (np, tot, nf, sz, bc) _ _ _ 17 d_Mo_readPieces_17 (by first | exact ⟨hnc, Or.inr ⟨fun z => bn_x1 hby hl0 (by omega) h8 z.1, rfl⟩⟩ | exact ⟨hnc, Or.inr ⟨fun z => bn_x2 (m := 5) rfl hby hl0 (by omega) h13 (show bn_c J 3 ≤ 5 from z.2.1), rfl⟩⟩) hP hD hS
theorem k_Mo_readPieces : cf_V y_Mo_readPieces b_Mo_readPieces 6 (some .int) "ReadMapperModel" 0 := ⟨⟨m_1183, (wm_s (q := (y_Mo_readPieces, 43)) (by decide +kernel)), m_9, m_1184⟩, by decide +kernel⟩
