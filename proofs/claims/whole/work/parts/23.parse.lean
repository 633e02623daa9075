/-! a read's text: where its colons are -/
def pr_ok (L : List Int32) (k e : Nat) : Prop := nx_p L 58 0 k ∧ nx_p L 58 (k + 1) e ∧ nm_ok L 0 k ∧ bs_ok L (k + 1) e 20 ∧ (e = L.length ∨ ql_ok L (e + 1) (e - (k + 1)))
theorem nx_un {L : List Int32} {c : Int32} {b k k' : Nat} (h : nx_p L c b k) (h' : nx_p L c b k') : k = k' := by
  rcases h with ⟨h1, h2⟩ | ⟨h1, h2, h3, h4⟩
  · rcases h' with ⟨g1, g2⟩ | ⟨g1, g2, g3, g4⟩
    · omega
    · exact absurd g3 (h2 k' g1 g2)
  · rcases h' with ⟨g1, g2⟩ | ⟨g1, g2, g3, g4⟩
    · exact absurd h3 (g2 k h1 h2)
    · rcases Nat.lt_trichotomy k k' with z | z | z
      · exact absurd h3 (g4 k h1 z)
      · exact z
      · exact absurd g3 (h4 k' g1 z)
theorem s5_all {L : List Int32} {b e cap : Nat} (h : bs_ok L b e cap) : ∀ j, j < ((sl_p L b e).map sy_c).length → s5_p (((sl_p L b e).map sy_c).getD j 0) := by
  intro j hj
  rw [bs_len h.2.2.1] at hj
  have e1 : ((sl_p L b e).map sy_c).getD j 0 = sy_c (L.getD (b + j) 0) := by
    rw [← sl_get hj]
    have h2 : j < (sl_p L b e).length := by rw [sl_len h.2.2.1]; exact hj
    simp [List.getD_eq_getElem?_getD, h2]
  rw [e1]
  exact s5_sy (h.2.2.2 (b + j) (by omega) (by omega))

theorem d_Re_parse_0 : decode b_Re_parse 0 = .ok (.aload_n 1, 1) := by decide +kernel
theorem d_Re_parse_1 : decode b_Re_parse 1 = .ok (.bipush 58, 2) := by decide +kernel
theorem d_Re_parse_3 : decode b_Re_parse 3 = .ok (.iconst 0, 1) := by decide +kernel
theorem d_Re_parse_4 : decode b_Re_parse 4 = .ok (.invokevirtual 29, 3) := by decide +kernel
theorem d_Re_parse_7 : decode b_Re_parse 7 = .ok (.istore_n 2, 1) := by decide +kernel
theorem d_Re_parse_8 : decode b_Re_parse 8 = .ok (.aload_n 1, 1) := by decide +kernel
theorem d_Re_parse_9 : decode b_Re_parse 9 = .ok (.bipush 58, 2) := by decide +kernel
theorem d_Re_parse_11 : decode b_Re_parse 11 = .ok (.iload_n 2, 1) := by decide +kernel
theorem d_Re_parse_12 : decode b_Re_parse 12 = .ok (.iconst 1, 1) := by decide +kernel
theorem d_Re_parse_13 : decode b_Re_parse 13 = .ok (.iadd, 1) := by decide +kernel
theorem d_Re_parse_14 : decode b_Re_parse 14 = .ok (.invokevirtual 29, 3) := by decide +kernel
theorem d_Re_parse_17 : decode b_Re_parse 17 = .ok (.istore_n 3, 1) := by decide +kernel
theorem d_Re_parse_18 : decode b_Re_parse 18 = .ok (.aload_n 1, 1) := by decide +kernel
theorem d_Re_parse_19 : decode b_Re_parse 19 = .ok (.iconst 0, 1) := by decide +kernel
theorem d_Re_parse_20 : decode b_Re_parse 20 = .ok (.iload_n 2, 1) := by decide +kernel
theorem d_Re_parse_21 : decode b_Re_parse 21 = .ok (.aload_n 0, 1) := by decide +kernel
theorem d_Re_parse_22 : decode b_Re_parse 22 = .ok (.getfield 14, 3) := by decide +kernel
theorem d_Re_parse_25 : decode b_Re_parse 25 = .ok (.invokestatic 33, 3) := by decide +kernel
theorem d_Re_parse_28 : decode b_Re_parse 28 = .ok (.ifCond .eq 18, 3) := by decide +kernel
theorem d_Re_parse_31 : decode b_Re_parse 31 = .ok (.aload_n 1, 1) := by decide +kernel
theorem d_Re_parse_32 : decode b_Re_parse 32 = .ok (.iload_n 2, 1) := by decide +kernel
theorem d_Re_parse_33 : decode b_Re_parse 33 = .ok (.iconst 1, 1) := by decide +kernel
theorem d_Re_parse_34 : decode b_Re_parse 34 = .ok (.iadd, 1) := by decide +kernel
theorem d_Re_parse_35 : decode b_Re_parse 35 = .ok (.iload_n 3, 1) := by decide +kernel
theorem d_Re_parse_36 : decode b_Re_parse 36 = .ok (.aload_n 0, 1) := by decide +kernel
theorem d_Re_parse_37 : decode b_Re_parse 37 = .ok (.getfield 20, 3) := by decide +kernel
theorem d_Re_parse_40 : decode b_Re_parse 40 = .ok (.invokestatic 37, 3) := by decide +kernel
theorem d_Re_parse_43 : decode b_Re_parse 43 = .ok (.ifCond .ne 5, 3) := by decide +kernel
theorem d_Re_parse_46 : decode b_Re_parse 46 = .ok (.iconst 0, 1) := by decide +kernel
theorem d_Re_parse_47 : decode b_Re_parse 47 = .ok (.ireturn, 1) := by decide +kernel
theorem d_Re_parse_48 : decode b_Re_parse 48 = .ok (.aload_n 0, 1) := by decide +kernel
theorem d_Re_parse_49 : decode b_Re_parse 49 = .ok (.invokevirtual 40, 3) := by decide +kernel
theorem d_Re_parse_52 : decode b_Re_parse 52 = .ok (.aload_n 0, 1) := by decide +kernel
theorem d_Re_parse_53 : decode b_Re_parse 53 = .ok (.getfield 26, 3) := by decide +kernel
theorem d_Re_parse_56 : decode b_Re_parse 56 = .ok (.invokevirtual 43, 3) := by decide +kernel
theorem d_Re_parse_59 : decode b_Re_parse 59 = .ok (.iload_n 3, 1) := by decide +kernel
theorem d_Re_parse_60 : decode b_Re_parse 60 = .ok (.aload_n 1, 1) := by decide +kernel
theorem d_Re_parse_61 : decode b_Re_parse 61 = .ok (.invokevirtual 46, 3) := by decide +kernel
theorem d_Re_parse_64 : decode b_Re_parse 64 = .ok (.if_icmp .eq 14, 3) := by decide +kernel
theorem d_Re_parse_67 : decode b_Re_parse 67 = .ok (.aload_n 0, 1) := by decide +kernel
theorem d_Re_parse_68 : decode b_Re_parse 68 = .ok (.aload_n 1, 1) := by decide +kernel
theorem d_Re_parse_69 : decode b_Re_parse 69 = .ok (.iload_n 3, 1) := by decide +kernel
theorem d_Re_parse_70 : decode b_Re_parse 70 = .ok (.iconst 1, 1) := by decide +kernel
theorem d_Re_parse_71 : decode b_Re_parse 71 = .ok (.iadd, 1) := by decide +kernel
theorem d_Re_parse_72 : decode b_Re_parse 72 = .ok (.invokevirtual 50, 3) := by decide +kernel
theorem d_Re_parse_75 : decode b_Re_parse 75 = .ok (.ifCond .eq 7, 3) := by decide +kernel
theorem d_Re_parse_78 : decode b_Re_parse 78 = .ok (.iconst 1, 1) := by decide +kernel
theorem d_Re_parse_79 : decode b_Re_parse 79 = .ok (.goto 4, 3) := by decide +kernel
theorem d_Re_parse_82 : decode b_Re_parse 82 = .ok (.iconst 0, 1) := by decide +kernel
theorem d_Re_parse_83 : decode b_Re_parse 83 = .ok (.ireturn, 1) := by decide +kernel
set_option maxHeartbeats 4000000 in
set_option maxRecDepth 100000 in
theorem c_Re_parse (l : Launch) (D : va_G) (cA : Nat → ClassId) (K : Nat → Nat) (ra rn rnb rf rfb rb rbb rq rqb : Nat) (fn ff fb fq : Nat → Int32) (RN RF RB RQ : List Int32) (a b cap : Nat) (f : Nat → Int32) (L : List Int32) (hn : cd_r 8 fn RN) (hf : cd_r 20 ff RF) (hbk : cd_r 20 fb RB) (hq : cd_r 20 fq RQ) (hc : cd_r cap f L) : ck_I l y_Re_parse (Cond.code y_Re_parse b_Re_parse 4 (some .boolean) :: w_all) 7 D cA K [.ref ra, .ref a] [(ra, .inr (5, [.ref rn, .ref rf, .ref rb, .ref rq])), (rn, .inr (0, [.ref rnb, .int (nI RN.length)])), (rnb, .inl (cA 0, 8, .inl fn)), (rf, .inr (0, [.ref rfb, .int (nI RF.length)])), (rfb, .inl (cA 0, 20, .inl ff)), (rb, .inr (0, [.ref rbb, .int (nI RB.length)])), (rbb, .inl (cA 0, 20, .inl fb)), (rq, .inr (0, [.ref rqb, .int (nI RQ.length)])), (rqb, .inl (cA 0, 20, .inl fq)), (a, .inr (0, [.ref b, .int (nI L.length)])), (b, .inl (cA 0, cap, .inl f))] (fun (r : Int32) (u : (Nat → Int32) × (List Int32) × (Nat → Int32) × (List Int32) × (Nat → Int32) × (List Int32) × (Nat → Int32) × (List Int32)) => (r = 1 ∧ (cd_r 8 u.1 u.2.1 ∧ cd_r 20 u.2.2.1 u.2.2.2.1 ∧ cd_r 20 u.2.2.2.2.1 u.2.2.2.2.2.1 ∧ cd_r 20 u.2.2.2.2.2.2.1 u.2.2.2.2.2.2.2) ∧ ∃ k e, pr_ok L k e ∧ u.2.1 = sl_p L 0 k ∧ u.2.2.2.1 = (sl_p L (k + 1) e).map sy_c ∧ u.2.2.2.2.2.1 = tb_c u.2.2.2.1 0 ∧ ((e = L.length ∧ u.2.2.2.2.2.2.2 = []) ∨ (e < L.length ∧ u.2.2.2.2.2.2.2 = sl_p L (e + 1) L.length))) ∨ (r = 0 ∧ (cd_r 8 u.1 u.2.1 ∧ cd_r 20 u.2.2.1 u.2.2.2.1 ∧ cd_r 20 u.2.2.2.2.1 u.2.2.2.2.2.1 ∧ cd_r 20 u.2.2.2.2.2.2.1 u.2.2.2.2.2.2.2) ∧ ¬ ∃ k e, pr_ok L k e)) (fun u => [(ra, .inr (5, [.ref rn, .ref rf, .ref rb, .ref rq])), (rn, .inr (0, [.ref rnb, .int (nI u.2.1.length)])), (rnb, .inl (cA 0, 8, .inl u.1)), (rf, .inr (0, [.ref rfb, .int (nI u.2.2.2.1.length)])), (rfb, .inl (cA 0, 20, .inl u.2.2.1)), (rb, .inr (0, [.ref rbb, .int (nI u.2.2.2.2.2.1.length)])), (rbb, .inl (cA 0, 20, .inl u.2.2.2.2.1)), (rq, .inr (0, [.ref rqb, .int (nI u.2.2.2.2.2.2.2.length)])), (rqb, .inl (cA 0, 20, .inl u.2.2.2.2.2.2.1)), (a, .inr (0, [.ref b, .int (nI L.length)])), (b, .inl (cA 0, cap, .inl f))]) := by
  refine ck_mkI (by decide) (fun r u h => by rcases h with ⟨rfl, _⟩ | ⟨rfl, _⟩ <;> rfl) (Nat.le_of_ble_eq_true rfl) ?_
  intro pG eG sG mG argsG belowG methG cG Q A H locs ls hx hb hml hown hts hK hE hA hP hD hS hl hret
  have hl : lv_has ls 4 [(0, .ref ra), (1, .ref a)] := hl
  have hl1 := cd_len hc
  refine lv_aload_n hx hb d_Re_parse_0 rfl (lv_at hl 1 rfl) ?_
  refine lv_bipush (v := 58) hx hb d_Re_parse_1 (by decide) ?_
  refine lv_iconst (v := nI 0) hx hb d_Re_parse_3 (by decide) ?_
  refine ck_cV (C := "ReadMapper$Codes") (ci := 0) (rest := []) (wr := [(ra, .inr (5, [.ref rn, .ref rf, .ref rb, .ref rq])), (rn, .inr (0, [.ref rnb, .int (nI RN.length)])), (rnb, .inl (cA 0, 8, .inl fn)), (rf, .inr (0, [.ref rfb, .int (nI RF.length)])), (rfb, .inl (cA 0, 20, .inl ff)), (rb, .inr (0, [.ref rbb, .int (nI RB.length)])), (rbb, .inl (cA 0, 20, .inl fb)), (rq, .inr (0, [.ref rqb, .int (nI RQ.length)])), (rqb, .inl (cA 0, 20, .inl fq))]) (ws2 := fun u => [(ra, .inr (5, [.ref rn, .ref rf, .ref rb, .ref rq])), (rn, .inr (0, [.ref rnb, .int (nI RN.length)])), (rnb, .inl (cA 0, 8, .inl fn)), (rf, .inr (0, [.ref rfb, .int (nI RF.length)])), (rfb, .inl (cA 0, 20, .inl ff)), (rb, .inr (0, [.ref rbb, .int (nI RB.length)])), (rbb, .inl (cA 0, 20, .inl fb)), (rq, .inr (0, [.ref rqb, .int (nI RQ.length)])), (rqb, .inl (cA 0, 20, .inl fq)), (a, .inr (0, [.ref b, .int (nI L.length)])), (b, .inl (cA 0, cap, .inl f))]) (c_Co_next l D cA K a b cap f L 58 0 (by first | assumption | omega) (by first | assumption | omega)) hx hb hml hown hts hK hE hA hP hD hS k_Co_next m_689 (by decide) 9 rfl rfl rfl hl.1 rfl (Nat.le_of_ble_eq_true rfl) d_Re_parse_4  [9, 10] [0, 1, 2, 3, 4, 5, 6, 7, 8] [0, 1, 2, 3, 4, 5, 6, 7, 8, 9, 10] rfl rfl (by decide) (fun _ => rfl) (fun r4 u4 H locs hq4 hP hD hS => ?_)
  try dsimp only at hq4
  have hP : va_P D vwCl [(ra, .inr (5, [.ref rn, .ref rf, .ref rb, .ref rq])), (rn, .inr (0, [.ref rnb, .int (nI RN.length)])), (rnb, .inl (cA 0, 8, .inl fn)), (rf, .inr (0, [.ref rfb, .int (nI RF.length)])), (rfb, .inl (cA 0, 20, .inl ff)), (rb, .inr (0, [.ref rbb, .int (nI RB.length)])), (rbb, .inl (cA 0, 20, .inl fb)), (rq, .inr (0, [.ref rqb, .int (nI RQ.length)])), (rqb, .inl (cA 0, 20, .inl fq)), (a, .inr (0, [.ref b, .int (nI L.length)])), (b, .inl (cA 0, cap, .inl f))] H := hP
  have hD : va_D A [(ra, .inr (5, [.ref rn, .ref rf, .ref rb, .ref rq])), (rn, .inr (0, [.ref rnb, .int (nI RN.length)])), (rnb, .inl (cA 0, 8, .inl fn)), (rf, .inr (0, [.ref rfb, .int (nI RF.length)])), (rfb, .inl (cA 0, 20, .inl ff)), (rb, .inr (0, [.ref rbb, .int (nI RB.length)])), (rbb, .inl (cA 0, 20, .inl fb)), (rq, .inr (0, [.ref rqb, .int (nI RQ.length)])), (rqb, .inl (cA 0, 20, .inl fq)), (a, .inr (0, [.ref b, .int (nI L.length)])), (b, .inl (cA 0, cap, .inl f))] := hD
  obtain ⟨k4, rfl, hq4⟩ := hq4
  have hk1 := nx_le hq4
  refine lv_istore_n (lv' := [(2, .int (nI k4)), (0, .ref ra), (1, .ref a)]) hx hb d_Re_parse_7 rfl hl (by decide) rfl (fun ls hl => ?_)
  refine lv_aload_n hx hb d_Re_parse_8 rfl (lv_at hl 2 rfl) ?_
  refine lv_bipush (v := 58) hx hb d_Re_parse_9 (by decide) ?_
  refine lv_iload_n hx hb d_Re_parse_11 rfl (lv_at hl 0 rfl) ?_
  refine lv_iconst (v := nI 1) hx hb d_Re_parse_12 (by decide) ?_
  refine wn_iadd hx hb d_Re_parse_13 ?_
  refine ck_cV (C := "ReadMapper$Codes") (ci := 0) (rest := []) (wr := [(ra, .inr (5, [.ref rn, .ref rf, .ref rb, .ref rq])), (rn, .inr (0, [.ref rnb, .int (nI RN.length)])), (rnb, .inl (cA 0, 8, .inl fn)), (rf, .inr (0, [.ref rfb, .int (nI RF.length)])), (rfb, .inl (cA 0, 20, .inl ff)), (rb, .inr (0, [.ref rbb, .int (nI RB.length)])), (rbb, .inl (cA 0, 20, .inl fb)), (rq, .inr (0, [.ref rqb, .int (nI RQ.length)])), (rqb, .inl (cA 0, 20, .inl fq))]) (ws2 := fun u => [(ra, .inr (5, [.ref rn, .ref rf, .ref rb, .ref rq])), (rn, .inr (0, [.ref rnb, .int (nI RN.length)])), (rnb, .inl (cA 0, 8, .inl fn)), (rf, .inr (0, [.ref rfb, .int (nI RF.length)])), (rfb, .inl (cA 0, 20, .inl ff)), (rb, .inr (0, [.ref rbb, .int (nI RB.length)])), (rbb, .inl (cA 0, 20, .inl fb)), (rq, .inr (0, [.ref rqb, .int (nI RQ.length)])), (rqb, .inl (cA 0, 20, .inl fq)), (a, .inr (0, [.ref b, .int (nI L.length)])), (b, .inl (cA 0, cap, .inl f))]) (c_Co_next l D cA K a b cap f L 58 (k4 + 1) (by first | assumption | omega) (by first | assumption | omega)) hx hb hml hown hts hK hE hA hP hD hS k_Co_next m_689 (by decide) 9 rfl rfl rfl hl.1 rfl (Nat.le_of_ble_eq_true rfl) d_Re_parse_14  [9, 10] [0, 1, 2, 3, 4, 5, 6, 7, 8] [0, 1, 2, 3, 4, 5, 6, 7, 8, 9, 10] rfl rfl (by decide) (fun _ => rfl) (fun r14 u14 H locs hq14 hP hD hS => ?_)
  try dsimp only at hq14
  have hP : va_P D vwCl [(ra, .inr (5, [.ref rn, .ref rf, .ref rb, .ref rq])), (rn, .inr (0, [.ref rnb, .int (nI RN.length)])), (rnb, .inl (cA 0, 8, .inl fn)), (rf, .inr (0, [.ref rfb, .int (nI RF.length)])), (rfb, .inl (cA 0, 20, .inl ff)), (rb, .inr (0, [.ref rbb, .int (nI RB.length)])), (rbb, .inl (cA 0, 20, .inl fb)), (rq, .inr (0, [.ref rqb, .int (nI RQ.length)])), (rqb, .inl (cA 0, 20, .inl fq)), (a, .inr (0, [.ref b, .int (nI L.length)])), (b, .inl (cA 0, cap, .inl f))] H := hP
  have hD : va_D A [(ra, .inr (5, [.ref rn, .ref rf, .ref rb, .ref rq])), (rn, .inr (0, [.ref rnb, .int (nI RN.length)])), (rnb, .inl (cA 0, 8, .inl fn)), (rf, .inr (0, [.ref rfb, .int (nI RF.length)])), (rfb, .inl (cA 0, 20, .inl ff)), (rb, .inr (0, [.ref rbb, .int (nI RB.length)])), (rbb, .inl (cA 0, 20, .inl fb)), (rq, .inr (0, [.ref rqb, .int (nI RQ.length)])), (rqb, .inl (cA 0, 20, .inl fq)), (a, .inr (0, [.ref b, .int (nI L.length)])), (b, .inl (cA 0, cap, .inl f))] := hD
  obtain ⟨k14, rfl, hq14⟩ := hq14
  have hk2 := nx_le hq14
  refine lv_istore_n (lv' := [(3, .int (nI k14)), (2, .int (nI k4)), (0, .ref ra), (1, .ref a)]) hx hb d_Re_parse_17 rfl hl (by decide) rfl (fun ls hl => ?_)
  refine lv_aload_n hx hb d_Re_parse_18 rfl (lv_at hl 3 rfl) ?_
  refine lv_iconst (v := nI 0) hx hb d_Re_parse_19 (by decide) ?_
  refine lv_iload_n hx hb d_Re_parse_20 rfl (lv_at hl 1 rfl) ?_
  refine lv_aload_n hx hb d_Re_parse_21 rfl (lv_at hl 2 rfl) ?_
  refine va_get (C := RX5) (T := TX5) (N := 4) hx hb hts inX5 hown hK hP 0 rfl rfl 0 (by decide) (hts _ m_110) (fun _ h9 => h9) rfl d_Re_parse_22 ?_
  refine ck_cSN (rest := []) (wr := [(ra, .inr (5, [.ref rn, .ref rf, .ref rb, .ref rq])), (rf, .inr (0, [.ref rfb, .int (nI RF.length)])), (rfb, .inl (cA 0, 20, .inl ff)), (rb, .inr (0, [.ref rbb, .int (nI RB.length)])), (rbb, .inl (cA 0, 20, .inl fb)), (rq, .inr (0, [.ref rqb, .int (nI RQ.length)])), (rqb, .inl (cA 0, 20, .inl fq))]) (ws2 := fun u => [(ra, .inr (5, [.ref rn, .ref rf, .ref rb, .ref rq])), (rn, .inr (0, [.ref rnb, .int (nI u.2.length)])), (rnb, .inl (cA 0, 8, .inl u.1)), (rf, .inr (0, [.ref rfb, .int (nI RF.length)])), (rfb, .inl (cA 0, 20, .inl ff)), (rb, .inr (0, [.ref rbb, .int (nI RB.length)])), (rbb, .inl (cA 0, 20, .inl fb)), (rq, .inr (0, [.ref rqb, .int (nI RQ.length)])), (rqb, .inl (cA 0, 20, .inl fq)), (a, .inr (0, [.ref b, .int (nI L.length)])), (b, .inl (cA 0, cap, .inl f))]) (c_Rm_readName l D cA K a b cap f L rn rnb 8 fn RN 0 k4 hc hn (by first | assumption | omega) (by first | assumption | omega) (by first | assumption | omega)) hx hb hml hown hts hK hE hA hP hD hS k_Rm_readName n_690 (by decide) rfl hl.1 rfl (Nat.le_of_ble_eq_true rfl) d_Re_parse_25 [9, 10, 1, 2] [0, 3, 4, 5, 6, 7, 8] [0, 9, 10, 1, 2, 3, 4, 5, 6, 7, 8] rfl rfl (by decide) (fun _ => rfl) (fun r25 u25 H locs hq25 hP hD hS => ?_)
  obtain ⟨g2_25, M2_25⟩ := u25
  try dsimp only at hq25
  have hP : va_P D vwCl [(ra, .inr (5, [.ref rn, .ref rf, .ref rb, .ref rq])), (rn, .inr (0, [.ref rnb, .int (nI M2_25.length)])), (rnb, .inl (cA 0, 8, .inl g2_25)), (rf, .inr (0, [.ref rfb, .int (nI RF.length)])), (rfb, .inl (cA 0, 20, .inl ff)), (rb, .inr (0, [.ref rbb, .int (nI RB.length)])), (rbb, .inl (cA 0, 20, .inl fb)), (rq, .inr (0, [.ref rqb, .int (nI RQ.length)])), (rqb, .inl (cA 0, 20, .inl fq)), (a, .inr (0, [.ref b, .int (nI L.length)])), (b, .inl (cA 0, cap, .inl f))] H := hP
  have hD : va_D A [(ra, .inr (5, [.ref rn, .ref rf, .ref rb, .ref rq])), (rn, .inr (0, [.ref rnb, .int (nI M2_25.length)])), (rnb, .inl (cA 0, 8, .inl g2_25)), (rf, .inr (0, [.ref rfb, .int (nI RF.length)])), (rfb, .inl (cA 0, 20, .inl ff)), (rb, .inr (0, [.ref rbb, .int (nI RB.length)])), (rbb, .inl (cA 0, 20, .inl fb)), (rq, .inr (0, [.ref rqb, .int (nI RQ.length)])), (rqb, .inl (cA 0, 20, .inl fq)), (a, .inr (0, [.ref b, .int (nI L.length)])), (b, .inl (cA 0, cap, .inl f))] := hD
  rcases hq25 with ⟨rfl, hq25⟩ | ⟨rfl, hq25⟩
  ·
    obtain ⟨hq25, hnm1, hqm⟩ := hq25
    refine lv_if_eq (tgt := 46) hx hb d_Re_parse_28 (by decide) (fun h9 => absurd h9 (by decide)) (fun _ => ?_)
    refine lv_aload_n hx hb d_Re_parse_31 rfl (lv_at hl 3 rfl) ?_
    refine lv_iload_n hx hb d_Re_parse_32 rfl (lv_at hl 1 rfl) ?_
    refine lv_iconst (v := nI 1) hx hb d_Re_parse_33 (by decide) ?_
    refine wn_iadd hx hb d_Re_parse_34 ?_
    refine lv_iload_n hx hb d_Re_parse_35 rfl (lv_at hl 0 rfl) ?_
    refine lv_aload_n hx hb d_Re_parse_36 rfl (lv_at hl 2 rfl) ?_
    refine va_get (C := RX5) (T := TX5) (N := 4) hx hb hts inX5 hown hK hP 0 rfl rfl 1 (by decide) (hts _ m_112) (fun _ h9 => h9) rfl d_Re_parse_37 ?_
    refine ck_cSN (rest := []) (wr := [(ra, .inr (5, [.ref rn, .ref rf, .ref rb, .ref rq])), (rn, .inr (0, [.ref rnb, .int (nI M2_25.length)])), (rnb, .inl (cA 0, 8, .inl g2_25)), (rb, .inr (0, [.ref rbb, .int (nI RB.length)])), (rbb, .inl (cA 0, 20, .inl fb)), (rq, .inr (0, [.ref rqb, .int (nI RQ.length)])), (rqb, .inl (cA 0, 20, .inl fq))]) (ws2 := fun u => [(ra, .inr (5, [.ref rn, .ref rf, .ref rb, .ref rq])), (rn, .inr (0, [.ref rnb, .int (nI M2_25.length)])), (rnb, .inl (cA 0, 8, .inl g2_25)), (rf, .inr (0, [.ref rfb, .int (nI u.2.length)])), (rfb, .inl (cA 0, 20, .inl u.1)), (rb, .inr (0, [.ref rbb, .int (nI RB.length)])), (rbb, .inl (cA 0, 20, .inl fb)), (rq, .inr (0, [.ref rqb, .int (nI RQ.length)])), (rqb, .inl (cA 0, 20, .inl fq)), (a, .inr (0, [.ref b, .int (nI L.length)])), (b, .inl (cA 0, cap, .inl f))]) (c_Rm_readBases l D cA K a b cap f L rf rfb 20 ff RF (k4 + 1) k14 hc hf (by first | assumption | omega) (by first | assumption | omega)) hx hb hml hown hts hK hE hA hP hD hS k_Rm_readBases n_691 (by decide) rfl hl.1 rfl (Nat.le_of_ble_eq_true rfl) d_Re_parse_40 [9, 10, 3, 4] [0, 1, 2, 5, 6, 7, 8] [0, 1, 2, 9, 10, 3, 4, 5, 6, 7, 8] rfl rfl (by decide) (fun _ => rfl) (fun r40 u40 H locs hq40 hP hD hS => ?_)
    obtain ⟨g2_40, M2_40⟩ := u40
    try dsimp only at hq40
    have hP : va_P D vwCl [(ra, .inr (5, [.ref rn, .ref rf, .ref rb, .ref rq])), (rn, .inr (0, [.ref rnb, .int (nI M2_25.length)])), (rnb, .inl (cA 0, 8, .inl g2_25)), (rf, .inr (0, [.ref rfb, .int (nI M2_40.length)])), (rfb, .inl (cA 0, 20, .inl g2_40)), (rb, .inr (0, [.ref rbb, .int (nI RB.length)])), (rbb, .inl (cA 0, 20, .inl fb)), (rq, .inr (0, [.ref rqb, .int (nI RQ.length)])), (rqb, .inl (cA 0, 20, .inl fq)), (a, .inr (0, [.ref b, .int (nI L.length)])), (b, .inl (cA 0, cap, .inl f))] H := hP
    have hD : va_D A [(ra, .inr (5, [.ref rn, .ref rf, .ref rb, .ref rq])), (rn, .inr (0, [.ref rnb, .int (nI M2_25.length)])), (rnb, .inl (cA 0, 8, .inl g2_25)), (rf, .inr (0, [.ref rfb, .int (nI M2_40.length)])), (rfb, .inl (cA 0, 20, .inl g2_40)), (rb, .inr (0, [.ref rbb, .int (nI RB.length)])), (rbb, .inl (cA 0, 20, .inl fb)), (rq, .inr (0, [.ref rqb, .int (nI RQ.length)])), (rqb, .inl (cA 0, 20, .inl fq)), (a, .inr (0, [.ref b, .int (nI L.length)])), (b, .inl (cA 0, cap, .inl f))] := hD
    rcases hq40 with ⟨rfl, hq40⟩ | ⟨rfl, hq40⟩
    ·
      obtain ⟨hq40, hbs1, hqe⟩ := hq40
      have hlR : M2_40.length = k14 - (k4 + 1) := by rw [hqe]; exact bs_len hbs1.2.2.1
      have hbs2 := hbs1.2.1
      refine lv_if_ne (tgt := 48) hx hb d_Re_parse_43 (by decide) (fun _ => ?_) (fun h9 => absurd h9 (by decide))
      refine lv_aload_n hx hb d_Re_parse_48 rfl (lv_at hl 2 rfl) ?_
      refine ck_cVv (C := "ReadMapper$Read") (ci := 5) (rest := []) (wr := [(rn, .inr (0, [.ref rnb, .int (nI M2_25.length)])), (rnb, .inl (cA 0, 8, .inl g2_25)), (rq, .inr (0, [.ref rqb, .int (nI RQ.length)])), (rqb, .inl (cA 0, 20, .inl fq)), (a, .inr (0, [.ref b, .int (nI L.length)])), (b, .inl (cA 0, cap, .inl f))]) (ws2 := fun u => [(ra, .inr (5, [.ref rn, .ref rf, .ref rb, .ref rq])), (rn, .inr (0, [.ref rnb, .int (nI M2_25.length)])), (rnb, .inl (cA 0, 8, .inl g2_25)), (rf, .inr (0, [.ref rfb, .int (nI M2_40.length)])), (rfb, .inl (cA 0, 20, .inl g2_40)), (rb, .inr (0, [.ref rbb, .int (nI ((tb_c M2_40 0).length))])), (rbb, .inl (cA 0, 20, .inl u)), (rq, .inr (0, [.ref rqb, .int (nI RQ.length)])), (rqb, .inl (cA 0, 20, .inl fq)), (a, .inr (0, [.ref b, .int (nI L.length)])), (b, .inl (cA 0, cap, .inl f))]) (c_Re_turnBases l D cA K ra rn 0 rf rfb rb rbb rq 0 g2_40 fb M2_40 RB hq40 hbk (by rw [hqe]; exact s5_all hbs1)) hx hb hml hown hts hK hE hA hP hD hS k_Re_turnBases m_692 (by decide) 0 rfl rfl rfl hl.1 rfl (Nat.le_of_ble_eq_true rfl) d_Re_parse_49  [0, 3, 4, 5, 6] [1, 2, 7, 8, 9, 10] [6, 0, 1, 7, 8, 9, 10, 2, 3, 4, 5] rfl rfl (by decide) (fun _ => rfl) (fun u49 H locs hq49 hP hD hS => ?_)
      obtain ⟨fb2_49, rfl⟩ : ∃ z, z = u49 := ⟨_, rfl⟩
      try dsimp only at hq49
      have hP : va_P D vwCl [(ra, .inr (5, [.ref rn, .ref rf, .ref rb, .ref rq])), (rn, .inr (0, [.ref rnb, .int (nI M2_25.length)])), (rnb, .inl (cA 0, 8, .inl g2_25)), (rf, .inr (0, [.ref rfb, .int (nI M2_40.length)])), (rfb, .inl (cA 0, 20, .inl g2_40)), (rb, .inr (0, [.ref rbb, .int (nI ((tb_c M2_40 0).length))])), (rbb, .inl (cA 0, 20, .inl fb2_49)), (rq, .inr (0, [.ref rqb, .int (nI RQ.length)])), (rqb, .inl (cA 0, 20, .inl fq)), (a, .inr (0, [.ref b, .int (nI L.length)])), (b, .inl (cA 0, cap, .inl f))] H := hP
      have hD : va_D A [(ra, .inr (5, [.ref rn, .ref rf, .ref rb, .ref rq])), (rn, .inr (0, [.ref rnb, .int (nI M2_25.length)])), (rnb, .inl (cA 0, 8, .inl g2_25)), (rf, .inr (0, [.ref rfb, .int (nI M2_40.length)])), (rfb, .inl (cA 0, 20, .inl g2_40)), (rb, .inr (0, [.ref rbb, .int (nI ((tb_c M2_40 0).length))])), (rbb, .inl (cA 0, 20, .inl fb2_49)), (rq, .inr (0, [.ref rqb, .int (nI RQ.length)])), (rqb, .inl (cA 0, 20, .inl fq)), (a, .inr (0, [.ref b, .int (nI L.length)])), (b, .inl (cA 0, cap, .inl f))] := hD
      refine lv_aload_n hx hb d_Re_parse_52 rfl (lv_at hl 2 rfl) ?_
      refine va_get (C := RX5) (T := TX5) (N := 4) hx hb hts inX5 hown hK hP 0 rfl rfl 3 (by decide) (hts _ m_114) (fun _ h9 => h9) rfl d_Re_parse_53 ?_
      refine ck_cVv (C := "ReadMapper$Codes") (ci := 0) (rest := []) (wr := [(ra, .inr (5, [.ref rn, .ref rf, .ref rb, .ref rq])), (rn, .inr (0, [.ref rnb, .int (nI M2_25.length)])), (rnb, .inl (cA 0, 8, .inl g2_25)), (rf, .inr (0, [.ref rfb, .int (nI M2_40.length)])), (rfb, .inl (cA 0, 20, .inl g2_40)), (rb, .inr (0, [.ref rbb, .int (nI ((tb_c M2_40 0).length))])), (rbb, .inl (cA 0, 20, .inl fb2_49)), (a, .inr (0, [.ref b, .int (nI L.length)])), (b, .inl (cA 0, cap, .inl f))]) (ws2 := fun u => [(ra, .inr (5, [.ref rn, .ref rf, .ref rb, .ref rq])), (rn, .inr (0, [.ref rnb, .int (nI M2_25.length)])), (rnb, .inl (cA 0, 8, .inl g2_25)), (rf, .inr (0, [.ref rfb, .int (nI M2_40.length)])), (rfb, .inl (cA 0, 20, .inl g2_40)), (rb, .inr (0, [.ref rbb, .int (nI ((tb_c M2_40 0).length))])), (rbb, .inl (cA 0, 20, .inl fb2_49)), (rq, .inr (0, [.ref rqb, .int (nI (([] : List Int32).length))])), (rqb, .inl (cA 0, 20, .inl fq)), (a, .inr (0, [.ref b, .int (nI L.length)])), (b, .inl (cA 0, cap, .inl f))]) (c_Co_clear l D cA K rq rqb 20 fq RQ (by first | assumption | omega)) hx hb hml hown hts hK hE hA hP hD hS k_Co_clear m_696 (by decide) 7 rfl rfl rfl hl.1 rfl (Nat.le_of_ble_eq_true rfl) d_Re_parse_56  [7, 8] [0, 1, 2, 3, 4, 5, 6, 9, 10] [0, 1, 2, 3, 4, 5, 6, 9, 10, 7, 8] rfl rfl (by decide) (fun _ => rfl) (fun u56 H locs hq56 hP hD hS => ?_)
      try dsimp only at hq56
      have hP : va_P D vwCl [(ra, .inr (5, [.ref rn, .ref rf, .ref rb, .ref rq])), (rn, .inr (0, [.ref rnb, .int (nI M2_25.length)])), (rnb, .inl (cA 0, 8, .inl g2_25)), (rf, .inr (0, [.ref rfb, .int (nI M2_40.length)])), (rfb, .inl (cA 0, 20, .inl g2_40)), (rb, .inr (0, [.ref rbb, .int (nI ((tb_c M2_40 0).length))])), (rbb, .inl (cA 0, 20, .inl fb2_49)), (rq, .inr (0, [.ref rqb, .int (nI (([] : List Int32).length))])), (rqb, .inl (cA 0, 20, .inl fq)), (a, .inr (0, [.ref b, .int (nI L.length)])), (b, .inl (cA 0, cap, .inl f))] H := hP
      have hD : va_D A [(ra, .inr (5, [.ref rn, .ref rf, .ref rb, .ref rq])), (rn, .inr (0, [.ref rnb, .int (nI M2_25.length)])), (rnb, .inl (cA 0, 8, .inl g2_25)), (rf, .inr (0, [.ref rfb, .int (nI M2_40.length)])), (rfb, .inl (cA 0, 20, .inl g2_40)), (rb, .inr (0, [.ref rbb, .int (nI ((tb_c M2_40 0).length))])), (rbb, .inl (cA 0, 20, .inl fb2_49)), (rq, .inr (0, [.ref rqb, .int (nI (([] : List Int32).length))])), (rqb, .inl (cA 0, 20, .inl fq)), (a, .inr (0, [.ref b, .int (nI L.length)])), (b, .inl (cA 0, cap, .inl f))] := hD
      refine lv_iload_n hx hb d_Re_parse_59 rfl (lv_at hl 0 rfl) ?_
      refine lv_aload_n hx hb d_Re_parse_60 rfl (lv_at hl 3 rfl) ?_
      refine ck_cV (C := "ReadMapper$Codes") (ci := 0) (rest := [.int (nI k14)]) (wr := [(ra, .inr (5, [.ref rn, .ref rf, .ref rb, .ref rq])), (rn, .inr (0, [.ref rnb, .int (nI M2_25.length)])), (rnb, .inl (cA 0, 8, .inl g2_25)), (rf, .inr (0, [.ref rfb, .int (nI M2_40.length)])), (rfb, .inl (cA 0, 20, .inl g2_40)), (rb, .inr (0, [.ref rbb, .int (nI ((tb_c M2_40 0).length))])), (rbb, .inl (cA 0, 20, .inl fb2_49)), (rq, .inr (0, [.ref rqb, .int (nI (([] : List Int32).length))])), (rqb, .inl (cA 0, 20, .inl fq))]) (ws2 := fun u => [(ra, .inr (5, [.ref rn, .ref rf, .ref rb, .ref rq])), (rn, .inr (0, [.ref rnb, .int (nI M2_25.length)])), (rnb, .inl (cA 0, 8, .inl g2_25)), (rf, .inr (0, [.ref rfb, .int (nI M2_40.length)])), (rfb, .inl (cA 0, 20, .inl g2_40)), (rb, .inr (0, [.ref rbb, .int (nI ((tb_c M2_40 0).length))])), (rbb, .inl (cA 0, 20, .inl fb2_49)), (rq, .inr (0, [.ref rqb, .int (nI (([] : List Int32).length))])), (rqb, .inl (cA 0, 20, .inl fq)), (a, .inr (0, [.ref b, .int (nI L.length)])), (b, .inl (cA 0, cap, .inl f))]) (c_Co_size l D cA K a b cap f L (by first | assumption | omega)) hx hb hml hown hts hK hE hA hP hD hS k_Co_size m_423 (by decide) 9 rfl rfl rfl hl.1 rfl (Nat.le_of_ble_eq_true rfl) d_Re_parse_61  [9, 10] [0, 1, 2, 3, 4, 5, 6, 7, 8] [0, 1, 2, 3, 4, 5, 6, 7, 8, 9, 10] rfl rfl (by decide) (fun _ => rfl) (fun r61 u61 H locs hq61 hP hD hS => ?_)
      try dsimp only at hq61
      have hP : va_P D vwCl [(ra, .inr (5, [.ref rn, .ref rf, .ref rb, .ref rq])), (rn, .inr (0, [.ref rnb, .int (nI M2_25.length)])), (rnb, .inl (cA 0, 8, .inl g2_25)), (rf, .inr (0, [.ref rfb, .int (nI M2_40.length)])), (rfb, .inl (cA 0, 20, .inl g2_40)), (rb, .inr (0, [.ref rbb, .int (nI ((tb_c M2_40 0).length))])), (rbb, .inl (cA 0, 20, .inl fb2_49)), (rq, .inr (0, [.ref rqb, .int (nI (([] : List Int32).length))])), (rqb, .inl (cA 0, 20, .inl fq)), (a, .inr (0, [.ref b, .int (nI L.length)])), (b, .inl (cA 0, cap, .inl f))] H := hP
      have hD : va_D A [(ra, .inr (5, [.ref rn, .ref rf, .ref rb, .ref rq])), (rn, .inr (0, [.ref rnb, .int (nI M2_25.length)])), (rnb, .inl (cA 0, 8, .inl g2_25)), (rf, .inr (0, [.ref rfb, .int (nI M2_40.length)])), (rfb, .inl (cA 0, 20, .inl g2_40)), (rb, .inr (0, [.ref rbb, .int (nI ((tb_c M2_40 0).length))])), (rbb, .inl (cA 0, 20, .inl fb2_49)), (rq, .inr (0, [.ref rqb, .int (nI (([] : List Int32).length))])), (rqb, .inl (cA 0, 20, .inl fq)), (a, .inr (0, [.ref b, .int (nI L.length)])), (b, .inl (cA 0, cap, .inl f))] := hD
      obtain rfl := hq61
      refine wn_icmp_eq (by omega) (by omega) (tgt := 78) hx hb d_Re_parse_64 (by decide) ?_ ?_
      · intro h64
        refine lv_iconst (v := 1) hx hb d_Re_parse_78 (by decide) ?_
        refine lv_goto (tgt := 83) hx hb d_Re_parse_79 (by decide) ?_
        exact hret 1 (g2_25, M2_25, g2_40, M2_40, fb2_49, tb_c M2_40 0, fq, ([] : List Int32)) _ _ _ 83 d_Re_parse_83 (by first | exact Or.inl ⟨rfl, ⟨hq25, hq40, hq49, hq56⟩, k4, k14, ⟨hq4, hq14, hnm1, hbs1, Or.inl h64⟩, hqm, hqe, rfl, Or.inl ⟨h64, rfl⟩⟩ | exact Or.inl ⟨rfl, ⟨hq25, hq40, hq49, hq72.1⟩, k4, k14, ⟨hq4, hq14, hnm1, hbs1, Or.inr (by rw [← hlR]; exact hq72.2.1)⟩, hqm, hqe, rfl, Or.inr ⟨by omega, hq72.2.2⟩⟩ | exact Or.inr ⟨rfl, ⟨hq25, hq40, hq49, hq72.1⟩, fun ⟨k, e, z⟩ => by have e1 := nx_un z.1 hq4; subst e1; have e2 := nx_un z.2.1 hq14; subst e2; exact z.2.2.2.2.elim (fun y => h64 y) (fun y => hq72.2 (by rw [hlR]; exact y))⟩) hP hD hS
      · intro h64
        refine lv_aload_n hx hb d_Re_parse_67 rfl (lv_at hl 2 rfl) ?_
        refine lv_aload_n hx hb d_Re_parse_68 rfl (lv_at hl 3 rfl) ?_
        refine lv_iload_n hx hb d_Re_parse_69 rfl (lv_at hl 0 rfl) ?_
        refine lv_iconst (v := nI 1) hx hb d_Re_parse_70 (by decide) ?_
        refine wn_iadd hx hb d_Re_parse_71 ?_
        refine ck_cV (C := "ReadMapper$Read") (ci := 5) (rest := []) (wr := [(rn, .inr (0, [.ref rnb, .int (nI M2_25.length)])), (rnb, .inl (cA 0, 8, .inl g2_25)), (rb, .inr (0, [.ref rbb, .int (nI ((tb_c M2_40 0).length))])), (rbb, .inl (cA 0, 20, .inl fb2_49))]) (ws2 := fun u => [(ra, .inr (5, [.ref rn, .ref rf, .ref rb, .ref rq])), (rn, .inr (0, [.ref rnb, .int (nI M2_25.length)])), (rnb, .inl (cA 0, 8, .inl g2_25)), (rf, .inr (0, [.ref rfb, .int (nI M2_40.length)])), (rfb, .inl (cA 0, 20, .inl g2_40)), (rb, .inr (0, [.ref rbb, .int (nI ((tb_c M2_40 0).length))])), (rbb, .inl (cA 0, 20, .inl fb2_49)), (rq, .inr (0, [.ref rqb, .int (nI u.2.length)])), (rqb, .inl (cA 0, 20, .inl u.1)), (a, .inr (0, [.ref b, .int (nI L.length)])), (b, .inl (cA 0, cap, .inl f))]) (c_Re_readQualities l D cA K ra rn 0 rf rfb rb 0 rq rqb g2_40 fq M2_40 a b cap f L (k14 + 1) hq40 hq56 hc (by first | assumption | omega)) hx hb hml hown hts hK hE hA hP hD hS k_Re_readQualities m_701 (by decide) 0 rfl rfl rfl hl.1 rfl (Nat.le_of_ble_eq_true rfl) d_Re_parse_72  [0, 3, 4, 7, 8, 9, 10] [1, 2, 5, 6] [4, 0, 1, 5, 6, 2, 3, 7, 8, 9, 10] rfl rfl (by decide) (fun _ => rfl) (fun r72 u72 H locs hq72 hP hD hS => ?_)
        obtain ⟨fq2_72, RQ2_72⟩ := u72
        try dsimp only at hq72
        have hP : va_P D vwCl [(ra, .inr (5, [.ref rn, .ref rf, .ref rb, .ref rq])), (rn, .inr (0, [.ref rnb, .int (nI M2_25.length)])), (rnb, .inl (cA 0, 8, .inl g2_25)), (rf, .inr (0, [.ref rfb, .int (nI M2_40.length)])), (rfb, .inl (cA 0, 20, .inl g2_40)), (rb, .inr (0, [.ref rbb, .int (nI ((tb_c M2_40 0).length))])), (rbb, .inl (cA 0, 20, .inl fb2_49)), (rq, .inr (0, [.ref rqb, .int (nI RQ2_72.length)])), (rqb, .inl (cA 0, 20, .inl fq2_72)), (a, .inr (0, [.ref b, .int (nI L.length)])), (b, .inl (cA 0, cap, .inl f))] H := hP
        have hD : va_D A [(ra, .inr (5, [.ref rn, .ref rf, .ref rb, .ref rq])), (rn, .inr (0, [.ref rnb, .int (nI M2_25.length)])), (rnb, .inl (cA 0, 8, .inl g2_25)), (rf, .inr (0, [.ref rfb, .int (nI M2_40.length)])), (rfb, .inl (cA 0, 20, .inl g2_40)), (rb, .inr (0, [.ref rbb, .int (nI ((tb_c M2_40 0).length))])), (rbb, .inl (cA 0, 20, .inl fb2_49)), (rq, .inr (0, [.ref rqb, .int (nI RQ2_72.length)])), (rqb, .inl (cA 0, 20, .inl fq2_72)), (a, .inr (0, [.ref b, .int (nI L.length)])), (b, .inl (cA 0, cap, .inl f))] := hD
        rcases hq72 with ⟨rfl, hq72⟩ | ⟨rfl, hq72⟩
        ·
          refine lv_if_eq (tgt := 82) hx hb d_Re_parse_75 (by decide) (fun h9 => absurd h9 (by decide)) (fun _ => ?_)
          refine lv_iconst (v := 1) hx hb d_Re_parse_78 (by decide) ?_
          refine lv_goto (tgt := 83) hx hb d_Re_parse_79 (by decide) ?_
          exact hret 1 (g2_25, M2_25, g2_40, M2_40, fb2_49, tb_c M2_40 0, fq2_72, RQ2_72) _ _ _ 83 d_Re_parse_83 (by first | exact Or.inl ⟨rfl, ⟨hq25, hq40, hq49, hq56⟩, k4, k14, ⟨hq4, hq14, hnm1, hbs1, Or.inl h64⟩, hqm, hqe, rfl, Or.inl ⟨h64, rfl⟩⟩ | exact Or.inl ⟨rfl, ⟨hq25, hq40, hq49, hq72.1⟩, k4, k14, ⟨hq4, hq14, hnm1, hbs1, Or.inr (by rw [← hlR]; exact hq72.2.1)⟩, hqm, hqe, rfl, Or.inr ⟨by omega, hq72.2.2⟩⟩ | exact Or.inr ⟨rfl, ⟨hq25, hq40, hq49, hq72.1⟩, fun ⟨k, e, z⟩ => by have e1 := nx_un z.1 hq4; subst e1; have e2 := nx_un z.2.1 hq14; subst e2; exact z.2.2.2.2.elim (fun y => h64 y) (fun y => hq72.2 (by rw [hlR]; exact y))⟩) hP hD hS
        ·
          refine lv_if_eq (tgt := 82) hx hb d_Re_parse_75 (by decide) (fun _ => ?_) (fun h9 => absurd h9 (by decide))
          refine lv_iconst (v := 0) hx hb d_Re_parse_82 (by decide) ?_
          exact hret 0 (g2_25, M2_25, g2_40, M2_40, fb2_49, tb_c M2_40 0, fq2_72, RQ2_72) _ _ _ 83 d_Re_parse_83 (by first | exact Or.inl ⟨rfl, ⟨hq25, hq40, hq49, hq56⟩, k4, k14, ⟨hq4, hq14, hnm1, hbs1, Or.inl h64⟩, hqm, hqe, rfl, Or.inl ⟨h64, rfl⟩⟩ | exact Or.inl ⟨rfl, ⟨hq25, hq40, hq49, hq72.1⟩, k4, k14, ⟨hq4, hq14, hnm1, hbs1, Or.inr (by rw [← hlR]; exact hq72.2.1)⟩, hqm, hqe, rfl, Or.inr ⟨by omega, hq72.2.2⟩⟩ | exact Or.inr ⟨rfl, ⟨hq25, hq40, hq49, hq72.1⟩, fun ⟨k, e, z⟩ => by have e1 := nx_un z.1 hq4; subst e1; have e2 := nx_un z.2.1 hq14; subst e2; exact z.2.2.2.2.elim (fun y => h64 y) (fun y => hq72.2 (by rw [hlR]; exact y))⟩) hP hD hS
    ·
      refine lv_if_ne (tgt := 48) hx hb d_Re_parse_43 (by decide) (fun h9 => absurd h9 (by decide)) (fun _ => ?_)
      refine lv_iconst (v := 0) hx hb d_Re_parse_46 (by decide) ?_
      exact hret 0 (g2_25, M2_25, g2_40, M2_40, fb, RB, fq, RQ) _ _ _ 47 d_Re_parse_47 (by first | exact Or.inr ⟨rfl, ⟨hq25.1, hf, hbk, hq⟩, fun ⟨k, e, z⟩ => hq25.2 (by rw [← nx_un z.1 hq4]; exact z.2.2.1)⟩ | exact Or.inr ⟨rfl, ⟨hq25, hq40.1, hbk, hq⟩, fun ⟨k, e, z⟩ => hq40.2 (by have e1 := nx_un z.1 hq4; subst e1; rw [← nx_un z.2.1 hq14]; exact z.2.2.2.1)⟩) hP hD hS
  ·
    refine lv_if_eq (tgt := 46) hx hb d_Re_parse_28 (by decide) (fun _ => ?_) (fun h9 => absurd h9 (by decide))
    refine lv_iconst (v := 0) hx hb d_Re_parse_46 (by decide) ?_
    exact hret 0 (g2_25, M2_25, ff, RF, fb, RB, fq, RQ) _ _ _ 47 d_Re_parse_47 (by first | exact Or.inr ⟨rfl, ⟨hq25.1, hf, hbk, hq⟩, fun ⟨k, e, z⟩ => hq25.2 (by rw [← nx_un z.1 hq4]; exact z.2.2.1)⟩ | exact Or.inr ⟨rfl, ⟨hq25, hq40.1, hbk, hq⟩, fun ⟨k, e, z⟩ => hq40.2 (by have e1 := nx_un z.1 hq4; subst e1; rw [← nx_un z.2.1 hq14]; exact z.2.2.2.1)⟩) hP hD hS
theorem k_Re_parse : cf_V y_Re_parse b_Re_parse 4 (some .boolean) "ReadMapper$Read" 1 := ⟨⟨m_686, m_687, m_5, m_688⟩, by decide +kernel⟩
