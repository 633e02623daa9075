/-! the image in mathematics -/
/-- the sum over the first n bytes -/
def su_c (L : List Int32) : Nat → Int32
  | 0 => 17
  | n + 1 => 31 * su_c L n + L.getD n 0
def b4_c (x : Int32) (k : Nat) : Int32 := (x.toUInt32 >>> ((nI k).toUInt32 &&& Int32.toUInt32 31)).toInt32 &&& 255
def s4_c (x : Int32) : List Int32 := [b4_c x 24, b4_c x 16, b4_c x 8, b4_c x 0]
theorem s4_app {L : List Int32} {x : Int32} : (((L ++ [(x.toUInt32 >>> ((nI 24).toUInt32 &&& Int32.toUInt32 31)).toInt32 &&& 255]) ++ [(x.toUInt32 >>> ((nI 16).toUInt32 &&& Int32.toUInt32 31)).toInt32 &&& 255]) ++ [(x.toUInt32 >>> ((nI 8).toUInt32 &&& Int32.toUInt32 31)).toInt32 &&& 255]) ++ [(x.toUInt32 >>> ((nI 0).toUInt32 &&& Int32.toUInt32 31)).toInt32 &&& 255] = L ++ s4_c x := by
  rw [List.append_assoc, List.append_assoc, List.append_assoc]; rfl
/-- the bytes of the first n pieces -/
def dp_c (NM : Nat → List Int32) (ln : Nat → Int32) : Nat → List Int32
  | 0 => []
  | p + 1 => dp_c NM ln p ++ ([nI (NM p).length] ++ NM p ++ [ln p])
/-- the first n of a row -/
def tk_c (f : Nat → Int32) : Nat → List Int32
  | 0 => []
  | n + 1 => tk_c f n ++ [f n]
/-- the samples among the first n endings -/
def sm_c (sa : Nat → Nat) (rt : Nat) : Nat → List Int32
  | 0 => []
  | n + 1 => sm_c sa rt n ++ (if sa n % rt = 0 then [nI (sa n)] else [])
theorem tk_len (f : Nat → Int32) (n : Nat) : (tk_c f n).length = n := by
  induction n with
  | zero => rfl
  | succ n ih => show (tk_c f n ++ [f n]).length = n + 1; rw [List.length_append, ih]; rfl
theorem sm_len (sa : Nat → Nat) (rt n : Nat) : (sm_c sa rt n).length ≤ n := by
  induction n with
  | zero => exact Nat.le_refl _
  | succ n ih =>
    show (sm_c sa rt n ++ _).length ≤ n + 1
    rw [List.length_append]
    split
    · show _ + 1 ≤ _; omega
    · show _ + 0 ≤ _; omega
theorem dp_mono (NM : Nat → List Int32) (ln : Nat → Int32) {i j : Nat} (h : i ≤ j) : (dp_c NM ln i).length ≤ (dp_c NM ln j).length := by
  induction j with
  | zero => rw [show i = 0 by omega]; exact Nat.le_refl _
  | succ j ih =>
    by_cases e : i = j + 1
    · subst e; exact Nat.le_refl _
    · have := ih (by omega)
      show _ ≤ (dp_c NM ln j ++ _).length
      rw [List.length_append]; omega
theorem dp_step (NM : Nat → List Int32) (ln : Nat → Int32) (j : Nat) : (dp_c NM ln (j + 1)).length = (dp_c NM ln j).length + (NM j).length + 2 := by
  show (dp_c NM ln j ++ ([nI (NM j).length] ++ NM j ++ [ln j])).length = _
  simp only [List.length_append, List.length_cons, List.length_nil]; omega

theorem d_In_appendSum_0 : decode b_In_appendSum 0 = .ok (.bipush 17, 2) := by decide +kernel
theorem d_In_appendSum_2 : decode b_In_appendSum 2 = .ok (.istore_n 1, 1) := by decide +kernel
theorem d_In_appendSum_3 : decode b_In_appendSum 3 = .ok (.iconst 0, 1) := by decide +kernel
theorem d_In_appendSum_4 : decode b_In_appendSum 4 = .ok (.istore_n 2, 1) := by decide +kernel
theorem d_In_appendSum_5 : decode b_In_appendSum 5 = .ok (.iload_n 2, 1) := by decide +kernel
theorem d_In_appendSum_6 : decode b_In_appendSum 6 = .ok (.aload_n 0, 1) := by decide +kernel
theorem d_In_appendSum_7 : decode b_In_appendSum 7 = .ok (.invokevirtual 53, 3) := by decide +kernel
theorem d_In_appendSum_10 : decode b_In_appendSum 10 = .ok (.if_icmp .ge 20, 3) := by decide +kernel
theorem d_In_appendSum_13 : decode b_In_appendSum 13 = .ok (.bipush 31, 2) := by decide +kernel
theorem d_In_appendSum_15 : decode b_In_appendSum 15 = .ok (.iload_n 1, 1) := by decide +kernel
theorem d_In_appendSum_16 : decode b_In_appendSum 16 = .ok (.imul, 1) := by decide +kernel
theorem d_In_appendSum_17 : decode b_In_appendSum 17 = .ok (.aload_n 0, 1) := by decide +kernel
theorem d_In_appendSum_18 : decode b_In_appendSum 18 = .ok (.iload_n 2, 1) := by decide +kernel
theorem d_In_appendSum_19 : decode b_In_appendSum 19 = .ok (.invokevirtual 58, 3) := by decide +kernel
theorem d_In_appendSum_22 : decode b_In_appendSum 22 = .ok (.iadd, 1) := by decide +kernel
theorem d_In_appendSum_23 : decode b_In_appendSum 23 = .ok (.istore_n 1, 1) := by decide +kernel
theorem d_In_appendSum_24 : decode b_In_appendSum 24 = .ok (.iinc 2 1, 3) := by decide +kernel
theorem d_In_appendSum_27 : decode b_In_appendSum 27 = .ok (.goto (-22), 3) := by decide +kernel
theorem d_In_appendSum_30 : decode b_In_appendSum 30 = .ok (.bipush 24, 2) := by decide +kernel
theorem d_In_appendSum_32 : decode b_In_appendSum 32 = .ok (.istore_n 2, 1) := by decide +kernel
theorem d_In_appendSum_33 : decode b_In_appendSum 33 = .ok (.iload_n 2, 1) := by decide +kernel
theorem d_In_appendSum_34 : decode b_In_appendSum 34 = .ok (.ifCond .lt 20, 3) := by decide +kernel
theorem d_In_appendSum_37 : decode b_In_appendSum 37 = .ok (.aload_n 0, 1) := by decide +kernel
theorem d_In_appendSum_38 : decode b_In_appendSum 38 = .ok (.iload_n 1, 1) := by decide +kernel
theorem d_In_appendSum_39 : decode b_In_appendSum 39 = .ok (.iload_n 2, 1) := by decide +kernel
theorem d_In_appendSum_40 : decode b_In_appendSum 40 = .ok (.iushr, 1) := by decide +kernel
theorem d_In_appendSum_41 : decode b_In_appendSum 41 = .ok (.sipush 255, 3) := by decide +kernel
theorem d_In_appendSum_44 : decode b_In_appendSum 44 = .ok (.iand, 1) := by decide +kernel
theorem d_In_appendSum_45 : decode b_In_appendSum 45 = .ok (.invokevirtual 78, 3) := by decide +kernel
theorem d_In_appendSum_48 : decode b_In_appendSum 48 = .ok (.iinc 2 (-8), 3) := by decide +kernel
theorem d_In_appendSum_51 : decode b_In_appendSum 51 = .ok (.goto (-18), 3) := by decide +kernel
theorem d_In_appendSum_54 : decode b_In_appendSum 54 = .ok (.return_, 1) := by decide +kernel
set_option maxHeartbeats 4000000 in
set_option maxRecDepth 100000 in
theorem c_In_appendSum (l : Launch) (D : va_G) (cA : Nat → ClassId) (K : Nat → Nat) (a b cap : Nat) (f : Nat → Int32) (L : List Int32) (hc : cd_r cap f L) (hr : L.length + 4 ≤ cap) : ck_V l y_In_appendSum (Cond.code y_In_appendSum b_In_appendSum 3 none :: w_all) 2 D cA K [.ref a] [(a, .inr (0, [.ref b, .int (nI L.length)])), (b, .inl (cA 0, cap, .inl f))] (fun (u : Nat → Int32) => cd_r cap u (L ++ s4_c (su_c L L.length))) (fun u => [(a, .inr (0, [.ref b, .int (nI ((L ++ s4_c (su_c L L.length)).length))])), (b, .inl (cA 0, cap, .inl u))]) := by
  refine ck_mkV (by decide) (Nat.le_of_ble_eq_true rfl) ?_
  intro pG eG sG mG argsG belowG methG cG Q A H locs ls hx hb hml hown hts hK hE hA hP hD hS hl hret
  have hl : lv_has ls 3 [(0, .ref a)] := hl
  have hl1 := cd_len hc
  refine lv_bipush (v := 17) hx hb d_In_appendSum_0 (by decide) ?_
  refine lv_istore_n (lv' := [(1, .int 17), (0, .ref a)]) hx hb d_In_appendSum_2 rfl hl (by decide) rfl (fun ls hl => ?_)
  refine lv_iconst (v := nI 0) hx hb d_In_appendSum_3 (by decide) ?_
  refine lv_istore_n (lv' := [(2, .int (nI 0)), (1, .int 17), (0, .ref a)]) hx hb d_In_appendSum_4 rfl hl (by decide) rfl (fun ls hl => ?_)
  have L5 : ∀ (nG : Nat) (i : Nat) (H : Heap) (locs : List Loc) (ls : Array Slot), L.length - i = nG → (i ≤ L.length) →  va_P D vwCl [(a, .inr (0, [.ref b, .int (nI L.length)])), (b, .inl (cA 0, cap, .inl f))] H → va_D A [(a, .inr (0, [.ref b, .int (nI L.length)])), (b, .inl (cA 0, cap, .inl f))] → va_S A sG.heap H locs → lv_has ls 3 [(0, .ref a), (1, .int (su_c L i)), (2, .int (nI i))] → W pG l eG (rm_d 2) sG mG argsG belowG methG cG H locs 0 0 Q (F0 mG 5 ls []) := by
    intro nG
    induction nG using Nat.strongRecOn with
    | ind nG ih5 =>
      intro i H locs ls hn5 hi hP hD hS hl
      refine lv_iload_n hx hb d_In_appendSum_5 rfl (lv_at hl 2 rfl) ?_
      refine lv_aload_n hx hb d_In_appendSum_6 rfl (lv_at hl 0 rfl) ?_
      refine ck_cV (C := "ReadMapper$Codes") (ci := 0) (rest := [.int (nI i)]) (wr := []) (ws2 := fun u => [(a, .inr (0, [.ref b, .int (nI L.length)])), (b, .inl (cA 0, cap, .inl f))]) (c_Co_size l D cA K a b cap f L (by first | assumption | omega)) hx hb hml hown hts hK hE hA hP hD hS k_Co_size m_672 (by decide) 0 rfl rfl rfl hl.1 rfl (Nat.le_of_ble_eq_true rfl) d_In_appendSum_7  [0, 1] [] [0, 1] rfl rfl (by decide) (fun _ => rfl) (fun r7 u7 H locs hq7 hP hD hS => ?_)
      try dsimp only at hq7
      have hP : va_P D vwCl [(a, .inr (0, [.ref b, .int (nI L.length)])), (b, .inl (cA 0, cap, .inl f))] H := hP
      have hD : va_D A [(a, .inr (0, [.ref b, .int (nI L.length)])), (b, .inl (cA 0, cap, .inl f))] := hD
      obtain rfl := hq7
      refine wn_icmp_ge (by omega) (by omega) (tgt := 30) hx hb d_In_appendSum_10 (by decide) ?_ ?_
      · intro h10
        have hiL : i = L.length := by omega
        subst hiL
        refine lv_bipush (v := nI 24) hx hb d_In_appendSum_30 (by decide) ?_
        refine lv_istore_n (lv' := [(2, .int (nI 24)), (0, .ref a), (1, .int (su_c L L.length))]) hx hb d_In_appendSum_32 rfl hl (by decide) rfl (fun ls hl => ?_)
        refine lv_iload_n hx hb d_In_appendSum_33 rfl (lv_at hl 0 rfl) ?_
        refine lv_if_lt (tgt := 54) hx hb d_In_appendSum_34 (by decide) (fun h9 => absurd h9 (by decide)) (fun _ => ?_)
        refine lv_aload_n hx hb d_In_appendSum_37 rfl (lv_at hl 1 rfl) ?_
        refine lv_iload_n hx hb d_In_appendSum_38 rfl (lv_at hl 2 rfl) ?_
        refine lv_iload_n hx hb d_In_appendSum_39 rfl (lv_at hl 0 rfl) ?_
        refine lv_iushr hx hb d_In_appendSum_40 rfl ?_
        refine lv_sipush (v := 255) hx hb d_In_appendSum_41 (by decide) ?_
        refine lv_iand hx hb d_In_appendSum_44 ?_
        refine ck_cVv (C := "ReadMapper$Codes") (ci := 0) (rest := []) (wr := []) (ws2 := fun u => [(a, .inr (0, [.ref b, .int (nI ((L ++ [((((su_c L L.length).toUInt32 >>> ((nI 24).toUInt32 &&& Int32.toUInt32 31)).toInt32) &&& 255)]).length))])), (b, .inl (cA 0, cap, .inl u))]) (c_Co_append l D cA K a b cap f L ((((su_c L L.length).toUInt32 >>> ((nI 24).toUInt32 &&& Int32.toUInt32 31)).toInt32) &&& 255) (by first | assumption | omega | (simp only [List.length_append, List.length_cons, List.length_nil]; omega)) (by first | assumption | omega | (simp only [List.length_append, List.length_cons, List.length_nil]; omega))) hx hb hml hown hts hK hE hA hP hD hS k_Co_append m_756 (by decide) 0 rfl rfl rfl hl.1 rfl (Nat.le_of_ble_eq_true rfl) d_In_appendSum_45  [0, 1] [] [0, 1] rfl rfl (by decide) (fun _ => rfl) (fun u45 H locs hq45 hP hD hS => ?_)
        obtain ⟨f2_45, rfl⟩ : ∃ z, z = u45 := ⟨_, rfl⟩
        try dsimp only at hq45
        have hP : va_P D vwCl [(a, .inr (0, [.ref b, .int (nI ((L ++ [((((su_c L L.length).toUInt32 >>> ((nI 24).toUInt32 &&& Int32.toUInt32 31)).toInt32) &&& 255)]).length))])), (b, .inl (cA 0, cap, .inl f2_45))] H := hP
        have hD : va_D A [(a, .inr (0, [.ref b, .int (nI ((L ++ [((((su_c L L.length).toUInt32 >>> ((nI 24).toUInt32 &&& Int32.toUInt32 31)).toInt32) &&& 255)]).length))])), (b, .inl (cA 0, cap, .inl f2_45))] := hD
        refine lv_iinc (k := 0) (v := nI 16) (lv' := [(2, .int (nI 16)), (0, .ref a), (1, .int (su_c L L.length))]) hx hb d_In_appendSum_48 hl rfl (by decide) (by decide) rfl (fun ls hl => ?_)
        refine lv_goto (tgt := 33) hx hb d_In_appendSum_51 (by decide) ?_
        refine lv_iload_n hx hb d_In_appendSum_33 rfl (lv_at hl 0 rfl) ?_
        refine lv_if_lt (tgt := 54) hx hb d_In_appendSum_34 (by decide) (fun h9 => absurd h9 (by decide)) (fun _ => ?_)
        refine lv_aload_n hx hb d_In_appendSum_37 rfl (lv_at hl 1 rfl) ?_
        refine lv_iload_n hx hb d_In_appendSum_38 rfl (lv_at hl 2 rfl) ?_
        refine lv_iload_n hx hb d_In_appendSum_39 rfl (lv_at hl 0 rfl) ?_
        refine lv_iushr hx hb d_In_appendSum_40 rfl ?_
        refine lv_sipush (v := 255) hx hb d_In_appendSum_41 (by decide) ?_
        refine lv_iand hx hb d_In_appendSum_44 ?_
        refine ck_cVv (C := "ReadMapper$Codes") (ci := 0) (rest := []) (wr := []) (ws2 := fun u => [(a, .inr (0, [.ref b, .int (nI (((L ++ [((((su_c L L.length).toUInt32 >>> ((nI 24).toUInt32 &&& Int32.toUInt32 31)).toInt32) &&& 255)]) ++ [((((su_c L L.length).toUInt32 >>> ((nI 16).toUInt32 &&& Int32.toUInt32 31)).toInt32) &&& 255)]).length))])), (b, .inl (cA 0, cap, .inl u))]) (c_Co_append l D cA K a b cap f2_45 (L ++ [((((su_c L L.length).toUInt32 >>> ((nI 24).toUInt32 &&& Int32.toUInt32 31)).toInt32) &&& 255)]) ((((su_c L L.length).toUInt32 >>> ((nI 16).toUInt32 &&& Int32.toUInt32 31)).toInt32) &&& 255) (by first | assumption | omega | (simp only [List.length_append, List.length_cons, List.length_nil]; omega)) (by first | assumption | omega | (simp only [List.length_append, List.length_cons, List.length_nil]; omega))) hx hb hml hown hts hK hE hA hP hD hS k_Co_append m_756 (by decide) 0 rfl rfl rfl hl.1 rfl (Nat.le_of_ble_eq_true rfl) d_In_appendSum_45  [0, 1] [] [0, 1] rfl rfl (by decide) (fun _ => rfl) (fun u45 H locs hq45 hP hD hS => ?_)
        obtain ⟨f2_45, rfl⟩ : ∃ z, z = u45 := ⟨_, rfl⟩
        try dsimp only at hq45
        have hP : va_P D vwCl [(a, .inr (0, [.ref b, .int (nI (((L ++ [((((su_c L L.length).toUInt32 >>> ((nI 24).toUInt32 &&& Int32.toUInt32 31)).toInt32) &&& 255)]) ++ [((((su_c L L.length).toUInt32 >>> ((nI 16).toUInt32 &&& Int32.toUInt32 31)).toInt32) &&& 255)]).length))])), (b, .inl (cA 0, cap, .inl f2_45))] H := hP
        have hD : va_D A [(a, .inr (0, [.ref b, .int (nI (((L ++ [((((su_c L L.length).toUInt32 >>> ((nI 24).toUInt32 &&& Int32.toUInt32 31)).toInt32) &&& 255)]) ++ [((((su_c L L.length).toUInt32 >>> ((nI 16).toUInt32 &&& Int32.toUInt32 31)).toInt32) &&& 255)]).length))])), (b, .inl (cA 0, cap, .inl f2_45))] := hD
        refine lv_iinc (k := 0) (v := nI 8) (lv' := [(2, .int (nI 8)), (0, .ref a), (1, .int (su_c L L.length))]) hx hb d_In_appendSum_48 hl rfl (by decide) (by decide) rfl (fun ls hl => ?_)
        refine lv_goto (tgt := 33) hx hb d_In_appendSum_51 (by decide) ?_
        refine lv_iload_n hx hb d_In_appendSum_33 rfl (lv_at hl 0 rfl) ?_
        refine lv_if_lt (tgt := 54) hx hb d_In_appendSum_34 (by decide) (fun h9 => absurd h9 (by decide)) (fun _ => ?_)
        refine lv_aload_n hx hb d_In_appendSum_37 rfl (lv_at hl 1 rfl) ?_
        refine lv_iload_n hx hb d_In_appendSum_38 rfl (lv_at hl 2 rfl) ?_
        refine lv_iload_n hx hb d_In_appendSum_39 rfl (lv_at hl 0 rfl) ?_
        refine lv_iushr hx hb d_In_appendSum_40 rfl ?_
        refine lv_sipush (v := 255) hx hb d_In_appendSum_41 (by decide) ?_
        refine lv_iand hx hb d_In_appendSum_44 ?_
        refine ck_cVv (C := "ReadMapper$Codes") (ci := 0) (rest := []) (wr := []) (ws2 := fun u => [(a, .inr (0, [.ref b, .int (nI ((((L ++ [((((su_c L L.length).toUInt32 >>> ((nI 24).toUInt32 &&& Int32.toUInt32 31)).toInt32) &&& 255)]) ++ [((((su_c L L.length).toUInt32 >>> ((nI 16).toUInt32 &&& Int32.toUInt32 31)).toInt32) &&& 255)]) ++ [((((su_c L L.length).toUInt32 >>> ((nI 8).toUInt32 &&& Int32.toUInt32 31)).toInt32) &&& 255)]).length))])), (b, .inl (cA 0, cap, .inl u))]) (c_Co_append l D cA K a b cap f2_45 ((L ++ [((((su_c L L.length).toUInt32 >>> ((nI 24).toUInt32 &&& Int32.toUInt32 31)).toInt32) &&& 255)]) ++ [((((su_c L L.length).toUInt32 >>> ((nI 16).toUInt32 &&& Int32.toUInt32 31)).toInt32) &&& 255)]) ((((su_c L L.length).toUInt32 >>> ((nI 8).toUInt32 &&& Int32.toUInt32 31)).toInt32) &&& 255) (by first | assumption | omega | (simp only [List.length_append, List.length_cons, List.length_nil]; omega)) (by first | assumption | omega | (simp only [List.length_append, List.length_cons, List.length_nil]; omega))) hx hb hml hown hts hK hE hA hP hD hS k_Co_append m_756 (by decide) 0 rfl rfl rfl hl.1 rfl (Nat.le_of_ble_eq_true rfl) d_In_appendSum_45  [0, 1] [] [0, 1] rfl rfl (by decide) (fun _ => rfl) (fun u45 H locs hq45 hP hD hS => ?_)
        obtain ⟨f2_45, rfl⟩ : ∃ z, z = u45 := ⟨_, rfl⟩
        try dsimp only at hq45
        have hP : va_P D vwCl [(a, .inr (0, [.ref b, .int (nI ((((L ++ [((((su_c L L.length).toUInt32 >>> ((nI 24).toUInt32 &&& Int32.toUInt32 31)).toInt32) &&& 255)]) ++ [((((su_c L L.length).toUInt32 >>> ((nI 16).toUInt32 &&& Int32.toUInt32 31)).toInt32) &&& 255)]) ++ [((((su_c L L.length).toUInt32 >>> ((nI 8).toUInt32 &&& Int32.toUInt32 31)).toInt32) &&& 255)]).length))])), (b, .inl (cA 0, cap, .inl f2_45))] H := hP
        have hD : va_D A [(a, .inr (0, [.ref b, .int (nI ((((L ++ [((((su_c L L.length).toUInt32 >>> ((nI 24).toUInt32 &&& Int32.toUInt32 31)).toInt32) &&& 255)]) ++ [((((su_c L L.length).toUInt32 >>> ((nI 16).toUInt32 &&& Int32.toUInt32 31)).toInt32) &&& 255)]) ++ [((((su_c L L.length).toUInt32 >>> ((nI 8).toUInt32 &&& Int32.toUInt32 31)).toInt32) &&& 255)]).length))])), (b, .inl (cA 0, cap, .inl f2_45))] := hD
        refine lv_iinc (k := 0) (v := nI 0) (lv' := [(2, .int (nI 0)), (0, .ref a), (1, .int (su_c L L.length))]) hx hb d_In_appendSum_48 hl rfl (by decide) (by decide) rfl (fun ls hl => ?_)
        refine lv_goto (tgt := 33) hx hb d_In_appendSum_51 (by decide) ?_
        refine lv_iload_n hx hb d_In_appendSum_33 rfl (lv_at hl 0 rfl) ?_
        refine lv_if_lt (tgt := 54) hx hb d_In_appendSum_34 (by decide) (fun h9 => absurd h9 (by decide)) (fun _ => ?_)
        refine lv_aload_n hx hb d_In_appendSum_37 rfl (lv_at hl 1 rfl) ?_
        refine lv_iload_n hx hb d_In_appendSum_38 rfl (lv_at hl 2 rfl) ?_
        refine lv_iload_n hx hb d_In_appendSum_39 rfl (lv_at hl 0 rfl) ?_
        refine lv_iushr hx hb d_In_appendSum_40 rfl ?_
        refine lv_sipush (v := 255) hx hb d_In_appendSum_41 (by decide) ?_
        refine lv_iand hx hb d_In_appendSum_44 ?_
        refine ck_cVv (C := "ReadMapper$Codes") (ci := 0) (rest := []) (wr := []) (ws2 := fun u => [(a, .inr (0, [.ref b, .int (nI (((((L ++ [((((su_c L L.length).toUInt32 >>> ((nI 24).toUInt32 &&& Int32.toUInt32 31)).toInt32) &&& 255)]) ++ [((((su_c L L.length).toUInt32 >>> ((nI 16).toUInt32 &&& Int32.toUInt32 31)).toInt32) &&& 255)]) ++ [((((su_c L L.length).toUInt32 >>> ((nI 8).toUInt32 &&& Int32.toUInt32 31)).toInt32) &&& 255)]) ++ [((((su_c L L.length).toUInt32 >>> ((nI 0).toUInt32 &&& Int32.toUInt32 31)).toInt32) &&& 255)]).length))])), (b, .inl (cA 0, cap, .inl u))]) (c_Co_append l D cA K a b cap f2_45 (((L ++ [((((su_c L L.length).toUInt32 >>> ((nI 24).toUInt32 &&& Int32.toUInt32 31)).toInt32) &&& 255)]) ++ [((((su_c L L.length).toUInt32 >>> ((nI 16).toUInt32 &&& Int32.toUInt32 31)).toInt32) &&& 255)]) ++ [((((su_c L L.length).toUInt32 >>> ((nI 8).toUInt32 &&& Int32.toUInt32 31)).toInt32) &&& 255)]) ((((su_c L L.length).toUInt32 >>> ((nI 0).toUInt32 &&& Int32.toUInt32 31)).toInt32) &&& 255) (by first | assumption | omega | (simp only [List.length_append, List.length_cons, List.length_nil]; omega)) (by first | assumption | omega | (simp only [List.length_append, List.length_cons, List.length_nil]; omega))) hx hb hml hown hts hK hE hA hP hD hS k_Co_append m_756 (by decide) 0 rfl rfl rfl hl.1 rfl (Nat.le_of_ble_eq_true rfl) d_In_appendSum_45  [0, 1] [] [0, 1] rfl rfl (by decide) (fun _ => rfl) (fun u45 H locs hq45 hP hD hS => ?_)
        obtain ⟨f2_45, rfl⟩ : ∃ z, z = u45 := ⟨_, rfl⟩
        try dsimp only at hq45
        have hP : va_P D vwCl [(a, .inr (0, [.ref b, .int (nI (((((L ++ [((((su_c L L.length).toUInt32 >>> ((nI 24).toUInt32 &&& Int32.toUInt32 31)).toInt32) &&& 255)]) ++ [((((su_c L L.length).toUInt32 >>> ((nI 16).toUInt32 &&& Int32.toUInt32 31)).toInt32) &&& 255)]) ++ [((((su_c L L.length).toUInt32 >>> ((nI 8).toUInt32 &&& Int32.toUInt32 31)).toInt32) &&& 255)]) ++ [((((su_c L L.length).toUInt32 >>> ((nI 0).toUInt32 &&& Int32.toUInt32 31)).toInt32) &&& 255)]).length))])), (b, .inl (cA 0, cap, .inl f2_45))] H := hP
        have hD : va_D A [(a, .inr (0, [.ref b, .int (nI (((((L ++ [((((su_c L L.length).toUInt32 >>> ((nI 24).toUInt32 &&& Int32.toUInt32 31)).toInt32) &&& 255)]) ++ [((((su_c L L.length).toUInt32 >>> ((nI 16).toUInt32 &&& Int32.toUInt32 31)).toInt32) &&& 255)]) ++ [((((su_c L L.length).toUInt32 >>> ((nI 8).toUInt32 &&& Int32.toUInt32 31)).toInt32) &&& 255)]) ++ [((((su_c L L.length).toUInt32 >>> ((nI 0).toUInt32 &&& Int32.toUInt32 31)).toInt32) &&& 255)]).length))])), (b, .inl (cA 0, cap, .inl f2_45))] := hD
        refine lv_iinc (k := 0) (v := (-8)) (lv' := [(2, .int (-8)), (0, .ref a), (1, .int (su_c L L.length))]) hx hb d_In_appendSum_48 hl rfl (by decide) (by decide) rfl (fun ls hl => ?_)
        refine lv_goto (tgt := 33) hx hb d_In_appendSum_51 (by decide) ?_
        refine lv_iload_n hx hb d_In_appendSum_33 rfl (lv_at hl 0 rfl) ?_
        refine lv_if_lt (tgt := 54) hx hb d_In_appendSum_34 (by decide) (fun _ => ?_) (fun h9 => absurd h9 (by decide))
        have hP : va_P D vwCl [(a, .inr (0, [.ref b, .int (nI ((L ++ s4_c (su_c L L.length)).length))])), (b, .inl (cA 0, cap, .inl f2_45))] H := by rw [s4_app] at hP; exact hP
        have hD : va_D A [(a, .inr (0, [.ref b, .int (nI ((L ++ s4_c (su_c L L.length)).length))])), (b, .inl (cA 0, cap, .inl f2_45))] := by rw [s4_app] at hD; exact hD
        exact hret f2_45 _ _ _ 54 d_In_appendSum_54 (by rw [s4_app] at hq45; exact hq45) hP hD hS
      · intro h10
        refine lv_bipush (v := 31) hx hb d_In_appendSum_13 (by decide) ?_
        refine lv_iload_n hx hb d_In_appendSum_15 rfl (lv_at hl 1 rfl) ?_
        refine lv_imul hx hb d_In_appendSum_16 ?_
        refine lv_aload_n hx hb d_In_appendSum_17 rfl (lv_at hl 0 rfl) ?_
        refine lv_iload_n hx hb d_In_appendSum_18 rfl (lv_at hl 2 rfl) ?_
        refine ck_cV (C := "ReadMapper$Codes") (ci := 0) (rest := [.int (31 * (su_c L i))]) (wr := []) (ws2 := fun u => [(a, .inr (0, [.ref b, .int (nI L.length)])), (b, .inl (cA 0, cap, .inl f))]) (c_Co_at l D cA K a b cap f L (nI i) (by first | assumption | omega)) hx hb hml hown hts hK hE hA hP hD hS k_Co_at m_673 (by decide) 0 rfl rfl rfl hl.1 rfl (Nat.le_of_ble_eq_true rfl) d_In_appendSum_19  [0, 1] [] [0, 1] rfl rfl (by decide) (fun _ => rfl) (fun r19 u19 H locs hq19 hP hD hS => ?_)
        try dsimp only at hq19
        have hP : va_P D vwCl [(a, .inr (0, [.ref b, .int (nI L.length)])), (b, .inl (cA 0, cap, .inl f))] H := hP
        have hD : va_D A [(a, .inr (0, [.ref b, .int (nI L.length)])), (b, .inl (cA 0, cap, .inl f))] := hD
        obtain rfl := hq19
        refine wn_eq (y := L.getD i 0) (at_n (by omega) (by omega)) ?_
        refine lv_iadd hx hb d_In_appendSum_22 ?_
        refine lv_istore_n (lv' := [(1, .int ((31 * (su_c L i)) + (L.getD i 0))), (0, .ref a), (2, .int (nI i))]) hx hb d_In_appendSum_23 rfl hl (by decide) rfl (fun ls hl => ?_)
        refine lv_iinc (k := 2) (v := nI (i + 1)) (lv' := [(2, .int (nI (i + 1))), (1, .int ((31 * (su_c L i)) + (L.getD i 0))), (0, .ref a)]) hx hb d_In_appendSum_24 hl rfl (wi_inc1 _) (by decide) rfl (fun ls hl => ?_)
        refine lv_goto (tgt := 5) hx hb d_In_appendSum_27 (by decide) ?_
        exact ih5 _ (by omega) (i + 1) _ _ _ rfl (by first | assumption | omega) hP hD hS (lv_sub hl [2, 1, 0] rfl)
  exact L5 _ 0 _ _ _ rfl (by first | assumption | omega) hP hD hS (lv_sub hl [2, 1, 0] rfl)
theorem k_In_appendSum : cf_S y_In_appendSum b_In_appendSum 3 none 1 := ⟨⟨m_763, m_3, m_764⟩, by decide +kernel⟩
