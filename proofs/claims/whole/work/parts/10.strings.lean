/-! String.length and charAt on the texts of this program (number i < 5), by hand -/
section CKX
variable {p : Program} {l : Launch} {e : Env} {s : State} {m : MethodId} {args : Array Value} {below : List Frame} {meth : Method} {c : Code} {H : Heap} {locs : List Loc} {Q : State → Prop}
variable {D : va_G} {cA : Nat → ClassId} {K : Nat → Nat} {A : Nat → Prop} {ws wc wr : va_W} {pc : Nat} {ls : Array Slot} {rest st0 As : List Value} {S : Type} {w' ws2 : S → va_W} {d d' nL maxL n index b : Nat} {cc bytes : ByteArray} {own C : String} {y : MethodName} {rt : FieldType}
/-- a virtual call on an object that isn't of the world -/
theorem ck_cVx {post : Int32 → S → Prop} (hM : ck_I l y (Cond.code y bytes maxL (some rt) :: w_all) d' D cA K (.ref b :: As) wc post w') (hx : p.tables.exec = Jvm.exec) (hb : c.code = cc) (hml : c.maxLocals = nL) (hown : s.vm.findClass own = some m.cls) (hts : ∀ w ∈ w_all, w.before args s = true) (hK : va_K D vwCl (ty_s cA) s) (hE : en_v K A s s.heap) (hA : ∀ q, s.heap.size ≤ q → A q) (hP : va_P D vwCl ws H) (hD : va_D A ws) (hS : va_S A s.heap H locs)
    (hf : cf_V y bytes maxL (some rt) C n) (hlk : Cond.methodLink own index y ∈ w_all) (hR : d' + 1 ≤ d ∧ 8 + (maxL + 11) + 32 * d' ≤ 32 * d) (hrc : ∃ cellB : Cell, H[b]? = some cellB ∧ cellB.vm.isStatics = false ∧ s.vm.findClass C = some cellB.cls) (hn : As.length = n) (hsize : ls.size = nL) (hst : st0 = As.reverse ++ .ref b :: rest) (hroom : (rest.map fun v => v.category).sum ≤ 8) (hdg : decode cc pc = .ok (.invokevirtual index, 3))
    (isC isR ps : List Nat) (hC : isC.map (fun i => ws[i]?) = wc.map some) (hCR : isR.map (fun i => ws[i]?) = wr.map some) (hnd : va_nd isC = true ∧ va_nd isR = true ∧ va_nd ps = true ∧ ∀ i ∈ isR, i ∉ isC) (hw2 : ∀ u, ps.map (fun i => (wr ++ w' u)[i]?) = (ws2 u).map some)
    (kk : ∀ (r : Int32) (u : S) (H1 : Heap) (locs1 : List Loc), post r u → va_P D vwCl (ws2 u) H1 → va_D A (ws2 u) → va_S A s.heap H1 locs1 → W p l e (rm_d d) s m args below meth c H1 locs1 0 0 Q (F0 m (pc + 3) ls (.int r :: rest))) : W p l e (rm_d d) s m args below meth c H locs 0 0 Q (F0 m pc ls st0) :=
  ck_goI (va_runV (As := As) (rest := rest) ⟨hx, hb, hml, hown, hts⟩ (hM H.size) (ck_wV hts hf hlk hR) ⟨ck_bl, hrc, ck_at hK hE hA hP hD hS isC hC hnd.1⟩ rfl hn hsize hst (lv_room hroom) hdg ⟨Nat.le_refl _, Nat.le_refl _⟩) hA hP hD hS isC isR ps hC hCR hnd.2.1 hnd.2.2.2 hnd.2.2.1 hw2 kk
end CKX
theorem d_Pre_0 : decode b_Pre_checkIndex 0 = .ok (.iload_n 0, 1) := by decide +kernel
theorem d_Pre_1 : decode b_Pre_checkIndex 1 = .ok (.ifCond .lt 8, 3) := by decide +kernel
theorem d_Pre_4 : decode b_Pre_checkIndex 4 = .ok (.iload_n 0, 1) := by decide +kernel
theorem d_Pre_5 : decode b_Pre_checkIndex 5 = .ok (.iload_n 1, 1) := by decide +kernel
theorem d_Pre_6 : decode b_Pre_checkIndex 6 = .ok (.if_icmp .lt 10, 3) := by decide +kernel
theorem d_Pre_16 : decode b_Pre_checkIndex 16 = .ok (.iload_n 0, 1) := by decide +kernel
theorem d_Pre_17 : decode b_Pre_checkIndex 17 = .ok (.ireturn, 1) := by decide +kernel
theorem d_Ci_0 : decode b_Str_checkIndex 0 = .ok (.iload_n 0, 1) := by decide +kernel
theorem d_Ci_1 : decode b_Str_checkIndex 1 = .ok (.iload_n 1, 1) := by decide +kernel
theorem d_Ci_2 : decode b_Str_checkIndex 2 = .ok (.getstatic 1053, 3) := by decide +kernel
theorem d_Ci_5 : decode b_Str_checkIndex 5 = .ok (.invokestatic 1059, 3) := by decide +kernel
theorem d_Ci_8 : decode b_Str_checkIndex 8 = .ok (.pop, 1) := by decide +kernel
theorem d_Ci_9 : decode b_Str_checkIndex 9 = .ok (.return_, 1) := by decide +kernel
theorem d_Sc_0 : decode b_Sl1_charAt 0 = .ok (.iload_n 1, 1) := by decide +kernel
theorem d_Sc_1 : decode b_Sl1_charAt 1 = .ok (.aload_n 0, 1) := by decide +kernel
theorem d_Sc_2 : decode b_Sl1_charAt 2 = .ok (.arraylength, 1) := by decide +kernel
theorem d_Sc_3 : decode b_Sl1_charAt 3 = .ok (.invokestatic 9, 3) := by decide +kernel
theorem d_Sc_6 : decode b_Sl1_charAt 6 = .ok (.aload_n 0, 1) := by decide +kernel
theorem d_Sc_7 : decode b_Sl1_charAt 7 = .ok (.iload_n 1, 1) := by decide +kernel
theorem d_Sc_8 : decode b_Sl1_charAt 8 = .ok (.baload, 1) := by decide +kernel
theorem d_Sc_9 : decode b_Sl1_charAt 9 = .ok (.sipush 255, 3) := by decide +kernel
theorem d_Sc_12 : decode b_Sl1_charAt 12 = .ok (.iand, 1) := by decide +kernel
theorem d_Sc_13 : decode b_Sl1_charAt 13 = .ok (.i2c, 1) := by decide +kernel
theorem d_Sc_14 : decode b_Sl1_charAt 14 = .ok (.ireturn, 1) := by decide +kernel
theorem d_Sl_0 : decode b_Str_length 0 = .ok (.aload_n 0, 1) := by decide +kernel
theorem d_Sl_1 : decode b_Str_length 1 = .ok (.getfield 9, 3) := by decide +kernel
theorem d_Sl_4 : decode b_Str_length 4 = .ok (.arraylength, 1) := by decide +kernel
theorem d_Sl_5 : decode b_Str_length 5 = .ok (.aload_n 0, 1) := by decide +kernel
theorem d_Sl_6 : decode b_Str_length 6 = .ok (.invokevirtual 335, 3) := by decide +kernel
theorem d_Sl_9 : decode b_Str_length 9 = .ok (.ishr, 1) := by decide +kernel
theorem d_Sl_10 : decode b_Str_length 10 = .ok (.ireturn, 1) := by decide +kernel
theorem d_Sd_0 : decode b_Str_coder 0 = .ok (.getstatic 38, 3) := by decide +kernel
theorem d_Sd_3 : decode b_Str_coder 3 = .ok (.ifCond .eq 10, 3) := by decide +kernel
theorem d_Sd_6 : decode b_Str_coder 6 = .ok (.aload_n 0, 1) := by decide +kernel
theorem d_Sd_7 : decode b_Str_coder 7 = .ok (.getfield 15, 3) := by decide +kernel
theorem d_Sd_10 : decode b_Str_coder 10 = .ok (.goto 4, 3) := by decide +kernel
theorem d_Sd_14 : decode b_Str_coder 14 = .ok (.ireturn, 1) := by decide +kernel
theorem d_Si_0 : decode b_Str_isLatin1 0 = .ok (.getstatic 38, 3) := by decide +kernel
theorem d_Si_3 : decode b_Str_isLatin1 3 = .ok (.ifCond .eq 14, 3) := by decide +kernel
theorem d_Si_6 : decode b_Str_isLatin1 6 = .ok (.aload_n 0, 1) := by decide +kernel
theorem d_Si_7 : decode b_Str_isLatin1 7 = .ok (.getfield 15, 3) := by decide +kernel
theorem d_Si_10 : decode b_Str_isLatin1 10 = .ok (.ifCond .ne 7, 3) := by decide +kernel
theorem d_Si_13 : decode b_Str_isLatin1 13 = .ok (.iconst 1, 1) := by decide +kernel
theorem d_Si_14 : decode b_Str_isLatin1 14 = .ok (.goto 4, 3) := by decide +kernel
theorem d_Si_18 : decode b_Str_isLatin1 18 = .ok (.ireturn, 1) := by decide +kernel
theorem d_Sa_0 : decode b_Str_charAt 0 = .ok (.aload_n 0, 1) := by decide +kernel
theorem d_Sa_1 : decode b_Str_charAt 1 = .ok (.invokevirtual 492, 3) := by decide +kernel
theorem d_Sa_4 : decode b_Str_charAt 4 = .ok (.ifCond .eq 12, 3) := by decide +kernel
theorem d_Sa_7 : decode b_Str_charAt 7 = .ok (.aload_n 0, 1) := by decide +kernel
theorem d_Sa_8 : decode b_Str_charAt 8 = .ok (.getfield 9, 3) := by decide +kernel
theorem d_Sa_11 : decode b_Str_charAt 11 = .ok (.iload_n 1, 1) := by decide +kernel
theorem d_Sa_12 : decode b_Str_charAt 12 = .ok (.invokestatic 495, 3) := by decide +kernel
theorem d_Sa_15 : decode b_Str_charAt 15 = .ok (.ireturn, 1) := by decide +kernel
theorem k_Pre_checkIndex : cf_S y_Pre_checkIndex b_Pre_checkIndex 3 (some .int) 3 := ⟨⟨m_373, m_12, m_374⟩, by decide +kernel⟩
theorem k_Str_checkIndex : cf_S y_Str_checkIndex b_Str_checkIndex 2 none 2 := ⟨⟨m_368, m_10, m_369⟩, by decide +kernel⟩
theorem k_Sl1_charAt : cf_S y_Sl1_charAt b_Sl1_charAt 2 (some .char) 2 := ⟨⟨m_365, m_11, m_366⟩, by decide +kernel⟩
theorem k_Str_coder : cf_V y_Str_coder b_Str_coder 1 (some .byte) "java/lang/String" 0 := ⟨⟨m_289, m_290, m_10, m_291⟩, by decide +kernel⟩
theorem k_Str_isLatin1 : cf_V y_Str_isLatin1 b_Str_isLatin1 1 (some .boolean) "java/lang/String" 0 := ⟨⟨m_361, m_362, m_10, m_363⟩, by decide +kernel⟩
theorem k_Str_length : cf_V y_Str_length b_Str_length 1 (some .int) "java/lang/String" 0 := ⟨⟨m_285, m_286, m_10, m_287⟩, by decide +kernel⟩
theorem k_Str_charAt : cf_V y_Str_charAt b_Str_charAt 2 (some .char) "java/lang/String" 1 := ⟨⟨m_357, m_358, m_10, m_359⟩, by decide +kernel⟩
/-- the character at j of text i -/
def st_ch (i j : Nat) : Int32 := (st_b.getD i []).getD j 0
theorem st_all : ∀ i, i < 5 → st_l.getD i 0 = (st_b.getD i []).length ∧ st_l.getD i 0 ≤ 17 ∧ ∀ j, j < st_l.getD i 0 → ((st_ch i j &&& 255).toUInt32 % 65536).toInt32 = st_ch i j ∧ narrow .char (.int (st_ch i j)) = .int (st_ch i j) := by decide +kernel
set_option maxHeartbeats 4000000 in
theorem c_Pre_n (l : Launch) (D : va_G) (cA : Nat → ClassId) (K : Nat → Nat) (i n : Int32) (h0 : ¬ i < 0) (h1 : i < n) : ck_I l y_Pre_checkIndex (Cond.code y_Pre_checkIndex b_Pre_checkIndex 3 (some .int) :: w_all) 1 D cA K [.int i, .int n, .null] [] (fun (r : Int32) (u : Unit) => r = i) (fun u => []) := by
  refine ck_mkI (by decide) (fun _ _ _ => rfl) (Nat.le_of_ble_eq_true rfl) ?_
  intro p e s m args below meth c Q A H locs ls hx hb hml hown hts hK hE hA hP hD hS hl hret
  have hl : lv_has ls 3 [(0, .int i), (1, .int n), (2, .null)] := hl
  refine lv_iload_n hx hb d_Pre_0 rfl (lv_at hl 0 rfl) ?_
  refine lv_if_lt (tgt := 9) hx hb d_Pre_1 (by decide) (fun h9 => absurd h9 h0) (fun _ => ?_)
  refine lv_iload_n hx hb d_Pre_4 rfl (lv_at hl 0 rfl) ?_
  refine lv_iload_n hx hb d_Pre_5 rfl (lv_at hl 1 rfl) ?_
  refine lv_icmp_lt (tgt := 16) hx hb d_Pre_6 (by decide) (fun _ => ?_) (fun h9 => absurd h1 h9)
  refine lv_iload_n hx hb d_Pre_16 rfl (lv_at hl 0 rfl) ?_
  exact hret i () _ _ _ 17 d_Pre_17 rfl hP hD hS
set_option maxHeartbeats 4000000 in
theorem c_Pre_r (l : Launch) (D : va_G) (cA : Nat → ClassId) (K : Nat → Nat) (i n : Int32) (t : Nat) (h0 : ¬ i < 0) (h1 : i < n) : ck_I l y_Pre_checkIndex (Cond.code y_Pre_checkIndex b_Pre_checkIndex 3 (some .int) :: w_all) 1 D cA K [.int i, .int n, .ref t] [] (fun (r : Int32) (u : Unit) => r = i) (fun u => []) := by
  refine ck_mkI (by decide) (fun _ _ _ => rfl) (Nat.le_of_ble_eq_true rfl) ?_
  intro p e s m args below meth c Q A H locs ls hx hb hml hown hts hK hE hA hP hD hS hl hret
  have hl : lv_has ls 3 [(0, .int i), (1, .int n), (2, .ref t)] := hl
  refine lv_iload_n hx hb d_Pre_0 rfl (lv_at hl 0 rfl) ?_
  refine lv_if_lt (tgt := 9) hx hb d_Pre_1 (by decide) (fun h9 => absurd h9 h0) (fun _ => ?_)
  refine lv_iload_n hx hb d_Pre_4 rfl (lv_at hl 0 rfl) ?_
  refine lv_iload_n hx hb d_Pre_5 rfl (lv_at hl 1 rfl) ?_
  refine lv_icmp_lt (tgt := 16) hx hb d_Pre_6 (by decide) (fun _ => ?_) (fun h9 => absurd h1 h9)
  refine lv_iload_n hx hb d_Pre_16 rfl (lv_at hl 0 rfl) ?_
  exact hret i () _ _ _ 17 d_Pre_17 rfl hP hD hS
set_option maxHeartbeats 4000000 in
theorem c_Str_checkIndex (l : Launch) (D : va_G) (cA : Nat → ClassId) (K : Nat → Nat) (i n : Int32) (h0 : ¬ i < 0) (h1 : i < n) : ck_V l y_Str_checkIndex (Cond.code y_Str_checkIndex b_Str_checkIndex 2 none :: w_all) 2 D cA K [.int i, .int n] [] (fun (u : Unit) => True) (fun u => []) := by
  refine ck_mkV (by decide) (Nat.le_of_ble_eq_true rfl) ?_
  intro p e s m args below meth c Q A H locs ls hx hb hml hown hts hK hE hA hP hD hS hl hret
  have hl : lv_has ls 2 [(0, .int i), (1, .int n)] := hl
  refine lv_iload_n hx hb d_Ci_0 rfl (lv_at hl 0 rfl) ?_
  refine lv_iload_n hx hb d_Ci_1 rfl (lv_at hl 1 rfl) ?_
  rcases hE.2.2.2.2.2.2.2.2 with hz | ⟨t, hz⟩
  · refine va_gets hx hb hz hS hown (hts _ m_370) (fun _ h9 => h9) d_Ci_2 ?_
    refine ck_cS (rest := []) (wr := []) (ws2 := fun u => []) (c_Pre_n l D cA K i n h0 h1) hx hb hml hown hts hK hE hA hP hD hS k_Pre_checkIndex m_372 (by decide) rfl hl.1 rfl (Nat.le_of_ble_eq_true rfl) d_Ci_5 [] [] [] rfl rfl (by decide) (fun _ => rfl) (fun r u H locs hq hP hD hS => ?_)
    refine lv_pop hx hb d_Ci_8 rfl ?_
    exact hret () _ _ _ 9 d_Ci_9 trivial hP hD hS
  · refine va_gets hx hb hz hS hown (hts _ m_370) (fun _ h9 => h9) d_Ci_2 ?_
    refine ck_cS (rest := []) (wr := []) (ws2 := fun u => []) (c_Pre_r l D cA K i n t h0 h1) hx hb hml hown hts hK hE hA hP hD hS k_Pre_checkIndex m_372 (by decide) rfl hl.1 rfl (Nat.le_of_ble_eq_true rfl) d_Ci_5 [] [] [] rfl rfl (by decide) (fun _ => rfl) (fun r u H locs hq hP hD hS => ?_)
    refine lv_pop hx hb d_Ci_8 rfl ?_
    exact hret () _ _ _ 9 d_Ci_9 trivial hP hD hS
set_option maxHeartbeats 4000000 in
theorem c_Sl1_charAt (l : Launch) (D : va_G) (cA : Nat → ClassId) (K : Nat → Nat) (i j : Nat) (hi : i < 5) (hj : j < st_l.getD i 0) : ck_I l y_Sl1_charAt (Cond.code y_Sl1_charAt b_Sl1_charAt 2 (some .char) :: w_all) 3 D cA K [.ref (K (20 + i)), .int (nI j)] [] (fun (r : Int32) (u : Unit) => r = st_ch i j) (fun u => []) := by
  obtain ⟨q1, q2, q3⟩ := st_all i hi
  refine ck_mkI (by decide) (fun r _ h => by rw [h]; exact (q3 j hj).2) (Nat.le_of_ble_eq_true rfl) ?_
  intro p e s m args below meth c Q A H locs ls hx hb hml hown hts hK hE hA hP hD hS hl hret
  have hl : lv_has ls 2 [(0, .ref (K (20 + i))), (1, .int (nI j))] := hl
  have hT := (hE.2.2.2.2.2.2.1.1 i hi).2.2.2
  refine lv_iload_n hx hb d_Sc_0 rfl (lv_at hl 1 rfl) ?_
  refine lv_aload_n hx hb d_Sc_1 rfl (lv_at hl 0 rfl) ?_
  refine va_tlen (v := nI (st_l.getD i 0)) hx hb hT hS rfl d_Sc_2 ?_
  refine ck_cSv (rest := []) (wr := []) (ws2 := fun u => []) (c_Str_checkIndex l D cA K (nI j) (nI (st_l.getD i 0)) (nI_pos (by omega)) (nI_lt hj (by omega))) hx hb hml hown hts hK hE hA hP hD hS k_Str_checkIndex m_367 (by decide) rfl hl.1 rfl (Nat.le_of_ble_eq_true rfl) d_Sc_3 [] [] [] rfl rfl (by decide) (fun _ => rfl) (fun u H locs hq hP hD hS => ?_)
  refine lv_aload_n hx hb d_Sc_6 rfl (lv_at hl 0 rfl) ?_
  refine lv_iload_n hx hb d_Sc_7 rfl (lv_at hl 1 rfl) ?_
  refine va_tb (v := .int (st_ch i j)) hx hb hT hS (vp_in_nI hj (by omega)) (by rw [nI_clamp (by omega)]; rfl) d_Sc_8 ?_
  refine lv_sipush (v := 255) hx hb d_Sc_9 (by decide) ?_
  refine lv_iand hx hb d_Sc_12 ?_
  refine lv_i2c (v := st_ch i j) hx hb d_Sc_13 (q3 j hj).1 ?_
  exact hret (st_ch i j) () _ _ _ 14 d_Sc_14 rfl hP hD hS
set_option maxHeartbeats 4000000 in
theorem c_Str_coder (l : Launch) (D : va_G) (cA : Nat → ClassId) (K : Nat → Nat) (i : Nat) (hi : i < 5) : ck_I l y_Str_coder (Cond.code y_Str_coder b_Str_coder 1 (some .byte) :: w_all) 1 D cA K [.ref (K (10 + i))] [] (fun (r : Int32) (u : Unit) => r = 0) (fun u => []) := by
  refine ck_mkI (by decide) (fun r _ h => by rw [h]; rfl) (Nat.le_of_ble_eq_true rfl) ?_
  intro p e s m args below meth c Q A H locs ls hx hb hml hown hts hK hE hA hP hD hS hl hret
  have hl : lv_has ls 1 [(0, .ref (K (10 + i)))] := hl
  refine va_gets hx hb hE.2.2.2.2.2.2.2.1 hS hown (hts _ m_292) (fun _ h9 => h9) d_Sd_0 ?_
  refine lv_if_eq (tgt := 13) hx hb d_Sd_3 (by decide) (fun h9 => absurd h9 (by decide)) (fun _ => ?_)
  refine lv_aload_n hx hb d_Sd_6 rfl (lv_at hl 0 rfl) ?_
  refine vk_getf hx hb (hE.2.2.2.2.2.2.1.1 i hi).2.1 hS hown (hts _ m_1201) (fun _ h9 => h9) d_Sd_7 ?_
  refine lv_goto (tgt := 14) hx hb d_Sd_10 (by decide) ?_
  exact hret 0 () _ _ _ 14 d_Sd_14 rfl hP hD hS
set_option maxHeartbeats 4000000 in
theorem c_Str_isLatin1 (l : Launch) (D : va_G) (cA : Nat → ClassId) (K : Nat → Nat) (i : Nat) (hi : i < 5) : ck_I l y_Str_isLatin1 (Cond.code y_Str_isLatin1 b_Str_isLatin1 1 (some .boolean) :: w_all) 1 D cA K [.ref (K (10 + i))] [] (fun (r : Int32) (u : Unit) => r = 1) (fun u => []) := by
  refine ck_mkI (by decide) (fun r _ h => by rw [h]; rfl) (Nat.le_of_ble_eq_true rfl) ?_
  intro p e s m args below meth c Q A H locs ls hx hb hml hown hts hK hE hA hP hD hS hl hret
  have hl : lv_has ls 1 [(0, .ref (K (10 + i)))] := hl
  refine va_gets hx hb hE.2.2.2.2.2.2.2.1 hS hown (hts _ m_292) (fun _ h9 => h9) d_Si_0 ?_
  refine lv_if_eq (tgt := 17) hx hb d_Si_3 (by decide) (fun h9 => absurd h9 (by decide)) (fun _ => ?_)
  refine lv_aload_n hx hb d_Si_6 rfl (lv_at hl 0 rfl) ?_
  refine vk_getf hx hb (hE.2.2.2.2.2.2.1.1 i hi).2.1 hS hown (hts _ m_1201) (fun _ h9 => h9) d_Si_7 ?_
  refine lv_if_ne (tgt := 17) hx hb d_Si_10 (by decide) (fun h9 => absurd rfl h9) (fun _ => ?_)
  refine lv_iconst (v := 1) hx hb d_Si_13 (by decide) ?_
  refine lv_goto (tgt := 18) hx hb d_Si_14 (by decide) ?_
  exact hret 1 () _ _ _ 18 d_Si_18 rfl hP hD hS
set_option maxHeartbeats 4000000 in
theorem c_Str_length (l : Launch) (D : va_G) (cA : Nat → ClassId) (K : Nat → Nat) (i : Nat) (hi : i < 5) : ck_I l y_Str_length (Cond.code y_Str_length b_Str_length 1 (some .int) :: w_all) 2 D cA K [.ref (K (10 + i))] [] (fun (r : Int32) (u : Unit) => r = nI (st_l.getD i 0)) (fun u => []) := by
  obtain ⟨q1, q2, q3⟩ := st_all i hi
  refine ck_mkI (by decide) (fun _ _ _ => rfl) (Nat.le_of_ble_eq_true rfl) ?_
  intro p e s m args below meth c Q A H locs ls hx hb hml hown hts hK hE hA hP hD hS hl hret
  have hl : lv_has ls 1 [(0, .ref (K (10 + i)))] := hl
  refine lv_aload_n hx hb d_Sl_0 rfl (lv_at hl 0 rfl) ?_
  refine vk_getf hx hb (hE.2.2.2.2.2.2.1.1 i hi).2.2.1 hS hown (hts _ m_1200) (fun _ h9 => h9) d_Sl_1 ?_
  refine va_tlen (v := nI (st_l.getD i 0)) hx hb (hE.2.2.2.2.2.2.1.1 i hi).2.2.2 hS rfl d_Sl_4 ?_
  refine lv_aload_n hx hb d_Sl_5 rfl (lv_at hl 0 rfl) ?_
  refine ck_cVx (C := "java/lang/String") (rest := [.int (nI (st_l.getD i 0))]) (wr := []) (ws2 := fun u => []) (c_Str_coder l D cA K i hi) hx hb hml hown hts hK hE hA hP hD hS k_Str_coder m_288 (by decide) (vk_recv (adK := fun i => K (10 + i)) (i := i) hE.2.2.2.2.2.2.1 hi hS) rfl hl.1 rfl (Nat.le_of_ble_eq_true rfl) d_Sl_6 [] [] [] rfl rfl (by decide) (fun _ => rfl) (fun r u H locs hq hP hD hS => ?_)
  try dsimp only at hq
  subst hq
  refine lv_ishr hx hb d_Sl_9 ?_
  refine wn_eq (sb_shr0 _) ?_
  exact hret (nI (st_l.getD i 0)) () _ _ _ 10 d_Sl_10 rfl hP hD hS
set_option maxHeartbeats 4000000 in
theorem c_Str_charAt (l : Launch) (D : va_G) (cA : Nat → ClassId) (K : Nat → Nat) (i j : Nat) (hi : i < 5) (hj : j < st_l.getD i 0) : ck_I l y_Str_charAt (Cond.code y_Str_charAt b_Str_charAt 2 (some .char) :: w_all) 4 D cA K [.ref (K (10 + i)), .int (nI j)] [] (fun (r : Int32) (u : Unit) => r = st_ch i j) (fun u => []) := by
  obtain ⟨q1, q2, q3⟩ := st_all i hi
  refine ck_mkI (by decide) (fun r _ h => by rw [h]; exact (q3 j hj).2) (Nat.le_of_ble_eq_true rfl) ?_
  intro p e s m args below meth c Q A H locs ls hx hb hml hown hts hK hE hA hP hD hS hl hret
  have hl : lv_has ls 2 [(0, .ref (K (10 + i))), (1, .int (nI j))] := hl
  refine lv_aload_n hx hb d_Sa_0 rfl (lv_at hl 0 rfl) ?_
  refine ck_cVx (C := "java/lang/String") (rest := []) (wr := []) (ws2 := fun u => []) (c_Str_isLatin1 l D cA K i hi) hx hb hml hown hts hK hE hA hP hD hS k_Str_isLatin1 m_360 (by decide) (vk_recv (adK := fun i => K (10 + i)) (i := i) hE.2.2.2.2.2.2.1 hi hS) rfl hl.1 rfl (Nat.le_of_ble_eq_true rfl) d_Sa_1 [] [] [] rfl rfl (by decide) (fun _ => rfl) (fun r u H locs hq hP hD hS => ?_)
  try dsimp only at hq
  subst hq
  refine lv_if_eq (tgt := 16) hx hb d_Sa_4 (by decide) (fun h9 => absurd h9 (by decide)) (fun _ => ?_)
  refine lv_aload_n hx hb d_Sa_7 rfl (lv_at hl 0 rfl) ?_
  refine vk_getf hx hb (hE.2.2.2.2.2.2.1.1 i hi).2.2.1 hS hown (hts _ m_1200) (fun _ h9 => h9) d_Sa_8 ?_
  refine lv_iload_n hx hb d_Sa_11 rfl (lv_at hl 1 rfl) ?_
  refine ck_cS (rest := []) (wr := []) (ws2 := fun u => []) (c_Sl1_charAt l D cA K i j hi hj) hx hb hml hown hts hK hE hA hP hD hS k_Sl1_charAt m_364 (by decide) rfl hl.1 rfl (Nat.le_of_ble_eq_true rfl) d_Sa_12 [] [] [] rfl rfl (by decide) (fun _ => rfl) (fun r u H locs hq hP hD hS => ?_)
  try dsimp only at hq
  subst hq
  exact hret (st_ch i j) () _ _ _ 15 d_Sa_15 rfl hP hD hS
