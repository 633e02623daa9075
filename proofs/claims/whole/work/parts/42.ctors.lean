/-! constructors -/
theorem d_Co_init_0 : decode b_Co_init 0 = .ok (.aload_n 0, 1) := by decide +kernel
theorem d_Co_init_1 : decode b_Co_init 1 = .ok (.invokespecial 3, 3) := by decide +kernel
theorem d_Co_init_4 : decode b_Co_init 4 = .ok (.aload_n 0, 1) := by decide +kernel
theorem d_Co_init_5 : decode b_Co_init 5 = .ok (.iload_n 1, 1) := by decide +kernel
theorem d_Co_init_6 : decode b_Co_init 6 = .ok (.newarray .int, 2) := by decide +kernel
theorem d_Co_init_8 : decode b_Co_init 8 = .ok (.putfield 9, 3) := by decide +kernel
theorem d_Co_init_11 : decode b_Co_init 11 = .ok (.return_, 1) := by decide +kernel
set_option maxHeartbeats 4000000 in
set_option maxRecDepth 100000 in
theorem c_Co_init (l : Launch) (D : va_G) (cA : Nat → ClassId) (K : Nat → Nat) (a cap : Nat) (hcap : cap ≤ 1000) : ck_N l y_Co_init (Cond.code y_Co_init b_Co_init 2 none :: w_all) 1 1 (0 + cap) D cA K [.ref a, .int (nI cap)] [(a, .inr (0, [.null, .int 0]))] (fun (u : Nat) => True) (fun u => [(a, .inr (0, [.ref u, .int (nI (([] : List Int32).length))])), (u, .inl (cA 0, cap, .inl (fun _ => 0)))]) := by
  refine ck_mkN (by decide) rfl (Nat.le_of_ble_eq_true rfl) ?_
  intro pG eG sG mG argsG belowG methG cG Q A H locs ls hx hb hml hown hts hK hE hA hin hao hP hD hS hl hret
  have hl : lv_has ls 2 [(0, .ref a), (1, .int (nI cap))] := hl
  refine lv_aload_n hx hb d_Co_init_0 rfl (lv_at hl 0 rfl) ?_
  refine W.objInit hx hb hown (hts _ m_35) (hts _ m_28) (hts _ m_29) rfl (hl.1.trans hml.symm) rfl d_Co_init_1 (Nat.le_of_ble_eq_true rfl) (Nat.le_of_ble_eq_true rfl) ?_
  refine lv_aload_n hx hb d_Co_init_4 rfl (lv_at hl 0 rfl) ?_
  refine lv_iload_n hx hb d_Co_init_5 rfl (lv_at hl 1 rfl) ?_
  refine nw_i hx hb hts m_43 hK hP hD hS hA hcap ⟨Nat.le_refl _, Nat.le_refl _⟩ d_Co_init_6 (fun q6 H hP hD hS => ?_)
  have hP : va_P D vwCl [(a, .inr (0, [.null, .int 0])), (q6, .inl (cA 0, cap, .inl (fun _ => 0)))] H := hP
  have hD : va_D A [(a, .inr (0, [.null, .int 0])), (q6, .inl (cA 0, cap, .inl (fun _ => 0)))] := hD
  refine va_putF (D := D) (ci := 0) (v := .ref q6) (ty := (.array .int)) (C := RX0) (T := TX0) (N := 2) hx hb hts inX0 tyX0 tyX0_ok nmX0 hown hK hP hD hS 0 rfl rfl 0 (by decide) (hts _ m_36) (fun _ h9 => h9) rfl hin rfl (by decide +kernel) rfl rfl (Nat.le_of_ble_eq_true rfl) d_Co_init_8 (fun H locs hP hD hS => ?_)
  have hP : va_P D vwCl [(a, .inr (0, [.ref q6, .int 0])), (q6, .inl (cA 0, cap, .inl (fun _ => 0)))] H := hP
  have hD : va_D A [(a, .inr (0, [.ref q6, .int 0])), (q6, .inl (cA 0, cap, .inl (fun _ => 0)))] := hD
  have hP : va_P D vwCl [(a, .inr (0, [.ref q6, .int (nI (([] : List Int32).length))])), (q6, .inl (cA 0, cap, .inl (fun _ => 0)))] H := id hP
  have hD : va_D A [(a, .inr (0, [.ref q6, .int (nI (([] : List Int32).length))])), (q6, .inl (cA 0, cap, .inl (fun _ => 0)))] := id hD
  exact hret q6 _ _ _ 11 d_Co_init_11 trivial hP hD hS
theorem k_Co_init : cf_N y_Co_init b_Co_init 2 1 := ⟨⟨m_33, m_2, m_34⟩, by decide +kernel⟩
