theorem hd_X0_copyFrom : yX0_copyFrom.cls = RX0 ∧ yX0_copyFrom.cls ≠ "java/lang/invoke/MethodHandle" ∧ yX0_copyFrom.cls ≠ "java/lang/invoke/VarHandle" ∧ (parseMethodDescriptor yX0_copyFrom.desc).map (fun d => d.parameters.length) = some 1 := by decide +kernel
theorem in_X0_copyFrom_X0 : ∀ w ∈ u_ws RX0 TX0 3, w ∈ wsX0_copyFrom := fun _ h => List.mem_cons_of_mem _ (List.mem_append_right _ h)
theorem wd_X0_copyFrom_1 : Cond.fieldLink RX0 9 "FogOrders$Board" "numbers" "[I" ∈ wsX0_copyFrom := List.mem_of_getElem? (i := 1) rfl
theorem wd_X0_copyFrom_2 : Cond.methodLink RX0 27 arraycopyName ∈ wsX0_copyFrom := List.mem_of_getElem? (i := 2) rfl
theorem wd_X0_copyFrom_3 : Cond.native arraycopyName ∈ wsX0_copyFrom := List.mem_of_getElem? (i := 3) rfl
theorem wd_X0_copyFrom_4 : Cond.static arraycopyName ∈ wsX0_copyFrom := List.mem_of_getElem? (i := 4) rfl
theorem wd_X0_copyFrom_5 : Cond.initialized "java/lang/System" ∈ wsX0_copyFrom := List.mem_of_getElem? (i := 5) rfl
theorem wd_X0_copyFrom_6 : Cond.fieldLink RX0 15 "FogOrders$Board" "owners" "[I" ∈ wsX0_copyFrom := List.mem_of_getElem? (i := 6) rfl
theorem wd_X0_copyFrom_7 : Cond.fieldLink RX0 18 "FogOrders$Board" "cells" "[I" ∈ wsX0_copyFrom := List.mem_of_getElem? (i := 7) rfl
abbrev rX0_copyFrom : Room := { frames := 1, cells := 0, slots := 0, locals := 60 }
set_option maxHeartbeats 4000000 in
set_option maxRecDepth 100000 in
theorem c_X0_copyFrom (l : Launch) (D : va_G) (cI cZ cB cJ : ClassId) (A_t : Nat) (A_t_numbers : Nat) (A_t_owners : Nat) (A_t_cells : Nat) (A_p1 : Nat) (A_p1_numbers : Nat) (A_p1_owners : Nat) (A_p1_cells : Nat) (sz : Nat) (V_p1_numbers : Nat → Int32) (V_t_numbers : Nat → Int32) (V_p1_owners : Nat → Int32) (V_t_owners : Nat → Int32) (V_p1_cells : Nat → Int32) (V_t_cells : Nat → Int32) (w1 : Nat → Int32) (w2 : Nat → Int32) (w3 : Nat → Int32) (hg : g_X0_copyFrom V_p1_numbers V_t_numbers V_p1_owners V_t_owners V_p1_cells V_t_cells = some (w1, w2, w3)) : Met l yX0_copyFrom wsX0_copyFrom rX0_copyFrom (PcW D cI cZ cB cJ sz [(A_t, .inr (0, [.ref A_t_numbers, .ref A_t_owners, .ref A_t_cells])), (A_p1, .inr (0, [.ref A_p1_numbers, .ref A_p1_owners, .ref A_p1_cells])), (A_p1_numbers, .inl (cI, 10, .inl V_p1_numbers)), (A_t_numbers, .inl (cI, 10, .inl V_t_numbers)), (A_p1_owners, .inl (cI, 12, .inl V_p1_owners)), (A_t_owners, .inl (cI, 12, .inl V_t_owners)), (A_p1_cells, .inl (cI, 63, .inl V_p1_cells)), (A_t_cells, .inl (cI, 63, .inl V_t_cells))] [.ref A_t, .ref A_p1]) (QWv D cI cZ cB cJ sz [(A_t, .inr (0, [.ref A_t_numbers, .ref A_t_owners, .ref A_t_cells])), (A_p1, .inr (0, [.ref A_p1_numbers, .ref A_p1_owners, .ref A_p1_cells])), (A_p1_numbers, .inl (cI, 10, .inl V_p1_numbers)), (A_t_numbers, .inl (cI, 10, .inl V_t_numbers)), (A_p1_owners, .inl (cI, 12, .inl V_p1_owners)), (A_t_owners, .inl (cI, 12, .inl V_t_owners)), (A_p1_cells, .inl (cI, 63, .inl V_p1_cells)), (A_t_cells, .inl (cI, 63, .inl V_t_cells))] [(A_t, .inr (0, [.ref A_t_numbers, .ref A_t_owners, .ref A_t_cells])), (A_p1, .inr (0, [.ref A_p1_numbers, .ref A_p1_owners, .ref A_p1_cells])), (A_p1_numbers, .inl (cI, 10, .inl V_p1_numbers)), (A_t_numbers, .inl (cI, 10, .inl w1)), (A_p1_owners, .inl (cI, 12, .inl V_p1_owners)), (A_t_owners, .inl (cI, 12, .inl w2)), (A_p1_cells, .inl (cI, 63, .inl V_p1_cells)), (A_t_cells, .inl (cI, 63, .inl w3))]) 0 0 (va_A [(A_t, .inr (0, [.ref A_t_numbers, .ref A_t_owners, .ref A_t_cells])), (A_p1, .inr (0, [.ref A_p1_numbers, .ref A_p1_owners, .ref A_p1_cells])), (A_p1_numbers, .inl (cI, 10, .inl V_p1_numbers)), (A_t_numbers, .inl (cI, 10, .inl V_t_numbers)), (A_p1_owners, .inl (cI, 12, .inl V_p1_owners)), (A_t_owners, .inl (cI, 12, .inl V_t_owners)), (A_p1_cells, .inl (cI, 63, .inl V_p1_cells)), (A_t_cells, .inl (cI, 63, .inl V_t_cells))] sz) := by
  refine bodyWv (cc := cX0_copyFrom) (maxL := 2) (lv := [(0, .ref A_t), (1, .ref A_p1)]) (by decide) rfl (Nat.le_of_ble_eq_true rfl) rfl ?_
  intro p e s m args below meth c Q hx hb hml hown hts A hP hK hD hA hS fin ls hl
  replace hown : s.vm.findClass RX0 = some m.cls := hown
  have S : CallFix p m c cX0_copyFrom 2 s args wsX0_copyFrom RX0 := ⟨hx, hb, hml, hown, hts⟩
  unfold g_X0_copyFrom at hg
  refine lv_aload_n hx hb dX0_copyFrom_0 rfl (lv_at hl 1 rfl) ?_
  refine xget (ci := 0) (C := RX0) (T := TX0) (N := 3) (v := .ref A_p1_numbers) hx hb hts in_X0_copyFrom_X0 hown hK hP 1 rfl rfl 0 (by decide) wd_X0_copyFrom_1 rfl dX0_copyFrom_1 ?_
  refine lv_iconst (v := 0) hx hb dX0_copyFrom_4 (by decide) ?_
  refine lv_aload_n hx hb dX0_copyFrom_5 rfl (lv_at hl 0 rfl) ?_
  refine xget (ci := 0) (C := RX0) (T := TX0) (N := 3) (v := .ref A_t_numbers) hx hb hts in_X0_copyFrom_X0 hown hK hP 0 rfl rfl 0 (by decide) wd_X0_copyFrom_1 rfl dX0_copyFrom_6 ?_
  refine lv_iconst (v := 0) hx hb dX0_copyFrom_9 (by decide) ?_
  refine lv_bipush (v := 10) hx hb dX0_copyFrom_10 (by decide) ?_
  refine xcopyi (N := 10) (ws2 := [(A_t, .inr (0, [.ref A_t_numbers, .ref A_t_owners, .ref A_t_cells])), (A_p1, .inr (0, [.ref A_p1_numbers, .ref A_p1_owners, .ref A_p1_cells])), (A_p1_numbers, .inl (cI, 10, .inl V_p1_numbers)), (A_t_numbers, .inl (cI, 10, .inl (va_cpy V_p1_numbers V_t_numbers 0 0 10))), (A_p1_owners, .inl (cI, 12, .inl V_p1_owners)), (A_t_owners, .inl (cI, 12, .inl V_t_owners)), (A_p1_cells, .inl (cI, 63, .inl V_p1_cells)), (A_t_cells, .inl (cI, 63, .inl V_t_cells))]) hx hb hml hl.1 hown hts wd_X0_copyFrom_2 wd_X0_copyFrom_3 wd_X0_copyFrom_4 wd_X0_copyFrom_5 hK hP hD hS 2 3 rfl rfl (by decide) (by decide) (Nat.le_of_ble_eq_true rfl) (Nat.le_of_ble_eq_true rfl) (Nat.le_of_ble_eq_true rfl) (Nat.le_of_ble_eq_true rfl) rfl dX0_copyFrom_12 (fun H locs hP hD hS => ?_)
  refine lv_aload_n hx hb dX0_copyFrom_15 rfl (lv_at hl 1 rfl) ?_
  refine xget (ci := 0) (C := RX0) (T := TX0) (N := 3) (v := .ref A_p1_owners) hx hb hts in_X0_copyFrom_X0 hown hK hP 1 rfl rfl 1 (by decide) wd_X0_copyFrom_6 rfl dX0_copyFrom_16 ?_
  refine lv_iconst (v := 0) hx hb dX0_copyFrom_19 (by decide) ?_
  refine lv_aload_n hx hb dX0_copyFrom_20 rfl (lv_at hl 0 rfl) ?_
  refine xget (ci := 0) (C := RX0) (T := TX0) (N := 3) (v := .ref A_t_owners) hx hb hts in_X0_copyFrom_X0 hown hK hP 0 rfl rfl 1 (by decide) wd_X0_copyFrom_6 rfl dX0_copyFrom_21 ?_
  refine lv_iconst (v := 0) hx hb dX0_copyFrom_24 (by decide) ?_
  refine lv_bipush (v := 12) hx hb dX0_copyFrom_25 (by decide) ?_
  refine xcopyi (N := 12) (ws2 := [(A_t, .inr (0, [.ref A_t_numbers, .ref A_t_owners, .ref A_t_cells])), (A_p1, .inr (0, [.ref A_p1_numbers, .ref A_p1_owners, .ref A_p1_cells])), (A_p1_numbers, .inl (cI, 10, .inl V_p1_numbers)), (A_t_numbers, .inl (cI, 10, .inl (va_cpy V_p1_numbers V_t_numbers 0 0 10))), (A_p1_owners, .inl (cI, 12, .inl V_p1_owners)), (A_t_owners, .inl (cI, 12, .inl (va_cpy V_p1_owners V_t_owners 0 0 12))), (A_p1_cells, .inl (cI, 63, .inl V_p1_cells)), (A_t_cells, .inl (cI, 63, .inl V_t_cells))]) hx hb hml hl.1 hown hts wd_X0_copyFrom_2 wd_X0_copyFrom_3 wd_X0_copyFrom_4 wd_X0_copyFrom_5 hK hP hD hS 4 5 rfl rfl (by decide) (by decide) (Nat.le_of_ble_eq_true rfl) (Nat.le_of_ble_eq_true rfl) (Nat.le_of_ble_eq_true rfl) (Nat.le_of_ble_eq_true rfl) rfl dX0_copyFrom_27 (fun H locs hP hD hS => ?_)
  refine lv_aload_n hx hb dX0_copyFrom_30 rfl (lv_at hl 1 rfl) ?_
  refine xget (ci := 0) (C := RX0) (T := TX0) (N := 3) (v := .ref A_p1_cells) hx hb hts in_X0_copyFrom_X0 hown hK hP 1 rfl rfl 2 (by decide) wd_X0_copyFrom_7 rfl dX0_copyFrom_31 ?_
  refine lv_iconst (v := 0) hx hb dX0_copyFrom_34 (by decide) ?_
  refine lv_aload_n hx hb dX0_copyFrom_35 rfl (lv_at hl 0 rfl) ?_
  refine xget (ci := 0) (C := RX0) (T := TX0) (N := 3) (v := .ref A_t_cells) hx hb hts in_X0_copyFrom_X0 hown hK hP 0 rfl rfl 2 (by decide) wd_X0_copyFrom_7 rfl dX0_copyFrom_36 ?_
  refine lv_iconst (v := 0) hx hb dX0_copyFrom_39 (by decide) ?_
  refine lv_bipush (v := 63) hx hb dX0_copyFrom_40 (by decide) ?_
  refine xcopyi (N := 63) (ws2 := [(A_t, .inr (0, [.ref A_t_numbers, .ref A_t_owners, .ref A_t_cells])), (A_p1, .inr (0, [.ref A_p1_numbers, .ref A_p1_owners, .ref A_p1_cells])), (A_p1_numbers, .inl (cI, 10, .inl V_p1_numbers)), (A_t_numbers, .inl (cI, 10, .inl (va_cpy V_p1_numbers V_t_numbers 0 0 10))), (A_p1_owners, .inl (cI, 12, .inl V_p1_owners)), (A_t_owners, .inl (cI, 12, .inl (va_cpy V_p1_owners V_t_owners 0 0 12))), (A_p1_cells, .inl (cI, 63, .inl V_p1_cells)), (A_t_cells, .inl (cI, 63, .inl (va_cpy V_p1_cells V_t_cells 0 0 63)))]) hx hb hml hl.1 hown hts wd_X0_copyFrom_2 wd_X0_copyFrom_3 wd_X0_copyFrom_4 wd_X0_copyFrom_5 hK hP hD hS 6 7 rfl rfl (by decide) (by decide) (Nat.le_of_ble_eq_true rfl) (Nat.le_of_ble_eq_true rfl) (Nat.le_of_ble_eq_true rfl) (Nat.le_of_ble_eq_true rfl) rfl dX0_copyFrom_42 (fun H locs hP hD hS => ?_)
  cases hg
  exact fin _ _ _ _ dX0_copyFrom_45 hP hD hS
theorem hd_X0_number : yX0_number.cls = RX0 ∧ yX0_number.cls ≠ "java/lang/invoke/MethodHandle" ∧ yX0_number.cls ≠ "java/lang/invoke/VarHandle" ∧ (parseMethodDescriptor yX0_number.desc).map (fun d => d.parameters.length) = some 1 := by decide +kernel
theorem in_X0_number_X0 : ∀ w ∈ u_ws RX0 TX0 3, w ∈ wsX0_number := fun _ h => List.mem_cons_of_mem _ (List.mem_append_right _ h)
theorem wd_X0_number_1 : Cond.fieldLink RX0 9 "FogOrders$Board" "numbers" "[I" ∈ wsX0_number := List.mem_of_getElem? (i := 1) rfl
abbrev rX0_number : Room := { frames := 0, cells := 0, slots := 0, locals := 0 }
set_option maxHeartbeats 4000000 in
set_option maxRecDepth 100000 in
theorem c_X0_number (l : Launch) (D : va_G) (cI cZ cB cJ : ClassId) (A_t : Nat) (A_t_numbers : Nat) (A_t_owners : Nat) (A_t_cells : Nat) (V_t_numbers : Nat → Int32) (x1 : Int32) (r0 : Int32) (hg : g_X0_number V_t_numbers x1 = some r0) : Met l yX0_number wsX0_number rX0_number (PcR D cI cZ cB cJ [(A_t, .inr (0, [.ref A_t_numbers, .ref A_t_owners, .ref A_t_cells])), (A_t_numbers, .inl (cI, 10, .inl V_t_numbers))] [.ref A_t, .int x1]) (vp_Si (fun r' => r' = r0 ∧ True)) 0 0 (fun _ => False) := by
  refine bodyRi (cc := cX0_number) (maxL := 2) (lv := [(0, .ref A_t), (1, .int x1)]) (by decide) rfl (Nat.le_of_ble_eq_true rfl) rfl ?_
  intro p e s m args below meth c Q hx hb hml hown hts hP hK fin ls hl
  replace hown : s.vm.findClass RX0 = some m.cls := hown
  have S : CallFix p m c cX0_number 2 s args wsX0_number RX0 := ⟨hx, hb, hml, hown, hts⟩
  unfold g_X0_number at hg
  refine lv_iload_n hx hb dX0_number_0 rfl (lv_at hl 1 rfl) ?_
  refine lv_if_lt (tgt := 22) hx hb dX0_number_1 (by decide) (fun hc => ?_) (fun hc => ?_)
  · replace hg := if_yes hg hc
    refine lv_iconst (v := (-1)) hx hb dX0_number_22 (by decide) ?_
    cases hg
    exact fin _ _ dX0_number_23
  · replace hg := if_no hg hc
    refine lv_iload_n hx hb dX0_number_4 rfl (lv_at hl 1 rfl) ?_
    refine lv_aload_n hx hb dX0_number_5 rfl (lv_at hl 0 rfl) ?_
    refine xget (ci := 0) (C := RX0) (T := TX0) (N := 3) (v := .ref A_t_numbers) hx hb hts in_X0_number_X0 hown hK hP 0 rfl rfl 0 (by decide) wd_X0_number_1 rfl dX0_number_6 ?_
    refine xalen (v := 10) hx hb hK hP 1 rfl rfl dX0_number_9 ?_
    refine lv_icmp_ge (tgt := 22) hx hb dX0_number_10 (by decide) (fun hc => ?_) (fun hc => ?_)
    · replace hg := if_yes hg hc
      refine lv_iconst (v := (-1)) hx hb dX0_number_22 (by decide) ?_
      cases hg
      exact fin _ _ dX0_number_23
    · replace hg := if_no hg hc
      refine lv_aload_n hx hb dX0_number_13 rfl (lv_at hl 0 rfl) ?_
      refine xget (ci := 0) (C := RX0) (T := TX0) (N := 3) (v := .ref A_t_numbers) hx hb hts in_X0_number_X0 hown hK hP 0 rfl rfl 0 (by decide) wd_X0_number_1 rfl dX0_number_14 ?_
      refine lv_iload_n hx hb dX0_number_17 rfl (lv_at hl 1 rfl) ?_
      obtain ⟨v1, hin, hv, hg⟩ := rdA_ex hg
      refine xiald hx hb hK hP 1 rfl hin hv dX0_number_18 ?_
      refine lv_goto (tgt := 23) hx hb dX0_number_19 (by decide) ?_
      cases hg
      exact fin _ _ dX0_number_23
theorem hd_X4_enter : yX4_enter.cls ≠ "java/lang/invoke/MethodHandle" ∧ yX4_enter.cls ≠ "java/lang/invoke/VarHandle" ∧ (parseMethodDescriptor yX4_enter.desc).map (fun d => d.parameters.length) = some 3 := by decide +kernel
abbrev rX4_enter : Room := { frames := 0, cells := 0, slots := 0, locals := 0 }
set_option maxHeartbeats 4000000 in
set_option maxRecDepth 100000 in
theorem c_X4_enter (l : Launch) (D : va_G) (cI cZ cB cJ : ClassId) (A_p0 : Nat) (n_p0 : Nat) (sz : Nat) (V_p0 : Nat → Int32) (x2 : Int32) (x3 : Int32) (w1 : Nat → Int32) (hg : g_X4_enter n_p0 V_p0 x2 x3 = some w1) : Met l yX4_enter wsX4_enter rX4_enter (PcW D cI cZ cB cJ sz [(A_p0, .inl (cI, n_p0, .inl V_p0))] [.ref A_p0, .int x2, .int x3]) (QWv D cI cZ cB cJ sz [(A_p0, .inl (cI, n_p0, .inl V_p0))] [(A_p0, .inl (cI, n_p0, .inl w1))]) 0 0 (va_A [(A_p0, .inl (cI, n_p0, .inl V_p0))] sz) := by
  refine bodyWv (cc := cX4_enter) (maxL := 3) (lv := [(0, .ref A_p0), (1, .int x2), (2, .int x3)]) (by decide) rfl (Nat.le_of_ble_eq_true rfl) rfl ?_
  intro p e s m args below meth c Q hx hb hml hown hts A hP hK hD hA hS fin ls hl
  replace hown : s.vm.findClass RX4 = some m.cls := hown
  have S : CallFix p m c cX4_enter 3 s args wsX4_enter RX4 := ⟨hx, hb, hml, hown, hts⟩
  unfold g_X4_enter at hg
  refine lv_iload_n hx hb dX4_enter_0 rfl (lv_at hl 1 rfl) ?_
  refine lv_if_lt (tgt := 14) hx hb dX4_enter_1 (by decide) (fun hc => ?_) (fun hc => ?_)
  · replace hg := if_yes hg hc
    cases hg
    exact fin _ _ _ _ dX4_enter_14 hP hD hS
  · replace hg := if_no hg hc
    refine lv_iload_n hx hb dX4_enter_4 rfl (lv_at hl 1 rfl) ?_
    refine lv_aload_n hx hb dX4_enter_5 rfl (lv_at hl 0 rfl) ?_
    refine xalen (v := (Int32.ofNat n_p0)) hx hb hK hP 0 rfl rfl dX4_enter_6 ?_
    refine lv_icmp_ge (tgt := 14) hx hb dX4_enter_7 (by decide) (fun hc => ?_) (fun hc => ?_)
    · replace hg := if_yes hg hc
      cases hg
      exact fin _ _ _ _ dX4_enter_14 hP hD hS
    · replace hg := if_no hg hc
      refine lv_aload_n hx hb dX4_enter_10 rfl (lv_at hl 0 rfl) ?_
      refine lv_iload_n hx hb dX4_enter_11 rfl (lv_at hl 1 rfl) ?_
      refine lv_iload_n hx hb dX4_enter_12 rfl (lv_at hl 2 rfl) ?_
      obtain ⟨f1, hin, hv, hg⟩ := wrA_ex hg
      refine xiast (ws2 := [(A_p0, .inl (cI, n_p0, .inl f1))]) hx hb hK hP hD hS 0 rfl hin hv rfl dX4_enter_13 (fun H locs hP hD hS => ?_)
      cases hg
      exact fin _ _ _ _ dX4_enter_14 hP hD hS
theorem hd_X0_countOne : yX0_countOne.cls = RX0 ∧ yX0_countOne.cls ≠ "java/lang/invoke/MethodHandle" ∧ yX0_countOne.cls ≠ "java/lang/invoke/VarHandle" ∧ (parseMethodDescriptor yX0_countOne.desc).map (fun d => d.parameters.length) = some 1 := by decide +kernel
theorem in_X0_countOne_X0 : ∀ w ∈ u_ws RX0 TX0 3, w ∈ wsX0_countOne := fun _ h => List.mem_cons_of_mem _ (List.mem_append_right _ h)
theorem wd_X0_countOne_1 : Cond.fieldLink RX0 9 "FogOrders$Board" "numbers" "[I" ∈ wsX0_countOne := List.mem_of_getElem? (i := 1) rfl
theorem wd_X0_countOne_8 : Cond.initialized RX4 ∈ wsX0_countOne := List.mem_of_getElem? (i := 8) rfl
theorem wd_X0_countOne_7 : Cond.static yX4_enter ∈ wsX0_countOne := List.mem_of_getElem? (i := 7) rfl
abbrev rX0_countOne : Room := { frames := 1, cells := 0, slots := 0, locals := 22 }
set_option maxHeartbeats 4000000 in
set_option maxRecDepth 100000 in
theorem c_X0_countOne (l : Launch) (D : va_G) (cI cZ cB cJ : ClassId) (A_t : Nat) (A_t_numbers : Nat) (A_t_owners : Nat) (A_t_cells : Nat) (sz : Nat) (V_t_numbers : Nat → Int32) (x1 : Int32) (w1 : Nat → Int32) (hg : g_X0_countOne V_t_numbers x1 = some w1) : Met l yX0_countOne wsX0_countOne rX0_countOne (PcW D cI cZ cB cJ sz [(A_t, .inr (0, [.ref A_t_numbers, .ref A_t_owners, .ref A_t_cells])), (A_t_numbers, .inl (cI, 10, .inl V_t_numbers))] [.ref A_t, .int x1]) (QWv D cI cZ cB cJ sz [(A_t, .inr (0, [.ref A_t_numbers, .ref A_t_owners, .ref A_t_cells])), (A_t_numbers, .inl (cI, 10, .inl V_t_numbers))] [(A_t, .inr (0, [.ref A_t_numbers, .ref A_t_owners, .ref A_t_cells])), (A_t_numbers, .inl (cI, 10, .inl w1))]) 0 0 (va_A [(A_t, .inr (0, [.ref A_t_numbers, .ref A_t_owners, .ref A_t_cells])), (A_t_numbers, .inl (cI, 10, .inl V_t_numbers))] sz) := by
  refine bodyWv (cc := cX0_countOne) (maxL := 2) (lv := [(0, .ref A_t), (1, .int x1)]) (by decide) rfl (Nat.le_of_ble_eq_true rfl) rfl ?_
  intro p e s m args below meth c Q hx hb hml hown hts A hP hK hD hA hS fin ls hl
  replace hown : s.vm.findClass RX0 = some m.cls := hown
  have S : CallFix p m c cX0_countOne 2 s args wsX0_countOne RX0 := ⟨hx, hb, hml, hown, hts⟩
  unfold g_X0_countOne at hg
  refine lv_aload_n hx hb dX0_countOne_0 rfl (lv_at hl 0 rfl) ?_
  refine xget (ci := 0) (C := RX0) (T := TX0) (N := 3) (v := .ref A_t_numbers) hx hb hts in_X0_countOne_X0 hown hK hP 0 rfl rfl 0 (by decide) wd_X0_countOne_1 rfl dX0_countOne_1 ?_
  refine lv_iload_n hx hb dX0_countOne_4 rfl (lv_at hl 1 rfl) ?_
  refine lv_aload_n hx hb dX0_countOne_5 rfl (lv_at hl 0 rfl) ?_
  refine lv_iload_n hx hb dX0_countOne_6 rfl (lv_at hl 1 rfl) ?_
  obtain ⟨v1, hq, hg⟩ := bind_ex hg
  refine callRVi (As := [.int x1]) (rest := [.int x1, .ref A_t_numbers]) S hK hP (c_X0_number l D cI cZ cB cJ A_t A_t_numbers A_t_owners A_t_cells V_t_numbers x1 v1 hq) [0, 1] rfl (cwV 1 hts gX0_countOne_X0_number rfl rfl rfl hd_X0_number ⟨Nat.le_of_ble_eq_true rfl, Nat.le_of_ble_eq_true rfl⟩) rfl rfl rfl hl.1 rfl (Nat.le_of_ble_eq_true rfl) dX0_countOne_7 ⟨Nat.zero_le _, Nat.zero_le _⟩ ?_
  refine lv_iconst (v := 1) hx hb dX0_countOne_10 (by decide) ?_
  refine lv_iadd hx hb dX0_countOne_11 ?_
  obtain ⟨f2, hq, hg⟩ := bind_ex hg
  refine callWNv (As := [.ref A_t_numbers, .int x1, .int (v1 + 1)]) (rest := []) (wr := [(A_t, .inr (0, [.ref A_t_numbers, .ref A_t_owners, .ref A_t_cells]))]) S hK hP hD hS hA (c_X4_enter l D cI cZ cB cJ A_t_numbers 10 _ V_t_numbers x1 (v1 + 1) f2 hq) [1] [0] rfl rfl (by decide +kernel) (by decide +kernel) (by decide +kernel) ⟨va_cnB 3 hts gX0_countOne_X4_enter_n37 rfl rfl rfl (hK.2 _ (List.mem_of_getElem? (i := 4) rfl)) (hts _ wd_X0_countOne_8) hd_X4_enter ⟨Nat.le_of_ble_eq_true rfl, Nat.le_of_ble_eq_true rfl⟩, hts _ wd_X0_countOne_7, trivial⟩ rfl hl.1 rfl (Nat.le_of_ble_eq_true rfl) dX0_countOne_12 ⟨Nat.zero_le _, Nat.zero_le _⟩ (fun H locs hP hD hS => ?_)
  replace hP : va_P D vwCl [(A_t, .inr (0, [.ref A_t_numbers, .ref A_t_owners, .ref A_t_cells])), (A_t_numbers, .inl (cI, 10, .inl f2))] H := hP
  replace hD : va_D A [(A_t, .inr (0, [.ref A_t_numbers, .ref A_t_owners, .ref A_t_cells])), (A_t_numbers, .inl (cI, 10, .inl f2))] := hD
  cases hg
  exact fin _ _ _ _ dX0_countOne_15 hP hD hS
theorem hd_X0_owner : yX0_owner.cls = RX0 ∧ yX0_owner.cls ≠ "java/lang/invoke/MethodHandle" ∧ yX0_owner.cls ≠ "java/lang/invoke/VarHandle" ∧ (parseMethodDescriptor yX0_owner.desc).map (fun d => d.parameters.length) = some 1 := by decide +kernel
theorem in_X0_owner_X0 : ∀ w ∈ u_ws RX0 TX0 3, w ∈ wsX0_owner := fun _ h => List.mem_cons_of_mem _ (List.mem_append_right _ h)
theorem wd_X0_owner_1 : Cond.fieldLink RX0 15 "FogOrders$Board" "owners" "[I" ∈ wsX0_owner := List.mem_of_getElem? (i := 1) rfl
abbrev rX0_owner : Room := { frames := 0, cells := 0, slots := 0, locals := 0 }
set_option maxHeartbeats 4000000 in
set_option maxRecDepth 100000 in
theorem c_X0_owner (l : Launch) (D : va_G) (cI cZ cB cJ : ClassId) (A_t : Nat) (A_t_numbers : Nat) (A_t_owners : Nat) (A_t_cells : Nat) (V_t_owners : Nat → Int32) (x1 : Int32) (r0 : Int32) (hg : g_X0_owner V_t_owners x1 = some r0) : Met l yX0_owner wsX0_owner rX0_owner (PcR D cI cZ cB cJ [(A_t, .inr (0, [.ref A_t_numbers, .ref A_t_owners, .ref A_t_cells])), (A_t_owners, .inl (cI, 12, .inl V_t_owners))] [.ref A_t, .int x1]) (vp_Si (fun r' => r' = r0 ∧ True)) 0 0 (fun _ => False) := by
  refine bodyRi (cc := cX0_owner) (maxL := 2) (lv := [(0, .ref A_t), (1, .int x1)]) (by decide) rfl (Nat.le_of_ble_eq_true rfl) rfl ?_
  intro p e s m args below meth c Q hx hb hml hown hts hP hK fin ls hl
  replace hown : s.vm.findClass RX0 = some m.cls := hown
  have S : CallFix p m c cX0_owner 2 s args wsX0_owner RX0 := ⟨hx, hb, hml, hown, hts⟩
  unfold g_X0_owner at hg
  refine lv_iload_n hx hb dX0_owner_0 rfl (lv_at hl 1 rfl) ?_
  refine lv_if_lt (tgt := 22) hx hb dX0_owner_1 (by decide) (fun hc => ?_) (fun hc => ?_)
  · replace hg := if_yes hg hc
    refine lv_iconst (v := (-1)) hx hb dX0_owner_22 (by decide) ?_
    cases hg
    exact fin _ _ dX0_owner_23
  · replace hg := if_no hg hc
    refine lv_iload_n hx hb dX0_owner_4 rfl (lv_at hl 1 rfl) ?_
    refine lv_aload_n hx hb dX0_owner_5 rfl (lv_at hl 0 rfl) ?_
    refine xget (ci := 0) (C := RX0) (T := TX0) (N := 3) (v := .ref A_t_owners) hx hb hts in_X0_owner_X0 hown hK hP 0 rfl rfl 1 (by decide) wd_X0_owner_1 rfl dX0_owner_6 ?_
    refine xalen (v := 12) hx hb hK hP 1 rfl rfl dX0_owner_9 ?_
    refine lv_icmp_ge (tgt := 22) hx hb dX0_owner_10 (by decide) (fun hc => ?_) (fun hc => ?_)
    · replace hg := if_yes hg hc
      refine lv_iconst (v := (-1)) hx hb dX0_owner_22 (by decide) ?_
      cases hg
      exact fin _ _ dX0_owner_23
    · replace hg := if_no hg hc
      refine lv_aload_n hx hb dX0_owner_13 rfl (lv_at hl 0 rfl) ?_
      refine xget (ci := 0) (C := RX0) (T := TX0) (N := 3) (v := .ref A_t_owners) hx hb hts in_X0_owner_X0 hown hK hP 0 rfl rfl 1 (by decide) wd_X0_owner_1 rfl dX0_owner_14 ?_
      refine lv_iload_n hx hb dX0_owner_17 rfl (lv_at hl 1 rfl) ?_
      obtain ⟨v1, hin, hv, hg⟩ := rdA_ex hg
      refine xiald hx hb hK hP 1 rfl hin hv dX0_owner_18 ?_
      refine lv_goto (tgt := 23) hx hb dX0_owner_19 (by decide) ?_
      cases hg
      exact fin _ _ dX0_owner_23
theorem hd_X0_hasArmy : yX0_hasArmy.cls = RX0 ∧ yX0_hasArmy.cls ≠ "java/lang/invoke/MethodHandle" ∧ yX0_hasArmy.cls ≠ "java/lang/invoke/VarHandle" ∧ (parseMethodDescriptor yX0_hasArmy.desc).map (fun d => d.parameters.length) = some 1 := by decide +kernel
abbrev rX0_hasArmy : Room := { frames := 1, cells := 0, slots := 0, locals := 21 }
set_option maxHeartbeats 4000000 in
set_option maxRecDepth 100000 in
theorem c_X0_hasArmy (l : Launch) (D : va_G) (cI cZ cB cJ : ClassId) (A_t : Nat) (A_t_numbers : Nat) (A_t_owners : Nat) (A_t_cells : Nat) (V_t_numbers : Nat → Int32) (x1 : Int32) (r0 : Int32) (hg : g_X0_hasArmy V_t_numbers x1 = some r0) : Met l yX0_hasArmy wsX0_hasArmy rX0_hasArmy (PcR D cI cZ cB cJ [(A_t, .inr (0, [.ref A_t_numbers, .ref A_t_owners, .ref A_t_cells])), (A_t_numbers, .inl (cI, 10, .inl V_t_numbers))] [.ref A_t, .int x1]) (vp_Si (fun r' => r' = r0 ∧ bo r0)) 0 0 (fun _ => False) := by
  refine bodyRz (cc := cX0_hasArmy) (maxL := 2) (lv := [(0, .ref A_t), (1, .int x1)]) (by decide) rfl (Nat.le_of_ble_eq_true rfl) rfl ?_
  intro p e s m args below meth c Q hx hb hml hown hts hP hK fin ls hl
  replace hown : s.vm.findClass RX0 = some m.cls := hown
  have S : CallFix p m c cX0_hasArmy 2 s args wsX0_hasArmy RX0 := ⟨hx, hb, hml, hown, hts⟩
  unfold g_X0_hasArmy at hg
  refine lv_iload_n hx hb dX0_hasArmy_0 rfl (lv_at hl 1 rfl) ?_
  refine lv_if_lt (tgt := 17) hx hb dX0_hasArmy_1 (by decide) (fun hc => ?_) (fun hc => ?_)
  · replace hg := if_yes hg hc
    refine lv_iconst (v := 0) hx hb dX0_hasArmy_17 (by decide) ?_
    cases hg
    exact fin _ _ bo_0 dX0_hasArmy_18
  · replace hg := if_no hg hc
    refine lv_iload_n hx hb dX0_hasArmy_4 rfl (lv_at hl 1 rfl) ?_
    refine lv_aload_n hx hb dX0_hasArmy_5 rfl (lv_at hl 0 rfl) ?_
    refine lv_iconst (v := 0) hx hb dX0_hasArmy_6 (by decide) ?_
    obtain ⟨v1, hq, hg⟩ := bind_ex hg
    refine callRVi (As := [.int 0]) (rest := [.int x1]) S hK hP (c_X0_number l D cI cZ cB cJ A_t A_t_numbers A_t_owners A_t_cells V_t_numbers 0 v1 hq) [0, 1] rfl (cwV 1 hts gX0_hasArmy_X0_number rfl rfl rfl hd_X0_number ⟨Nat.le_of_ble_eq_true rfl, Nat.le_of_ble_eq_true rfl⟩) rfl rfl rfl hl.1 rfl (Nat.le_of_ble_eq_true rfl) dX0_hasArmy_7 ⟨Nat.zero_le _, Nat.zero_le _⟩ ?_
    refine lv_icmp_ge (tgt := 17) hx hb dX0_hasArmy_10 (by decide) (fun hc => ?_) (fun hc => ?_)
    · replace hg := if_yes hg hc
      refine lv_iconst (v := 0) hx hb dX0_hasArmy_17 (by decide) ?_
      cases hg
      exact fin _ _ bo_0 dX0_hasArmy_18
    · replace hg := if_no hg hc
      refine lv_iconst (v := 1) hx hb dX0_hasArmy_13 (by decide) ?_
      refine lv_goto (tgt := 18) hx hb dX0_hasArmy_14 (by decide) ?_
      cases hg
      exact fin _ _ bo_1 dX0_hasArmy_18
theorem hd_X0_of : yX0_of.cls = RX0 ∧ yX0_of.cls ≠ "java/lang/invoke/MethodHandle" ∧ yX0_of.cls ≠ "java/lang/invoke/VarHandle" ∧ (parseMethodDescriptor yX0_of.desc).map (fun d => d.parameters.length) = some 2 := by decide +kernel
theorem in_X0_of_X0 : ∀ w ∈ u_ws RX0 TX0 3, w ∈ wsX0_of := fun _ h => List.mem_cons_of_mem _ (List.mem_append_right _ h)
theorem wd_X0_of_1 : Cond.fieldLink RX0 18 "FogOrders$Board" "cells" "[I" ∈ wsX0_of := List.mem_of_getElem? (i := 1) rfl
abbrev rX0_of : Room := { frames := 0, cells := 0, slots := 0, locals := 0 }
set_option maxHeartbeats 4000000 in
set_option maxRecDepth 100000 in
theorem c_X0_of (l : Launch) (D : va_G) (cI cZ cB cJ : ClassId) (A_t : Nat) (A_t_numbers : Nat) (A_t_owners : Nat) (A_t_cells : Nat) (V_t_cells : Nat → Int32) (x1 : Int32) (x2 : Int32) (r0 : Int32) (hg : g_X0_of V_t_cells x1 x2 = some r0) : Met l yX0_of wsX0_of rX0_of (PcR D cI cZ cB cJ [(A_t, .inr (0, [.ref A_t_numbers, .ref A_t_owners, .ref A_t_cells])), (A_t_cells, .inl (cI, 63, .inl V_t_cells))] [.ref A_t, .int x1, .int x2]) (vp_Si (fun r' => r' = r0 ∧ True)) 0 0 (fun _ => False) := by
  refine bodyRi (cc := cX0_of) (maxL := 4) (lv := [(0, .ref A_t), (1, .int x1), (2, .int x2)]) (by decide) rfl (Nat.le_of_ble_eq_true rfl) rfl ?_
  intro p e s m args below meth c Q hx hb hml hown hts hP hK fin ls hl
  replace hown : s.vm.findClass RX0 = some m.cls := hown
  have S : CallFix p m c cX0_of 4 s args wsX0_of RX0 := ⟨hx, hb, hml, hown, hts⟩
  unfold g_X0_of at hg
  refine lv_iload_n hx hb dX0_of_0 rfl (lv_at hl 1 rfl) ?_
  refine lv_bipush (v := 7) hx hb dX0_of_1 (by decide) ?_
  refine lv_imul hx hb dX0_of_3 ?_
  refine lv_iload_n hx hb dX0_of_4 rfl (lv_at hl 2 rfl) ?_
  refine lv_iadd hx hb dX0_of_5 ?_
  refine lv_istore_n (lv' := [(3, .int ((x1 * 7) + x2)), (0, .ref A_t), (1, .int x1), (2, .int x2)]) hx hb dX0_of_6 rfl hl (by decide) rfl (fun ls hl => ?_)
  refine lv_iload_n hx hb dX0_of_7 rfl (lv_at hl 0 rfl) ?_
  refine lv_if_lt (tgt := 29) hx hb dX0_of_8 (by decide) (fun hc => ?_) (fun hc => ?_)
  · replace hg := if_yes hg hc
    refine lv_iconst (v := (-1)) hx hb dX0_of_29 (by decide) ?_
    cases hg
    exact fin _ _ dX0_of_30
  · replace hg := if_no hg hc
    refine lv_iload_n hx hb dX0_of_11 rfl (lv_at hl 0 rfl) ?_
    refine lv_aload_n hx hb dX0_of_12 rfl (lv_at hl 1 rfl) ?_
    refine xget (ci := 0) (C := RX0) (T := TX0) (N := 3) (v := .ref A_t_cells) hx hb hts in_X0_of_X0 hown hK hP 0 rfl rfl 2 (by decide) wd_X0_of_1 rfl dX0_of_13 ?_
    refine xalen (v := 63) hx hb hK hP 1 rfl rfl dX0_of_16 ?_
    refine lv_icmp_ge (tgt := 29) hx hb dX0_of_17 (by decide) (fun hc => ?_) (fun hc => ?_)
    · replace hg := if_yes hg hc
      refine lv_iconst (v := (-1)) hx hb dX0_of_29 (by decide) ?_
      cases hg
      exact fin _ _ dX0_of_30
    · replace hg := if_no hg hc
      refine lv_aload_n hx hb dX0_of_20 rfl (lv_at hl 1 rfl) ?_
      refine xget (ci := 0) (C := RX0) (T := TX0) (N := 3) (v := .ref A_t_cells) hx hb hts in_X0_of_X0 hown hK hP 0 rfl rfl 2 (by decide) wd_X0_of_1 rfl dX0_of_21 ?_
      refine lv_iload_n hx hb dX0_of_24 rfl (lv_at hl 0 rfl) ?_
      obtain ⟨v1, hin, hv, hg⟩ := rdA_ex hg
      refine xiald hx hb hK hP 1 rfl hin hv dX0_of_25 ?_
      refine lv_goto (tgt := 30) hx hb dX0_of_26 (by decide) ?_
      cases hg
      exact fin _ _ dX0_of_30
theorem hd_X0_put : yX0_put.cls = RX0 ∧ yX0_put.cls ≠ "java/lang/invoke/MethodHandle" ∧ yX0_put.cls ≠ "java/lang/invoke/VarHandle" ∧ (parseMethodDescriptor yX0_put.desc).map (fun d => d.parameters.length) = some 3 := by decide +kernel
theorem in_X0_put_X0 : ∀ w ∈ u_ws RX0 TX0 3, w ∈ wsX0_put := fun _ h => List.mem_cons_of_mem _ (List.mem_append_right _ h)
theorem wd_X0_put_1 : Cond.fieldLink RX0 18 "FogOrders$Board" "cells" "[I" ∈ wsX0_put := List.mem_of_getElem? (i := 1) rfl
abbrev rX0_put : Room := { frames := 0, cells := 0, slots := 0, locals := 0 }
set_option maxHeartbeats 4000000 in
set_option maxRecDepth 100000 in
theorem c_X0_put (l : Launch) (D : va_G) (cI cZ cB cJ : ClassId) (A_t : Nat) (A_t_numbers : Nat) (A_t_owners : Nat) (A_t_cells : Nat) (sz : Nat) (V_t_cells : Nat → Int32) (x1 : Int32) (x2 : Int32) (x3 : Int32) (w1 : Nat → Int32) (hg : g_X0_put V_t_cells x1 x2 x3 = some w1) : Met l yX0_put wsX0_put rX0_put (PcW D cI cZ cB cJ sz [(A_t, .inr (0, [.ref A_t_numbers, .ref A_t_owners, .ref A_t_cells])), (A_t_cells, .inl (cI, 63, .inl V_t_cells))] [.ref A_t, .int x1, .int x2, .int x3]) (QWv D cI cZ cB cJ sz [(A_t, .inr (0, [.ref A_t_numbers, .ref A_t_owners, .ref A_t_cells])), (A_t_cells, .inl (cI, 63, .inl V_t_cells))] [(A_t, .inr (0, [.ref A_t_numbers, .ref A_t_owners, .ref A_t_cells])), (A_t_cells, .inl (cI, 63, .inl w1))]) 0 0 (va_A [(A_t, .inr (0, [.ref A_t_numbers, .ref A_t_owners, .ref A_t_cells])), (A_t_cells, .inl (cI, 63, .inl V_t_cells))] sz) := by
  refine bodyWv (cc := cX0_put) (maxL := 5) (lv := [(0, .ref A_t), (1, .int x1), (2, .int x2), (3, .int x3)]) (by decide) rfl (Nat.le_of_ble_eq_true rfl) rfl ?_
  intro p e s m args below meth c Q hx hb hml hown hts A hP hK hD hA hS fin ls hl
  replace hown : s.vm.findClass RX0 = some m.cls := hown
  have S : CallFix p m c cX0_put 5 s args wsX0_put RX0 := ⟨hx, hb, hml, hown, hts⟩
  unfold g_X0_put at hg
  refine lv_iload_n hx hb dX0_put_0 rfl (lv_at hl 1 rfl) ?_
  refine lv_bipush (v := 7) hx hb dX0_put_1 (by decide) ?_
  refine lv_imul hx hb dX0_put_3 ?_
  refine lv_iload_n hx hb dX0_put_4 rfl (lv_at hl 2 rfl) ?_
  refine lv_iadd hx hb dX0_put_5 ?_
  refine lv_istore (lv' := [(4, .int ((x1 * 7) + x2)), (0, .ref A_t), (1, .int x1), (2, .int x2), (3, .int x3)]) hx hb dX0_put_6 hl (by decide) rfl (fun ls hl => ?_)
  refine lv_iload hx hb dX0_put_8 (lv_at hl 0 rfl) ?_
  refine lv_if_lt (tgt := 31) hx hb dX0_put_10 (by decide) (fun hc => ?_) (fun hc => ?_)
  · replace hg := if_yes hg hc
    cases hg
    exact fin _ _ _ _ dX0_put_31 hP hD hS
  · replace hg := if_no hg hc
    refine lv_iload hx hb dX0_put_13 (lv_at hl 0 rfl) ?_
    refine lv_aload_n hx hb dX0_put_15 rfl (lv_at hl 1 rfl) ?_
    refine xget (ci := 0) (C := RX0) (T := TX0) (N := 3) (v := .ref A_t_cells) hx hb hts in_X0_put_X0 hown hK hP 0 rfl rfl 2 (by decide) wd_X0_put_1 rfl dX0_put_16 ?_
    refine xalen (v := 63) hx hb hK hP 1 rfl rfl dX0_put_19 ?_
    refine lv_icmp_ge (tgt := 31) hx hb dX0_put_20 (by decide) (fun hc => ?_) (fun hc => ?_)
    · replace hg := if_yes hg hc
      cases hg
      exact fin _ _ _ _ dX0_put_31 hP hD hS
    · replace hg := if_no hg hc
      refine lv_aload_n hx hb dX0_put_23 rfl (lv_at hl 1 rfl) ?_
      refine xget (ci := 0) (C := RX0) (T := TX0) (N := 3) (v := .ref A_t_cells) hx hb hts in_X0_put_X0 hown hK hP 0 rfl rfl 2 (by decide) wd_X0_put_1 rfl dX0_put_24 ?_
      refine lv_iload hx hb dX0_put_27 (lv_at hl 0 rfl) ?_
      refine lv_iload_n hx hb dX0_put_29 rfl (lv_at hl 4 rfl) ?_
      obtain ⟨f1, hin, hv, hg⟩ := wrA_ex hg
      refine xiast (ws2 := [(A_t, .inr (0, [.ref A_t_numbers, .ref A_t_owners, .ref A_t_cells])), (A_t_cells, .inl (cI, 63, .inl f1))]) hx hb hK hP hD hS 1 rfl hin hv rfl dX0_put_30 (fun H locs hP hD hS => ?_)
      cases hg
      exact fin _ _ _ _ dX0_put_31 hP hD hS
theorem hd_X0_armyOn : yX0_armyOn.cls = RX0 ∧ yX0_armyOn.cls ≠ "java/lang/invoke/MethodHandle" ∧ yX0_armyOn.cls ≠ "java/lang/invoke/VarHandle" ∧ (parseMethodDescriptor yX0_armyOn.desc).map (fun d => d.parameters.length) = some 1 := by decide +kernel
abbrev rX0_armyOn : Room := { frames := 1, cells := 0, slots := 0, locals := 23 }
set_option maxHeartbeats 4000000 in
set_option maxRecDepth 100000 in
theorem c_X0_armyOn (l : Launch) (D : va_G) (cI cZ cB cJ : ClassId) (A_t : Nat) (A_t_numbers : Nat) (A_t_owners : Nat) (A_t_cells : Nat) (V_t_numbers : Nat → Int32) (V_t_cells : Nat → Int32) (x1 : Int32) (r0 : Int32) (hg : g_X0_armyOn V_t_numbers V_t_cells x1 = some r0) : Met l yX0_armyOn wsX0_armyOn rX0_armyOn (PcR D cI cZ cB cJ [(A_t, .inr (0, [.ref A_t_numbers, .ref A_t_owners, .ref A_t_cells])), (A_t_numbers, .inl (cI, 10, .inl V_t_numbers)), (A_t_cells, .inl (cI, 63, .inl V_t_cells))] [.ref A_t, .int x1]) (vp_Si (fun r' => r' = r0 ∧ True)) 0 0 (fun _ => False) := by
  refine bodyRi (cc := cX0_armyOn) (maxL := 3) (lv := [(0, .ref A_t), (1, .int x1)]) (by decide) rfl (Nat.le_of_ble_eq_true rfl) rfl ?_
  intro p e s m args below meth c Q hx hb hml hown hts hP hK fin ls hl
  replace hown : s.vm.findClass RX0 = some m.cls := hown
  have S : CallFix p m c cX0_armyOn 3 s args wsX0_armyOn RX0 := ⟨hx, hb, hml, hown, hts⟩
  unfold g_X0_armyOn at hg
  refine lv_iconst (v := 0) hx hb dX0_armyOn_0 (by decide) ?_
  refine lv_istore_n (lv' := [(2, .int 0), (0, .ref A_t), (1, .int x1)]) hx hb dX0_armyOn_1 rfl hl (by decide) rfl (fun ls hl => ?_)
  have L : ∀ (nf : Nat) (v1 : Int32), ∀ ls : Array Slot, lv_has ls 3 [(2, .int v1), (0, .ref A_t), (1, .int x1)] → g_X0_armyOn_L1 V_t_numbers V_t_cells x1 nf v1 = some r0 → W p l e rX0_armyOn s m args below meth c s.heap [] 0 0 Q (F0 m 2 ls []) := by
    intro nf
    induction nf with
    | zero =>
      intro v1 ls hl hg
      exact no_some hg
    | succ nf ih =>
      intro v1 ls hl hg
      rw [g_X0_armyOn_L1] at hg
      refine lv_iload_n hx hb dX0_armyOn_2 rfl (lv_at hl 0 rfl) ?_
      refine lv_aload_n hx hb dX0_armyOn_3 rfl (lv_at hl 1 rfl) ?_
      refine lv_iconst (v := 0) hx hb dX0_armyOn_4 (by decide) ?_
      obtain ⟨v2, hq, hg⟩ := bind_ex hg
      refine callRVi (As := [.int 0]) (rest := [.int v1]) S hK hP (c_X0_number l D cI cZ cB cJ A_t A_t_numbers A_t_owners A_t_cells V_t_numbers 0 v2 hq) [0, 1] rfl (cwV 1 hts gX0_armyOn_X0_number rfl rfl rfl hd_X0_number ⟨Nat.le_of_ble_eq_true rfl, Nat.le_of_ble_eq_true rfl⟩) rfl rfl rfl hl.1 rfl (Nat.le_of_ble_eq_true rfl) dX0_armyOn_5 ⟨Nat.zero_le _, Nat.zero_le _⟩ ?_
      refine lv_icmp_ge (tgt := 29) hx hb dX0_armyOn_8 (by decide) (fun hc => ?_) (fun hc => ?_)
      · replace hg := if_yes hg hc
        refine lv_iconst (v := (-1)) hx hb dX0_armyOn_29 (by decide) ?_
        cases hg
        exact fin _ _ dX0_armyOn_30
      · replace hg := if_no hg hc
        refine lv_aload_n hx hb dX0_armyOn_11 rfl (lv_at hl 1 rfl) ?_
        refine lv_iload_n hx hb dX0_armyOn_12 rfl (lv_at hl 0 rfl) ?_
        refine lv_iconst (v := 1) hx hb dX0_armyOn_13 (by decide) ?_
        obtain ⟨v3, hq, hg⟩ := bind_ex hg
        refine callRVi (As := [.int v1, .int 1]) (rest := []) S hK hP (c_X0_of l D cI cZ cB cJ A_t A_t_numbers A_t_owners A_t_cells V_t_cells v1 1 v3 hq) [0, 2] rfl (cwV 2 hts gX0_armyOn_X0_of rfl rfl rfl hd_X0_of ⟨Nat.le_of_ble_eq_true rfl, Nat.le_of_ble_eq_true rfl⟩) rfl rfl rfl hl.1 rfl (Nat.le_of_ble_eq_true rfl) dX0_armyOn_14 ⟨Nat.zero_le _, Nat.zero_le _⟩ ?_
        refine lv_iload_n hx hb dX0_armyOn_17 rfl (lv_at hl 2 rfl) ?_
        refine lv_icmp_ne (tgt := 23) hx hb dX0_armyOn_18 (by decide) (fun hc => ?_) (fun hc => ?_)
        · replace hg := if_no hg hc
          refine lv_iinc (v := (v1 + 1)) (lv' := [(2, .int (v1 + 1)), (0, .ref A_t), (1, .int x1)]) hx hb dX0_armyOn_23 hl (k := 0) rfl rfl (by decide) rfl (fun ls hl => ?_)
          refine lv_goto (tgt := 2) hx hb dX0_armyOn_26 (by decide) ?_
          exact ih _ _ (lv_sub hl [0, 1, 2] rfl) hg
        · replace hg := if_yes hg hc
          refine lv_iload_n hx hb dX0_armyOn_21 rfl (lv_at hl 0 rfl) ?_
          cases hg
          exact fin _ _ dX0_armyOn_22
  exact L FU _ _ (lv_sub hl [0, 1, 2] rfl) hg
theorem hd_X0_setUp : yX0_setUp.cls = RX0 ∧ yX0_setUp.cls ≠ "java/lang/invoke/MethodHandle" ∧ yX0_setUp.cls ≠ "java/lang/invoke/VarHandle" ∧ (parseMethodDescriptor yX0_setUp.desc).map (fun d => d.parameters.length) = some 2 := by decide +kernel
theorem in_X0_setUp_X0 : ∀ w ∈ u_ws RX0 TX0 3, w ∈ wsX0_setUp := fun _ h => List.mem_cons_of_mem _ (List.mem_append_right _ h)
theorem wd_X0_setUp_1 : Cond.fieldLink RX0 9 "FogOrders$Board" "numbers" "[I" ∈ wsX0_setUp := List.mem_of_getElem? (i := 1) rfl
theorem wd_X0_setUp_13 : Cond.initialized RX4 ∈ wsX0_setUp := List.mem_of_getElem? (i := 13) rfl
theorem wd_X0_setUp_12 : Cond.static yX4_enter ∈ wsX0_setUp := List.mem_of_getElem? (i := 12) rfl
abbrev rX0_setUp : Room := { frames := 1, cells := 0, slots := 0, locals := 24 }
set_option maxHeartbeats 4000000 in
set_option maxRecDepth 100000 in
theorem c_X0_setUp (l : Launch) (D : va_G) (cI cZ cB cJ : ClassId) (A_t : Nat) (A_t_numbers : Nat) (A_t_owners : Nat) (A_t_cells : Nat) (sz : Nat) (V_t_numbers : Nat → Int32) (V_t_cells : Nat → Int32) (x1 : Int32) (x2 : Int32) (r0 : Int32) (w1 : Nat → Int32) (w2 : Nat → Int32) (hg : g_X0_setUp V_t_numbers V_t_cells x1 x2 = some (r0, w1, w2)) : Met l yX0_setUp wsX0_setUp rX0_setUp (PcW D cI cZ cB cJ sz [(A_t, .inr (0, [.ref A_t_numbers, .ref A_t_owners, .ref A_t_cells])), (A_t_numbers, .inl (cI, 10, .inl V_t_numbers)), (A_t_cells, .inl (cI, 63, .inl V_t_cells))] [.ref A_t, .int x1, .int x2]) (QWi D cI cZ cB cJ sz [(A_t, .inr (0, [.ref A_t_numbers, .ref A_t_owners, .ref A_t_cells])), (A_t_numbers, .inl (cI, 10, .inl V_t_numbers)), (A_t_cells, .inl (cI, 63, .inl V_t_cells))] [(A_t, .inr (0, [.ref A_t_numbers, .ref A_t_owners, .ref A_t_cells])), (A_t_numbers, .inl (cI, 10, .inl w1)), (A_t_cells, .inl (cI, 63, .inl w2))] r0) 0 0 (va_A [(A_t, .inr (0, [.ref A_t_numbers, .ref A_t_owners, .ref A_t_cells])), (A_t_numbers, .inl (cI, 10, .inl V_t_numbers)), (A_t_cells, .inl (cI, 63, .inl V_t_cells))] sz) := by
  refine bodyWi (cc := cX0_setUp) (maxL := 4) (lv := [(0, .ref A_t), (1, .int x1), (2, .int x2)]) (by decide) rfl (Nat.le_of_ble_eq_true rfl) rfl ?_
  intro p e s m args below meth c Q hx hb hml hown hts A hP hK hD hA hS fin ls hl
  replace hown : s.vm.findClass RX0 = some m.cls := hown
  have S : CallFix p m c cX0_setUp 4 s args wsX0_setUp RX0 := ⟨hx, hb, hml, hown, hts⟩
  unfold g_X0_setUp at hg
  refine lv_aload_n hx hb dX0_setUp_0 rfl (lv_at hl 0 rfl) ?_
  refine lv_iconst (v := 0) hx hb dX0_setUp_1 (by decide) ?_
  obtain ⟨v1, hq, hg⟩ := bind_ex hg
  refine callRVi (As := [.int 0]) (rest := []) S hK hP (c_X0_number l D cI cZ cB cJ A_t A_t_numbers A_t_owners A_t_cells V_t_numbers 0 v1 hq) [0, 1] rfl (cwV 1 hts gX0_setUp_X0_number rfl rfl rfl hd_X0_number ⟨Nat.le_of_ble_eq_true rfl, Nat.le_of_ble_eq_true rfl⟩) rfl rfl rfl hl.1 rfl (Nat.le_of_ble_eq_true rfl) dX0_setUp_2 ⟨Nat.zero_le _, Nat.zero_le _⟩ ?_
  refine lv_istore_n (lv' := [(3, .int v1), (0, .ref A_t), (1, .int x1), (2, .int x2)]) hx hb dX0_setUp_5 rfl hl (by decide) rfl (fun ls hl => ?_)
  refine lv_aload_n hx hb dX0_setUp_6 rfl (lv_at hl 1 rfl) ?_
  refine lv_iload_n hx hb dX0_setUp_7 rfl (lv_at hl 0 rfl) ?_
  refine lv_iconst (v := 0) hx hb dX0_setUp_8 (by decide) ?_
  refine lv_iload_n hx hb dX0_setUp_9 rfl (lv_at hl 2 rfl) ?_
  obtain ⟨f2, hq, hg⟩ := bind_ex hg
  refine callWVv (As := [.int v1, .int 0, .int x1]) (rest := []) (wr := [(A_t_numbers, .inl (cI, 10, .inl V_t_numbers))]) S hK hP hD hS hA (c_X0_put l D cI cZ cB cJ A_t A_t_numbers A_t_owners A_t_cells _ V_t_cells v1 0 x1 f2 hq) [0, 2] [1] rfl rfl (by decide +kernel) (by decide +kernel) (by decide +kernel) (cwV 3 hts gX0_setUp_X0_put rfl rfl rfl hd_X0_put ⟨Nat.le_of_ble_eq_true rfl, Nat.le_of_ble_eq_true rfl⟩) rfl rfl rfl hl.1 rfl (Nat.le_of_ble_eq_true rfl) dX0_setUp_10 ⟨Nat.zero_le _, Nat.zero_le _⟩ (fun H locs hP hD hS => ?_)
  replace hP : va_P D vwCl [(A_t_numbers, .inl (cI, 10, .inl V_t_numbers)), (A_t, .inr (0, [.ref A_t_numbers, .ref A_t_owners, .ref A_t_cells])), (A_t_cells, .inl (cI, 63, .inl f2))] H := hP
  replace hD : va_D A [(A_t_numbers, .inl (cI, 10, .inl V_t_numbers)), (A_t, .inr (0, [.ref A_t_numbers, .ref A_t_owners, .ref A_t_cells])), (A_t_cells, .inl (cI, 63, .inl f2))] := hD
  refine lv_aload_n hx hb dX0_setUp_13 rfl (lv_at hl 1 rfl) ?_
  refine lv_iload_n hx hb dX0_setUp_14 rfl (lv_at hl 0 rfl) ?_
  refine lv_iconst (v := 1) hx hb dX0_setUp_15 (by decide) ?_
  refine lv_iload_n hx hb dX0_setUp_16 rfl (lv_at hl 3 rfl) ?_
  obtain ⟨f3, hq, hg⟩ := bind_ex hg
  refine callWVv (As := [.int v1, .int 1, .int x2]) (rest := []) (wr := [(A_t_numbers, .inl (cI, 10, .inl V_t_numbers))]) S hK hP hD hS hA (c_X0_put l D cI cZ cB cJ A_t A_t_numbers A_t_owners A_t_cells _ f2 v1 1 x2 f3 hq) [1, 2] [0] rfl rfl (by decide +kernel) (by decide +kernel) (by decide +kernel) (cwV 3 hts gX0_setUp_X0_put rfl rfl rfl hd_X0_put ⟨Nat.le_of_ble_eq_true rfl, Nat.le_of_ble_eq_true rfl⟩) rfl rfl rfl hl.1 rfl (Nat.le_of_ble_eq_true rfl) dX0_setUp_17 ⟨Nat.zero_le _, Nat.zero_le _⟩ (fun H locs hP hD hS => ?_)
  replace hP : va_P D vwCl [(A_t_numbers, .inl (cI, 10, .inl V_t_numbers)), (A_t, .inr (0, [.ref A_t_numbers, .ref A_t_owners, .ref A_t_cells])), (A_t_cells, .inl (cI, 63, .inl f3))] H := hP
  replace hD : va_D A [(A_t_numbers, .inl (cI, 10, .inl V_t_numbers)), (A_t, .inr (0, [.ref A_t_numbers, .ref A_t_owners, .ref A_t_cells])), (A_t_cells, .inl (cI, 63, .inl f3))] := hD
  refine lv_aload_n hx hb dX0_setUp_20 rfl (lv_at hl 1 rfl) ?_
  refine lv_iload_n hx hb dX0_setUp_21 rfl (lv_at hl 0 rfl) ?_
  refine lv_iconst (v := 2) hx hb dX0_setUp_22 (by decide) ?_
  refine lv_iconst (v := 0) hx hb dX0_setUp_23 (by decide) ?_
  obtain ⟨f4, hq, hg⟩ := bind_ex hg
  refine callWVv (As := [.int v1, .int 2, .int 0]) (rest := []) (wr := [(A_t_numbers, .inl (cI, 10, .inl V_t_numbers))]) S hK hP hD hS hA (c_X0_put l D cI cZ cB cJ A_t A_t_numbers A_t_owners A_t_cells _ f3 v1 2 0 f4 hq) [1, 2] [0] rfl rfl (by decide +kernel) (by decide +kernel) (by decide +kernel) (cwV 3 hts gX0_setUp_X0_put rfl rfl rfl hd_X0_put ⟨Nat.le_of_ble_eq_true rfl, Nat.le_of_ble_eq_true rfl⟩) rfl rfl rfl hl.1 rfl (Nat.le_of_ble_eq_true rfl) dX0_setUp_24 ⟨Nat.zero_le _, Nat.zero_le _⟩ (fun H locs hP hD hS => ?_)
  replace hP : va_P D vwCl [(A_t_numbers, .inl (cI, 10, .inl V_t_numbers)), (A_t, .inr (0, [.ref A_t_numbers, .ref A_t_owners, .ref A_t_cells])), (A_t_cells, .inl (cI, 63, .inl f4))] H := hP
  replace hD : va_D A [(A_t_numbers, .inl (cI, 10, .inl V_t_numbers)), (A_t, .inr (0, [.ref A_t_numbers, .ref A_t_owners, .ref A_t_cells])), (A_t_cells, .inl (cI, 63, .inl f4))] := hD
  refine lv_aload_n hx hb dX0_setUp_27 rfl (lv_at hl 1 rfl) ?_
  refine lv_iload_n hx hb dX0_setUp_28 rfl (lv_at hl 0 rfl) ?_
  refine lv_iconst (v := 3) hx hb dX0_setUp_29 (by decide) ?_
  refine lv_iconst (v := (-1)) hx hb dX0_setUp_30 (by decide) ?_
  obtain ⟨f5, hq, hg⟩ := bind_ex hg
  refine callWVv (As := [.int v1, .int 3, .int (-1)]) (rest := []) (wr := [(A_t_numbers, .inl (cI, 10, .inl V_t_numbers))]) S hK hP hD hS hA (c_X0_put l D cI cZ cB cJ A_t A_t_numbers A_t_owners A_t_cells _ f4 v1 3 (-1) f5 hq) [1, 2] [0] rfl rfl (by decide +kernel) (by decide +kernel) (by decide +kernel) (cwV 3 hts gX0_setUp_X0_put rfl rfl rfl hd_X0_put ⟨Nat.le_of_ble_eq_true rfl, Nat.le_of_ble_eq_true rfl⟩) rfl rfl rfl hl.1 rfl (Nat.le_of_ble_eq_true rfl) dX0_setUp_31 ⟨Nat.zero_le _, Nat.zero_le _⟩ (fun H locs hP hD hS => ?_)
  replace hP : va_P D vwCl [(A_t_numbers, .inl (cI, 10, .inl V_t_numbers)), (A_t, .inr (0, [.ref A_t_numbers, .ref A_t_owners, .ref A_t_cells])), (A_t_cells, .inl (cI, 63, .inl f5))] H := hP
  replace hD : va_D A [(A_t_numbers, .inl (cI, 10, .inl V_t_numbers)), (A_t, .inr (0, [.ref A_t_numbers, .ref A_t_owners, .ref A_t_cells])), (A_t_cells, .inl (cI, 63, .inl f5))] := hD
  refine lv_aload_n hx hb dX0_setUp_34 rfl (lv_at hl 1 rfl) ?_
  refine lv_iload_n hx hb dX0_setUp_35 rfl (lv_at hl 0 rfl) ?_
  refine lv_iconst (v := 4) hx hb dX0_setUp_36 (by decide) ?_
  refine lv_iconst (v := (-1)) hx hb dX0_setUp_37 (by decide) ?_
  obtain ⟨f6, hq, hg⟩ := bind_ex hg
  refine callWVv (As := [.int v1, .int 4, .int (-1)]) (rest := []) (wr := [(A_t_numbers, .inl (cI, 10, .inl V_t_numbers))]) S hK hP hD hS hA (c_X0_put l D cI cZ cB cJ A_t A_t_numbers A_t_owners A_t_cells _ f5 v1 4 (-1) f6 hq) [1, 2] [0] rfl rfl (by decide +kernel) (by decide +kernel) (by decide +kernel) (cwV 3 hts gX0_setUp_X0_put rfl rfl rfl hd_X0_put ⟨Nat.le_of_ble_eq_true rfl, Nat.le_of_ble_eq_true rfl⟩) rfl rfl rfl hl.1 rfl (Nat.le_of_ble_eq_true rfl) dX0_setUp_38 ⟨Nat.zero_le _, Nat.zero_le _⟩ (fun H locs hP hD hS => ?_)
  replace hP : va_P D vwCl [(A_t_numbers, .inl (cI, 10, .inl V_t_numbers)), (A_t, .inr (0, [.ref A_t_numbers, .ref A_t_owners, .ref A_t_cells])), (A_t_cells, .inl (cI, 63, .inl f6))] H := hP
  replace hD : va_D A [(A_t_numbers, .inl (cI, 10, .inl V_t_numbers)), (A_t, .inr (0, [.ref A_t_numbers, .ref A_t_owners, .ref A_t_cells])), (A_t_cells, .inl (cI, 63, .inl f6))] := hD
  refine lv_aload_n hx hb dX0_setUp_41 rfl (lv_at hl 1 rfl) ?_
  refine lv_iload_n hx hb dX0_setUp_42 rfl (lv_at hl 0 rfl) ?_
  refine lv_iconst (v := 5) hx hb dX0_setUp_43 (by decide) ?_
  refine lv_iconst (v := 0) hx hb dX0_setUp_44 (by decide) ?_
  obtain ⟨f7, hq, hg⟩ := bind_ex hg
  refine callWVv (As := [.int v1, .int 5, .int 0]) (rest := []) (wr := [(A_t_numbers, .inl (cI, 10, .inl V_t_numbers))]) S hK hP hD hS hA (c_X0_put l D cI cZ cB cJ A_t A_t_numbers A_t_owners A_t_cells _ f6 v1 5 0 f7 hq) [1, 2] [0] rfl rfl (by decide +kernel) (by decide +kernel) (by decide +kernel) (cwV 3 hts gX0_setUp_X0_put rfl rfl rfl hd_X0_put ⟨Nat.le_of_ble_eq_true rfl, Nat.le_of_ble_eq_true rfl⟩) rfl rfl rfl hl.1 rfl (Nat.le_of_ble_eq_true rfl) dX0_setUp_45 ⟨Nat.zero_le _, Nat.zero_le _⟩ (fun H locs hP hD hS => ?_)
  replace hP : va_P D vwCl [(A_t_numbers, .inl (cI, 10, .inl V_t_numbers)), (A_t, .inr (0, [.ref A_t_numbers, .ref A_t_owners, .ref A_t_cells])), (A_t_cells, .inl (cI, 63, .inl f7))] H := hP
  replace hD : va_D A [(A_t_numbers, .inl (cI, 10, .inl V_t_numbers)), (A_t, .inr (0, [.ref A_t_numbers, .ref A_t_owners, .ref A_t_cells])), (A_t_cells, .inl (cI, 63, .inl f7))] := hD
  refine lv_aload_n hx hb dX0_setUp_48 rfl (lv_at hl 1 rfl) ?_
  refine lv_iload_n hx hb dX0_setUp_49 rfl (lv_at hl 0 rfl) ?_
  refine lv_bipush (v := 6) hx hb dX0_setUp_50 (by decide) ?_
  refine lv_iconst (v := 0) hx hb dX0_setUp_52 (by decide) ?_
  obtain ⟨f8, hq, hg⟩ := bind_ex hg
  refine callWVv (As := [.int v1, .int 6, .int 0]) (rest := []) (wr := [(A_t_numbers, .inl (cI, 10, .inl V_t_numbers))]) S hK hP hD hS hA (c_X0_put l D cI cZ cB cJ A_t A_t_numbers A_t_owners A_t_cells _ f7 v1 6 0 f8 hq) [1, 2] [0] rfl rfl (by decide +kernel) (by decide +kernel) (by decide +kernel) (cwV 3 hts gX0_setUp_X0_put rfl rfl rfl hd_X0_put ⟨Nat.le_of_ble_eq_true rfl, Nat.le_of_ble_eq_true rfl⟩) rfl rfl rfl hl.1 rfl (Nat.le_of_ble_eq_true rfl) dX0_setUp_53 ⟨Nat.zero_le _, Nat.zero_le _⟩ (fun H locs hP hD hS => ?_)
  replace hP : va_P D vwCl [(A_t_numbers, .inl (cI, 10, .inl V_t_numbers)), (A_t, .inr (0, [.ref A_t_numbers, .ref A_t_owners, .ref A_t_cells])), (A_t_cells, .inl (cI, 63, .inl f8))] H := hP
  replace hD : va_D A [(A_t_numbers, .inl (cI, 10, .inl V_t_numbers)), (A_t, .inr (0, [.ref A_t_numbers, .ref A_t_owners, .ref A_t_cells])), (A_t_cells, .inl (cI, 63, .inl f8))] := hD
  refine lv_aload_n hx hb dX0_setUp_56 rfl (lv_at hl 1 rfl) ?_
  refine xget (ci := 0) (C := RX0) (T := TX0) (N := 3) (v := .ref A_t_numbers) hx hb hts in_X0_setUp_X0 hown hK hP 1 rfl rfl 0 (by decide) wd_X0_setUp_1 rfl dX0_setUp_57 ?_
  refine lv_iconst (v := 0) hx hb dX0_setUp_60 (by decide) ?_
  refine lv_iload_n hx hb dX0_setUp_61 rfl (lv_at hl 0 rfl) ?_
  refine lv_iconst (v := 1) hx hb dX0_setUp_62 (by decide) ?_
  refine lv_iadd hx hb dX0_setUp_63 ?_
  obtain ⟨f9, hq, hg⟩ := bind_ex hg
  refine callWNv (As := [.ref A_t_numbers, .int 0, .int (v1 + 1)]) (rest := []) (wr := [(A_t, .inr (0, [.ref A_t_numbers, .ref A_t_owners, .ref A_t_cells])), (A_t_cells, .inl (cI, 63, .inl f8))]) S hK hP hD hS hA (c_X4_enter l D cI cZ cB cJ A_t_numbers 10 _ V_t_numbers 0 (v1 + 1) f9 hq) [0] [1, 2] rfl rfl (by decide +kernel) (by decide +kernel) (by decide +kernel) ⟨va_cnB 3 hts gX0_setUp_X4_enter_n37 rfl rfl rfl (hK.2 _ (List.mem_of_getElem? (i := 4) rfl)) (hts _ wd_X0_setUp_13) hd_X4_enter ⟨Nat.le_of_ble_eq_true rfl, Nat.le_of_ble_eq_true rfl⟩, hts _ wd_X0_setUp_12, trivial⟩ rfl hl.1 rfl (Nat.le_of_ble_eq_true rfl) dX0_setUp_64 ⟨Nat.zero_le _, Nat.zero_le _⟩ (fun H locs hP hD hS => ?_)
  replace hP : va_P D vwCl [(A_t, .inr (0, [.ref A_t_numbers, .ref A_t_owners, .ref A_t_cells])), (A_t_cells, .inl (cI, 63, .inl f8)), (A_t_numbers, .inl (cI, 10, .inl f9))] H := hP
  replace hD : va_D A [(A_t, .inr (0, [.ref A_t_numbers, .ref A_t_owners, .ref A_t_cells])), (A_t_cells, .inl (cI, 63, .inl f8)), (A_t_numbers, .inl (cI, 10, .inl f9))] := hD
  refine lv_iload_n hx hb dX0_setUp_67 rfl (lv_at hl 0 rfl) ?_
  cases hg
  exact fin _ _ _ _ dX0_setUp_68 (hP.sub [0, 2, 1] rfl) (hD.sub [0, 2, 1] (by decide) rfl) hS
theorem hd_X0_remove : yX0_remove.cls = RX0 ∧ yX0_remove.cls ≠ "java/lang/invoke/MethodHandle" ∧ yX0_remove.cls ≠ "java/lang/invoke/VarHandle" ∧ (parseMethodDescriptor yX0_remove.desc).map (fun d => d.parameters.length) = some 1 := by decide +kernel
theorem in_X0_remove_X0 : ∀ w ∈ u_ws RX0 TX0 3, w ∈ wsX0_remove := fun _ h => List.mem_cons_of_mem _ (List.mem_append_right _ h)
theorem wd_X0_remove_1 : Cond.fieldLink RX0 9 "FogOrders$Board" "numbers" "[I" ∈ wsX0_remove := List.mem_of_getElem? (i := 1) rfl
theorem wd_X0_remove_17 : Cond.initialized RX4 ∈ wsX0_remove := List.mem_of_getElem? (i := 17) rfl
theorem wd_X0_remove_16 : Cond.static yX4_enter ∈ wsX0_remove := List.mem_of_getElem? (i := 16) rfl
abbrev rX0_remove : Room := { frames := 1, cells := 0, slots := 0, locals := 24 }
set_option maxHeartbeats 4000000 in
set_option maxRecDepth 100000 in
theorem c_X0_remove (l : Launch) (D : va_G) (cI cZ cB cJ : ClassId) (A_t : Nat) (A_t_numbers : Nat) (A_t_owners : Nat) (A_t_cells : Nat) (sz : Nat) (V_t_numbers : Nat → Int32) (V_t_cells : Nat → Int32) (x1 : Int32) (w1 : Nat → Int32) (w2 : Nat → Int32) (hg : g_X0_remove V_t_numbers V_t_cells x1 = some (w1, w2)) : Met l yX0_remove wsX0_remove rX0_remove (PcW D cI cZ cB cJ sz [(A_t, .inr (0, [.ref A_t_numbers, .ref A_t_owners, .ref A_t_cells])), (A_t_numbers, .inl (cI, 10, .inl V_t_numbers)), (A_t_cells, .inl (cI, 63, .inl V_t_cells))] [.ref A_t, .int x1]) (QWv D cI cZ cB cJ sz [(A_t, .inr (0, [.ref A_t_numbers, .ref A_t_owners, .ref A_t_cells])), (A_t_numbers, .inl (cI, 10, .inl V_t_numbers)), (A_t_cells, .inl (cI, 63, .inl V_t_cells))] [(A_t, .inr (0, [.ref A_t_numbers, .ref A_t_owners, .ref A_t_cells])), (A_t_numbers, .inl (cI, 10, .inl w1)), (A_t_cells, .inl (cI, 63, .inl w2))]) 0 0 (va_A [(A_t, .inr (0, [.ref A_t_numbers, .ref A_t_owners, .ref A_t_cells])), (A_t_numbers, .inl (cI, 10, .inl V_t_numbers)), (A_t_cells, .inl (cI, 63, .inl V_t_cells))] sz) := by
  refine bodyWv (cc := cX0_remove) (maxL := 4) (lv := [(0, .ref A_t), (1, .int x1)]) (by decide) rfl (Nat.le_of_ble_eq_true rfl) rfl ?_
  intro p e s m args below meth c Q hx hb hml hown hts A hP hK hD hA hS fin ls hl
  replace hown : s.vm.findClass RX0 = some m.cls := hown
  have S : CallFix p m c cX0_remove 4 s args wsX0_remove RX0 := ⟨hx, hb, hml, hown, hts⟩
  unfold g_X0_remove at hg
  refine lv_iload_n hx hb dX0_remove_0 rfl (lv_at hl 1 rfl) ?_
  refine lv_iconst (v := 1) hx hb dX0_remove_1 (by decide) ?_
  refine lv_iadd hx hb dX0_remove_2 ?_
  refine lv_istore_n (lv' := [(2, .int (x1 + 1)), (0, .ref A_t), (1, .int x1)]) hx hb dX0_remove_3 rfl hl (by decide) rfl (fun ls hl => ?_)
  obtain ⟨f9, hL, hg⟩ := bind_ex hg
  have kx : ∀ (H : Heap) (locs : List Loc), va_P D vwCl [(A_t, .inr (0, [.ref A_t_numbers, .ref A_t_owners, .ref A_t_cells])), (A_t_numbers, .inl (cI, 10, .inl V_t_numbers)), (A_t_cells, .inl (cI, 63, .inl f9))] H → va_D A [(A_t, .inr (0, [.ref A_t_numbers, .ref A_t_owners, .ref A_t_cells])), (A_t_numbers, .inl (cI, 10, .inl V_t_numbers)), (A_t_cells, .inl (cI, 63, .inl f9))] → va_S A s.heap H locs → ∀ ls : Array Slot, lv_has ls 4 [(0, .ref A_t)] → W p l e rX0_remove s m args below meth c H locs 0 0 Q (F0 m 47 ls []) := by
    intro H locs hP hD hS ls hl
    refine lv_aload_n hx hb dX0_remove_47 rfl (lv_at hl 0 rfl) ?_
    refine xget (ci := 0) (C := RX0) (T := TX0) (N := 3) (v := .ref A_t_numbers) hx hb hts in_X0_remove_X0 hown hK hP 0 rfl rfl 0 (by decide) wd_X0_remove_1 rfl dX0_remove_48 ?_
    refine lv_iconst (v := 0) hx hb dX0_remove_51 (by decide) ?_
    refine lv_aload_n hx hb dX0_remove_52 rfl (lv_at hl 0 rfl) ?_
    refine lv_iconst (v := 0) hx hb dX0_remove_53 (by decide) ?_
    obtain ⟨v10, hq, hg⟩ := bind_ex hg
    refine callRVi (As := [.int 0]) (rest := [.int 0, .ref A_t_numbers]) S hK hP (c_X0_number l D cI cZ cB cJ A_t A_t_numbers A_t_owners A_t_cells V_t_numbers 0 v10 hq) [0, 1] rfl (cwV 1 hts gX0_remove_X0_number rfl rfl rfl hd_X0_number ⟨Nat.le_of_ble_eq_true rfl, Nat.le_of_ble_eq_true rfl⟩) rfl rfl rfl hl.1 rfl (Nat.le_of_ble_eq_true rfl) dX0_remove_54 ⟨Nat.zero_le _, Nat.zero_le _⟩ ?_
    refine lv_iconst (v := 1) hx hb dX0_remove_57 (by decide) ?_
    refine lv_isub hx hb dX0_remove_58 ?_
    obtain ⟨f11, hq, hg⟩ := bind_ex hg
    refine callWNv (As := [.ref A_t_numbers, .int 0, .int (v10 - 1)]) (rest := []) (wr := [(A_t, .inr (0, [.ref A_t_numbers, .ref A_t_owners, .ref A_t_cells])), (A_t_cells, .inl (cI, 63, .inl f9))]) S hK hP hD hS hA (c_X4_enter l D cI cZ cB cJ A_t_numbers 10 _ V_t_numbers 0 (v10 - 1) f11 hq) [1] [0, 2] rfl rfl (by decide +kernel) (by decide +kernel) (by decide +kernel) ⟨va_cnB 3 hts gX0_remove_X4_enter_n37 rfl rfl rfl (hK.2 _ (List.mem_of_getElem? (i := 4) rfl)) (hts _ wd_X0_remove_17) hd_X4_enter ⟨Nat.le_of_ble_eq_true rfl, Nat.le_of_ble_eq_true rfl⟩, hts _ wd_X0_remove_16, trivial⟩ rfl hl.1 rfl (Nat.le_of_ble_eq_true rfl) dX0_remove_59 ⟨Nat.zero_le _, Nat.zero_le _⟩ (fun H locs hP hD hS => ?_)
    replace hP : va_P D vwCl [(A_t, .inr (0, [.ref A_t_numbers, .ref A_t_owners, .ref A_t_cells])), (A_t_cells, .inl (cI, 63, .inl f9)), (A_t_numbers, .inl (cI, 10, .inl f11))] H := hP
    replace hD : va_D A [(A_t, .inr (0, [.ref A_t_numbers, .ref A_t_owners, .ref A_t_cells])), (A_t_cells, .inl (cI, 63, .inl f9)), (A_t_numbers, .inl (cI, 10, .inl f11))] := hD
    cases hg
    exact fin _ _ _ _ dX0_remove_62 (hP.sub [0, 2, 1] rfl) (hD.sub [0, 2, 1] (by decide) rfl) hS
  have L : ∀ (nf : Nat) (v1 : Int32) (f2 : Nat → Int32), ∀ (H : Heap) (locs : List Loc), va_P D vwCl [(A_t, .inr (0, [.ref A_t_numbers, .ref A_t_owners, .ref A_t_cells])), (A_t_numbers, .inl (cI, 10, .inl V_t_numbers)), (A_t_cells, .inl (cI, 63, .inl f2))] H → va_D A [(A_t, .inr (0, [.ref A_t_numbers, .ref A_t_owners, .ref A_t_cells])), (A_t_numbers, .inl (cI, 10, .inl V_t_numbers)), (A_t_cells, .inl (cI, 63, .inl f2))] → va_S A s.heap H locs → ∀ ls : Array Slot, lv_has ls 4 [(2, .int v1), (0, .ref A_t)] → g_X0_remove_L1 V_t_numbers nf v1 f2 = some f9 → W p l e rX0_remove s m args below meth c H locs 0 0 Q (F0 m 4 ls []) := by
    intro nf
    induction nf with
    | zero =>
      intro v1 f2 H locs hP hD hS ls hl hg
      exact no_some hg
    | succ nf ih =>
      intro v1 f2 H locs hP hD hS ls hl hg
      rw [g_X0_remove_L1] at hg
      refine lv_iload_n hx hb dX0_remove_4 rfl (lv_at hl 0 rfl) ?_
      refine lv_aload_n hx hb dX0_remove_5 rfl (lv_at hl 1 rfl) ?_
      refine lv_iconst (v := 0) hx hb dX0_remove_6 (by decide) ?_
      obtain ⟨v3, hq, hg⟩ := bind_ex hg
      refine callRVi (As := [.int 0]) (rest := [.int v1]) S hK hP (c_X0_number l D cI cZ cB cJ A_t A_t_numbers A_t_owners A_t_cells V_t_numbers 0 v3 hq) [0, 1] rfl (cwV 1 hts gX0_remove_X0_number rfl rfl rfl hd_X0_number ⟨Nat.le_of_ble_eq_true rfl, Nat.le_of_ble_eq_true rfl⟩) rfl rfl rfl hl.1 rfl (Nat.le_of_ble_eq_true rfl) dX0_remove_7 ⟨Nat.zero_le _, Nat.zero_le _⟩ ?_
      refine lv_icmp_ge (tgt := 47) hx hb dX0_remove_10 (by decide) (fun hc => ?_) (fun hc => ?_)
      · replace hg := if_yes hg hc
        cases hg
        exact kx _ _ hP hD hS _ (lv_sub hl [1] rfl)
      · replace hg := if_no hg hc
        refine lv_iconst (v := 0) hx hb dX0_remove_13 (by decide) ?_
        refine lv_istore_n (lv' := [(3, .int 0), (2, .int v1), (0, .ref A_t)]) hx hb dX0_remove_14 rfl hl (by decide) rfl (fun ls hl => ?_)
        obtain ⟨f8, hL, hg⟩ := bind_ex hg
        have kx : ∀ (H : Heap) (locs : List Loc), va_P D vwCl [(A_t, .inr (0, [.ref A_t_numbers, .ref A_t_owners, .ref A_t_cells])), (A_t_numbers, .inl (cI, 10, .inl V_t_numbers)), (A_t_cells, .inl (cI, 63, .inl f8))] H → va_D A [(A_t, .inr (0, [.ref A_t_numbers, .ref A_t_owners, .ref A_t_cells])), (A_t_numbers, .inl (cI, 10, .inl V_t_numbers)), (A_t_cells, .inl (cI, 63, .inl f8))] → va_S A s.heap H locs → ∀ ls : Array Slot, lv_has ls 4 [(2, .int v1), (0, .ref A_t)] → W p l e rX0_remove s m args below meth c H locs 0 0 Q (F0 m 41 ls []) := by
          intro H locs hP hD hS ls hl
          refine lv_iinc (v := (v1 + 1)) (lv' := [(2, .int (v1 + 1)), (0, .ref A_t)]) hx hb dX0_remove_41 hl (k := 0) rfl rfl (by decide) rfl (fun ls hl => ?_)
          refine lv_goto (tgt := 4) hx hb dX0_remove_44 (by decide) ?_
          exact ih _ _ _ _ hP hD hS _ (lv_sub hl [0, 1] rfl) hg
        have L : ∀ (nf : Nat) (v4 : Int32) (f5 : Nat → Int32), ∀ (H : Heap) (locs : List Loc), va_P D vwCl [(A_t, .inr (0, [.ref A_t_numbers, .ref A_t_owners, .ref A_t_cells])), (A_t_numbers, .inl (cI, 10, .inl V_t_numbers)), (A_t_cells, .inl (cI, 63, .inl f5))] H → va_D A [(A_t, .inr (0, [.ref A_t_numbers, .ref A_t_owners, .ref A_t_cells])), (A_t_numbers, .inl (cI, 10, .inl V_t_numbers)), (A_t_cells, .inl (cI, 63, .inl f5))] → va_S A s.heap H locs → ∀ ls : Array Slot, lv_has ls 4 [(3, .int v4), (2, .int v1), (0, .ref A_t)] → g_X0_remove_L2 v1 nf v4 f5 = some f8 → W p l e rX0_remove s m args below meth c H locs 0 0 Q (F0 m 15 ls []) := by
          intro nf
          induction nf with
          | zero =>
            intro v4 f5 H locs hP hD hS ls hl hg
            exact no_some hg
          | succ nf ih =>
            intro v4 f5 H locs hP hD hS ls hl hg
            rw [g_X0_remove_L2] at hg
            refine lv_iload_n hx hb dX0_remove_15 rfl (lv_at hl 0 rfl) ?_
            refine lv_bipush (v := 7) hx hb dX0_remove_16 (by decide) ?_
            refine lv_icmp_ge (tgt := 41) hx hb dX0_remove_18 (by decide) (fun hc => ?_) (fun hc => ?_)
            · replace hg := if_yes hg hc
              cases hg
              exact kx _ _ hP hD hS _ (lv_sub hl [1, 2] rfl)
            · replace hg := if_no hg hc
              refine lv_aload_n hx hb dX0_remove_21 rfl (lv_at hl 2 rfl) ?_
              refine lv_iload_n hx hb dX0_remove_22 rfl (lv_at hl 1 rfl) ?_
              refine lv_iconst (v := 1) hx hb dX0_remove_23 (by decide) ?_
              refine lv_isub hx hb dX0_remove_24 ?_
              refine lv_iload_n hx hb dX0_remove_25 rfl (lv_at hl 0 rfl) ?_
              refine lv_aload_n hx hb dX0_remove_26 rfl (lv_at hl 2 rfl) ?_
              refine lv_iload_n hx hb dX0_remove_27 rfl (lv_at hl 1 rfl) ?_
              refine lv_iload_n hx hb dX0_remove_28 rfl (lv_at hl 0 rfl) ?_
              obtain ⟨v6, hq, hg⟩ := bind_ex hg
              refine callRVi (As := [.int v1, .int v4]) (rest := [.int v4, .int (v1 - 1), .ref A_t]) S hK hP (c_X0_of l D cI cZ cB cJ A_t A_t_numbers A_t_owners A_t_cells f5 v1 v4 v6 hq) [0, 2] rfl (cwV 2 hts gX0_remove_X0_of rfl rfl rfl hd_X0_of ⟨Nat.le_of_ble_eq_true rfl, Nat.le_of_ble_eq_true rfl⟩) rfl rfl rfl hl.1 rfl (Nat.le_of_ble_eq_true rfl) dX0_remove_29 ⟨Nat.zero_le _, Nat.zero_le _⟩ ?_
              obtain ⟨f7, hq, hg⟩ := bind_ex hg
              refine callWVv (As := [.int (v1 - 1), .int v4, .int v6]) (rest := []) (wr := [(A_t_numbers, .inl (cI, 10, .inl V_t_numbers))]) S hK hP hD hS hA (c_X0_put l D cI cZ cB cJ A_t A_t_numbers A_t_owners A_t_cells _ f5 (v1 - 1) v4 v6 f7 hq) [0, 2] [1] rfl rfl (by decide +kernel) (by decide +kernel) (by decide +kernel) (cwV 3 hts gX0_remove_X0_put rfl rfl rfl hd_X0_put ⟨Nat.le_of_ble_eq_true rfl, Nat.le_of_ble_eq_true rfl⟩) rfl rfl rfl hl.1 rfl (Nat.le_of_ble_eq_true rfl) dX0_remove_32 ⟨Nat.zero_le _, Nat.zero_le _⟩ (fun H locs hP hD hS => ?_)
              replace hP : va_P D vwCl [(A_t_numbers, .inl (cI, 10, .inl V_t_numbers)), (A_t, .inr (0, [.ref A_t_numbers, .ref A_t_owners, .ref A_t_cells])), (A_t_cells, .inl (cI, 63, .inl f7))] H := hP
              replace hD : va_D A [(A_t_numbers, .inl (cI, 10, .inl V_t_numbers)), (A_t, .inr (0, [.ref A_t_numbers, .ref A_t_owners, .ref A_t_cells])), (A_t_cells, .inl (cI, 63, .inl f7))] := hD
              refine lv_iinc (v := (v4 + 1)) (lv' := [(3, .int (v4 + 1)), (2, .int v1), (0, .ref A_t)]) hx hb dX0_remove_35 hl (k := 0) rfl rfl (by decide) rfl (fun ls hl => ?_)
              refine lv_goto (tgt := 15) hx hb dX0_remove_38 (by decide) ?_
              exact ih _ _ _ _ (hP.sub [1, 0, 2] rfl) (hD.sub [1, 0, 2] (by decide) rfl) hS _ (lv_sub hl [0, 1, 2] rfl) hg
        exact L FU _ _ _ _ hP hD hS _ (lv_sub hl [0, 1, 2] rfl) hL
  exact L FU _ _ _ _ hP hD hS _ (lv_sub hl [0, 1] rfl) hL
theorem hd_X4_areNeighbours : yX4_areNeighbours.cls ≠ "java/lang/invoke/MethodHandle" ∧ yX4_areNeighbours.cls ≠ "java/lang/invoke/VarHandle" ∧ (parseMethodDescriptor yX4_areNeighbours.desc).map (fun d => d.parameters.length) = some 2 := by decide +kernel
abbrev rX4_areNeighbours : Room := { frames := 0, cells := 0, slots := 0, locals := 0 }
set_option maxHeartbeats 4000000 in
set_option maxRecDepth 100000 in
theorem c_X4_areNeighbours (l : Launch) (D : va_G) (cI cZ cB cJ : ClassId) (x1 : Int32) (x2 : Int32) (r0 : Int32) (hg : g_X4_areNeighbours x1 x2 = some r0) : Met l yX4_areNeighbours wsX4_areNeighbours rX4_areNeighbours (PcR D cI cZ cB cJ [] [.int x1, .int x2]) (vp_Si (fun r' => r' = r0 ∧ bo r0)) 0 0 (fun _ => False) := by
  refine bodyRz (cc := cX4_areNeighbours) (maxL := 3) (lv := [(0, .int x1), (1, .int x2)]) (by decide) rfl (Nat.le_of_ble_eq_true rfl) rfl ?_
  intro p e s m args below meth c Q hx hb hml hown hts hP hK fin ls hl
  replace hown : s.vm.findClass RX4 = some m.cls := hown
  have S : CallFix p m c cX4_areNeighbours 3 s args wsX4_areNeighbours RX4 := ⟨hx, hb, hml, hown, hts⟩
  unfold g_X4_areNeighbours at hg
  refine lv_iload_n hx hb dX4_areNeighbours_0 rfl (lv_at hl 0 rfl) ?_
  refine lv_iload_n hx hb dX4_areNeighbours_1 rfl (lv_at hl 1 rfl) ?_
  have hJ1 : ∀ (v1 : Int32), ∀ ls : Array Slot, lv_has ls 3 [] → g_X4_areNeighbours_J1 v1 = some r0 → W p l e rX4_areNeighbours s m args below meth c s.heap [] 0 0 Q (F0 m 14 ls [.int v1]) := by
    intro v1 ls hl hg
    unfold g_X4_areNeighbours_J1 at hg
    refine lv_istore_n (lv' := [(2, .int v1)]) hx hb dX4_areNeighbours_14 rfl hl (by decide) rfl (fun ls hl => ?_)
    refine lv_iload_n hx hb dX4_areNeighbours_15 rfl (lv_at hl 0 rfl) ?_
    refine lv_iconst (v := 1) hx hb dX4_areNeighbours_16 (by decide) ?_
    refine lv_icmp_eq (tgt := 37) hx hb dX4_areNeighbours_17 (by decide) (fun hc => ?_) (fun hc => ?_)
    · replace hg := if_yes hg hc
      refine lv_iconst (v := 1) hx hb dX4_areNeighbours_37 (by decide) ?_
      refine lv_goto (tgt := 42) hx hb dX4_areNeighbours_38 (by decide) ?_
      cases hg
      exact fin _ _ bo_1 dX4_areNeighbours_42
    · replace hg := if_no hg hc
      refine lv_iload_n hx hb dX4_areNeighbours_20 rfl (lv_at hl 0 rfl) ?_
      refine lv_iconst (v := 4) hx hb dX4_areNeighbours_21 (by decide) ?_
      refine lv_icmp_eq (tgt := 37) hx hb dX4_areNeighbours_22 (by decide) (fun hc => ?_) (fun hc => ?_)
      · replace hg := if_yes hg hc
        refine lv_iconst (v := 1) hx hb dX4_areNeighbours_37 (by decide) ?_
        refine lv_goto (tgt := 42) hx hb dX4_areNeighbours_38 (by decide) ?_
        cases hg
        exact fin _ _ bo_1 dX4_areNeighbours_42
      · replace hg := if_no hg hc
        refine lv_iload_n hx hb dX4_areNeighbours_25 rfl (lv_at hl 0 rfl) ?_
        refine lv_bipush (v := 8) hx hb dX4_areNeighbours_26 (by decide) ?_
        refine lv_icmp_eq (tgt := 37) hx hb dX4_areNeighbours_28 (by decide) (fun hc => ?_) (fun hc => ?_)
        · replace hg := if_yes hg hc
          refine lv_iconst (v := 1) hx hb dX4_areNeighbours_37 (by decide) ?_
          refine lv_goto (tgt := 42) hx hb dX4_areNeighbours_38 (by decide) ?_
          cases hg
          exact fin _ _ bo_1 dX4_areNeighbours_42
        · replace hg := if_no hg hc
          refine lv_iload_n hx hb dX4_areNeighbours_31 rfl (lv_at hl 0 rfl) ?_
          refine lv_bipush (v := 11) hx hb dX4_areNeighbours_32 (by decide) ?_
          refine lv_icmp_ne (tgt := 41) hx hb dX4_areNeighbours_34 (by decide) (fun hc => ?_) (fun hc => ?_)
          · replace hg := if_no hg hc
            refine lv_iconst (v := 0) hx hb dX4_areNeighbours_41 (by decide) ?_
            cases hg
            exact fin _ _ bo_0 dX4_areNeighbours_42
          · replace hg := if_yes hg hc
            refine lv_iconst (v := 1) hx hb dX4_areNeighbours_37 (by decide) ?_
            refine lv_goto (tgt := 42) hx hb dX4_areNeighbours_38 (by decide) ?_
            cases hg
            exact fin _ _ bo_1 dX4_areNeighbours_42
  refine lv_icmp_le (tgt := 11) hx hb dX4_areNeighbours_2 (by decide) (fun hc => ?_) (fun hc => ?_)
  · replace hg := if_yes hg hc
    refine lv_iload_n hx hb dX4_areNeighbours_11 rfl (lv_at hl 1 rfl) ?_
    refine lv_iload_n hx hb dX4_areNeighbours_12 rfl (lv_at hl 0 rfl) ?_
    refine lv_isub hx hb dX4_areNeighbours_13 ?_
    exact hJ1 _ _ (lv_sub hl [] rfl) hg
  · replace hg := if_no hg hc
    refine lv_iload_n hx hb dX4_areNeighbours_5 rfl (lv_at hl 0 rfl) ?_
    refine lv_iload_n hx hb dX4_areNeighbours_6 rfl (lv_at hl 1 rfl) ?_
    refine lv_isub hx hb dX4_areNeighbours_7 ?_
    refine lv_goto (tgt := 14) hx hb dX4_areNeighbours_8 (by decide) ?_
    exact hJ1 _ _ (lv_sub hl [] rfl) hg
theorem hd_X0_canBeGiven : yX0_canBeGiven.cls = RX0 ∧ yX0_canBeGiven.cls ≠ "java/lang/invoke/MethodHandle" ∧ yX0_canBeGiven.cls ≠ "java/lang/invoke/VarHandle" ∧ (parseMethodDescriptor yX0_canBeGiven.desc).map (fun d => d.parameters.length) = some 4 := by decide +kernel
theorem wd_X0_canBeGiven_17 : Cond.initialized RX4 ∈ wsX0_canBeGiven := List.mem_of_getElem? (i := 17) rfl
theorem wd_X0_canBeGiven_16 : Cond.static yX4_areNeighbours ∈ wsX0_canBeGiven := List.mem_of_getElem? (i := 16) rfl
abbrev rX0_canBeGiven : Room := { frames := 2, cells := 0, slots := 0, locals := 42 }
set_option maxHeartbeats 4000000 in
set_option maxRecDepth 100000 in
theorem c_X0_canBeGiven (l : Launch) (D : va_G) (cI cZ cB cJ : ClassId) (A_t : Nat) (A_t_numbers : Nat) (A_t_owners : Nat) (A_t_cells : Nat) (V_t_numbers : Nat → Int32) (V_t_cells : Nat → Int32) (x1 : Int32) (x2 : Int32) (x3 : Int32) (x4 : Int32) (r0 : Int32) (hg : g_X0_canBeGiven V_t_numbers V_t_cells x1 x2 x3 x4 = some r0) : Met l yX0_canBeGiven wsX0_canBeGiven rX0_canBeGiven (PcR D cI cZ cB cJ [(A_t, .inr (0, [.ref A_t_numbers, .ref A_t_owners, .ref A_t_cells])), (A_t_numbers, .inl (cI, 10, .inl V_t_numbers)), (A_t_cells, .inl (cI, 63, .inl V_t_cells))] [.ref A_t, .int x1, .int x2, .int x3, .int x4]) (vp_Si (fun r' => r' = r0 ∧ bo r0)) 0 0 (fun _ => False) := by
  refine bodyRz (cc := cX0_canBeGiven) (maxL := 5) (lv := [(0, .ref A_t), (1, .int x1), (2, .int x2), (3, .int x3), (4, .int x4)]) (by decide) rfl (Nat.le_of_ble_eq_true rfl) rfl ?_
  intro p e s m args below meth c Q hx hb hml hown hts hP hK fin ls hl
  replace hown : s.vm.findClass RX0 = some m.cls := hown
  have S : CallFix p m c cX0_canBeGiven 5 s args wsX0_canBeGiven RX0 := ⟨hx, hb, hml, hown, hts⟩
  unfold g_X0_canBeGiven at hg
  refine lv_aload_n hx hb dX0_canBeGiven_0 rfl (lv_at hl 0 rfl) ?_
  refine lv_iload_n hx hb dX0_canBeGiven_1 rfl (lv_at hl 1 rfl) ?_
  obtain ⟨v1, hq, hg⟩ := bind_ex hg
  refine callRVz (As := [.int x1]) (rest := []) S hK hP (c_X0_hasArmy l D cI cZ cB cJ A_t A_t_numbers A_t_owners A_t_cells V_t_numbers x1 v1 hq) [0, 1] rfl (cwV 1 hts gX0_canBeGiven_X0_hasArmy rfl rfl rfl hd_X0_hasArmy ⟨Nat.le_of_ble_eq_true rfl, Nat.le_of_ble_eq_true rfl⟩) rfl rfl rfl hl.1 rfl (Nat.le_of_ble_eq_true rfl) dX0_canBeGiven_2 ⟨Nat.zero_le _, Nat.zero_le _⟩ (fun hz_v1 => ?_)
  refine lv_if_ne (tgt := 10) hx hb dX0_canBeGiven_5 (by decide) (fun hc => ?_) (fun hc => ?_)
  · replace hg := if_no hg hc
    refine lv_iload_n hx hb dX0_canBeGiven_10 rfl (lv_at hl 2 rfl) ?_
    refine lv_if_ne (tgt := 16) hx hb dX0_canBeGiven_11 (by decide) (fun hc => ?_) (fun hc => ?_)
    · replace hg := if_no hg hc
      refine lv_aload_n hx hb dX0_canBeGiven_16 rfl (lv_at hl 0 rfl) ?_
      refine lv_iload_n hx hb dX0_canBeGiven_17 rfl (lv_at hl 1 rfl) ?_
      refine lv_iconst (v := 1) hx hb dX0_canBeGiven_18 (by decide) ?_
      obtain ⟨v2, hq, hg⟩ := bind_ex hg
      refine callRVi (As := [.int x1, .int 1]) (rest := []) S hK hP (c_X0_of l D cI cZ cB cJ A_t A_t_numbers A_t_owners A_t_cells V_t_cells x1 1 v2 hq) [0, 2] rfl (cwV 2 hts gX0_canBeGiven_X0_of rfl rfl rfl hd_X0_of ⟨Nat.le_of_ble_eq_true rfl, Nat.le_of_ble_eq_true rfl⟩) rfl rfl rfl hl.1 rfl (Nat.le_of_ble_eq_true rfl) dX0_canBeGiven_19 ⟨Nat.zero_le _, Nat.zero_le _⟩ ?_
      refine lv_iload hx hb dX0_canBeGiven_22 (lv_at hl 4 rfl) ?_
      obtain ⟨v3, hq, hg⟩ := bind_ex hg
      refine callRNz (As := [.int v2, .int x4]) (rest := []) S hK hP (c_X4_areNeighbours l D cI cZ cB cJ v2 x4 v3 hq) [] rfl ⟨va_cnB 2 hts gX0_canBeGiven_X4_areNeighbours_n53 rfl rfl rfl (hK.2 _ (List.mem_of_getElem? (i := 3) rfl)) (hts _ wd_X0_canBeGiven_17) hd_X4_areNeighbours ⟨Nat.le_of_ble_eq_true rfl, Nat.le_of_ble_eq_true rfl⟩, hts _ wd_X0_canBeGiven_16, trivial⟩ rfl hl.1 rfl (Nat.le_of_ble_eq_true rfl) dX0_canBeGiven_24 ⟨Nat.zero_le _, Nat.zero_le _⟩ (fun hz_v3 => ?_)
      refine lv_if_ne (tgt := 32) hx hb dX0_canBeGiven_27 (by decide) (fun hc => ?_) (fun hc => ?_)
      · replace hg := if_no hg hc
        refine lv_iload_n hx hb dX0_canBeGiven_32 rfl (lv_at hl 2 rfl) ?_
        refine lv_iconst (v := 1) hx hb dX0_canBeGiven_33 (by decide) ?_
        refine lv_icmp_eq (tgt := 52) hx hb dX0_canBeGiven_34 (by decide) (fun hc => ?_) (fun hc => ?_)
        · replace hg := if_yes hg hc
          refine lv_iconst (v := 1) hx hb dX0_canBeGiven_52 (by decide) ?_
          refine lv_goto (tgt := 57) hx hb dX0_canBeGiven_53 (by decide) ?_
          cases hg
          exact fin _ _ bo_1 dX0_canBeGiven_57
        · replace hg := if_no hg hc
          refine lv_iload_n hx hb dX0_canBeGiven_37 rfl (lv_at hl 3 rfl) ?_
          refine lv_iload hx hb dX0_canBeGiven_38 (lv_at hl 4 rfl) ?_
          refine lv_icmp_eq (tgt := 52) hx hb dX0_canBeGiven_40 (by decide) (fun hc => ?_) (fun hc => ?_)
          · replace hg := if_yes hg hc
            refine lv_iconst (v := 1) hx hb dX0_canBeGiven_52 (by decide) ?_
            refine lv_goto (tgt := 57) hx hb dX0_canBeGiven_53 (by decide) ?_
            cases hg
            exact fin _ _ bo_1 dX0_canBeGiven_57
          · replace hg := if_no hg hc
            refine lv_iload_n hx hb dX0_canBeGiven_43 rfl (lv_at hl 3 rfl) ?_
            refine lv_iload hx hb dX0_canBeGiven_44 (lv_at hl 4 rfl) ?_
            obtain ⟨v4, hq, hg⟩ := bind_ex hg
            refine callRNz (As := [.int x3, .int x4]) (rest := []) S hK hP (c_X4_areNeighbours l D cI cZ cB cJ x3 x4 v4 hq) [] rfl ⟨va_cnB 2 hts gX0_canBeGiven_X4_areNeighbours_n53 rfl rfl rfl (hK.2 _ (List.mem_of_getElem? (i := 3) rfl)) (hts _ wd_X0_canBeGiven_17) hd_X4_areNeighbours ⟨Nat.le_of_ble_eq_true rfl, Nat.le_of_ble_eq_true rfl⟩, hts _ wd_X0_canBeGiven_16, trivial⟩ rfl hl.1 rfl (Nat.le_of_ble_eq_true rfl) dX0_canBeGiven_46 ⟨Nat.zero_le _, Nat.zero_le _⟩ (fun hz_v4 => ?_)
            refine lv_if_eq (tgt := 56) hx hb dX0_canBeGiven_49 (by decide) (fun hc => ?_) (fun hc => ?_)
            · replace hg := if_yes hg hc
              refine lv_iconst (v := 0) hx hb dX0_canBeGiven_56 (by decide) ?_
              cases hg
              exact fin _ _ bo_0 dX0_canBeGiven_57
            · replace hg := if_no hg hc
              refine lv_iconst (v := 1) hx hb dX0_canBeGiven_52 (by decide) ?_
              refine lv_goto (tgt := 57) hx hb dX0_canBeGiven_53 (by decide) ?_
              cases hg
              exact fin _ _ bo_1 dX0_canBeGiven_57
      · replace hg := if_yes hg hc
        refine lv_iconst (v := 0) hx hb dX0_canBeGiven_30 (by decide) ?_
        cases hg
        exact fin _ _ bo_0 dX0_canBeGiven_31
    · replace hg := if_yes hg hc
      refine lv_iconst (v := 1) hx hb dX0_canBeGiven_14 (by decide) ?_
      cases hg
      exact fin _ _ bo_1 dX0_canBeGiven_15
  · replace hg := if_yes hg hc
    refine lv_iconst (v := 0) hx hb dX0_canBeGiven_8 (by decide) ?_
    cases hg
    exact fin _ _ bo_0 dX0_canBeGiven_9
theorem hd_X0_give : yX0_give.cls = RX0 ∧ yX0_give.cls ≠ "java/lang/invoke/MethodHandle" ∧ yX0_give.cls ≠ "java/lang/invoke/VarHandle" ∧ (parseMethodDescriptor yX0_give.desc).map (fun d => d.parameters.length) = some 4 := by decide +kernel
abbrev rX0_give : Room := { frames := 1, cells := 0, slots := 0, locals := 24 }
set_option maxHeartbeats 4000000 in
set_option maxRecDepth 100000 in
theorem c_X0_give (l : Launch) (D : va_G) (cI cZ cB cJ : ClassId) (A_t : Nat) (A_t_numbers : Nat) (A_t_owners : Nat) (A_t_cells : Nat) (sz : Nat) (V_t_cells : Nat → Int32) (x1 : Int32) (x2 : Int32) (x3 : Int32) (x4 : Int32) (r0 : Int32) (w1 : Nat → Int32) (hg : g_X0_give V_t_cells x1 x2 x3 x4 = some (r0, w1)) : Met l yX0_give wsX0_give rX0_give (PcW D cI cZ cB cJ sz [(A_t, .inr (0, [.ref A_t_numbers, .ref A_t_owners, .ref A_t_cells])), (A_t_cells, .inl (cI, 63, .inl V_t_cells))] [.ref A_t, .int x1, .int x2, .int x3, .int x4]) (QWi D cI cZ cB cJ sz [(A_t, .inr (0, [.ref A_t_numbers, .ref A_t_owners, .ref A_t_cells])), (A_t_cells, .inl (cI, 63, .inl V_t_cells))] [(A_t, .inr (0, [.ref A_t_numbers, .ref A_t_owners, .ref A_t_cells])), (A_t_cells, .inl (cI, 63, .inl w1))] r0) 0 0 (va_A [(A_t, .inr (0, [.ref A_t_numbers, .ref A_t_owners, .ref A_t_cells])), (A_t_cells, .inl (cI, 63, .inl V_t_cells))] sz) := by
  refine bodyWi (cc := cX0_give) (maxL := 6) (lv := [(0, .ref A_t), (1, .int x1), (2, .int x2), (3, .int x3), (4, .int x4)]) (by decide) rfl (Nat.le_of_ble_eq_true rfl) rfl ?_
  intro p e s m args below meth c Q hx hb hml hown hts A hP hK hD hA hS fin ls hl
  replace hown : s.vm.findClass RX0 = some m.cls := hown
  have S : CallFix p m c cX0_give 6 s args wsX0_give RX0 := ⟨hx, hb, hml, hown, hts⟩
  unfold g_X0_give at hg
  refine lv_aload_n hx hb dX0_give_0 rfl (lv_at hl 0 rfl) ?_
  refine lv_iload_n hx hb dX0_give_1 rfl (lv_at hl 1 rfl) ?_
  refine lv_iconst (v := 2) hx hb dX0_give_2 (by decide) ?_
  obtain ⟨v1, hq, hg⟩ := bind_ex hg
  refine callRVi (As := [.int x1, .int 2]) (rest := []) S hK hP (c_X0_of l D cI cZ cB cJ A_t A_t_numbers A_t_owners A_t_cells V_t_cells x1 2 v1 hq) [0, 1] rfl (cwV 2 hts gX0_give_X0_of rfl rfl rfl hd_X0_of ⟨Nat.le_of_ble_eq_true rfl, Nat.le_of_ble_eq_true rfl⟩) rfl rfl rfl hl.1 rfl (Nat.le_of_ble_eq_true rfl) dX0_give_3 ⟨Nat.zero_le _, Nat.zero_le _⟩ ?_
  refine lv_istore (lv' := [(5, .int v1), (0, .ref A_t), (1, .int x1), (2, .int x2), (3, .int x3), (4, .int x4)]) hx hb dX0_give_6 hl (by decide) rfl (fun ls hl => ?_)
  refine lv_aload_n hx hb dX0_give_8 rfl (lv_at hl 1 rfl) ?_
  refine lv_iload_n hx hb dX0_give_9 rfl (lv_at hl 2 rfl) ?_
  refine lv_iconst (v := 2) hx hb dX0_give_10 (by decide) ?_
  refine lv_iload_n hx hb dX0_give_11 rfl (lv_at hl 3 rfl) ?_
  obtain ⟨f2, hq, hg⟩ := bind_ex hg
  refine callWVv (As := [.int x1, .int 2, .int x2]) (rest := []) (wr := []) S hK hP hD hS hA (c_X0_put l D cI cZ cB cJ A_t A_t_numbers A_t_owners A_t_cells _ V_t_cells x1 2 x2 f2 hq) [0, 1] [] rfl rfl (by decide +kernel) (by decide +kernel) (by decide +kernel) (cwV 3 hts gX0_give_X0_put rfl rfl rfl hd_X0_put ⟨Nat.le_of_ble_eq_true rfl, Nat.le_of_ble_eq_true rfl⟩) rfl rfl rfl hl.1 rfl (Nat.le_of_ble_eq_true rfl) dX0_give_12 ⟨Nat.zero_le _, Nat.zero_le _⟩ (fun H locs hP hD hS => ?_)
  replace hP : va_P D vwCl [(A_t, .inr (0, [.ref A_t_numbers, .ref A_t_owners, .ref A_t_cells])), (A_t_cells, .inl (cI, 63, .inl f2))] H := hP
  replace hD : va_D A [(A_t, .inr (0, [.ref A_t_numbers, .ref A_t_owners, .ref A_t_cells])), (A_t_cells, .inl (cI, 63, .inl f2))] := hD
  refine lv_aload_n hx hb dX0_give_15 rfl (lv_at hl 1 rfl) ?_
  refine lv_iload_n hx hb dX0_give_16 rfl (lv_at hl 2 rfl) ?_
  refine lv_iconst (v := 3) hx hb dX0_give_17 (by decide) ?_
  refine lv_iload_n hx hb dX0_give_18 rfl (lv_at hl 3 rfl) ?_
  have hJ1 : ∀ (v3 : Int32), ∀ (H : Heap) (locs : List Loc), va_P D vwCl [(A_t, .inr (0, [.ref A_t_numbers, .ref A_t_owners, .ref A_t_cells])), (A_t_cells, .inl (cI, 63, .inl f2))] H → va_D A [(A_t, .inr (0, [.ref A_t_numbers, .ref A_t_owners, .ref A_t_cells])), (A_t_cells, .inl (cI, 63, .inl f2))] → va_S A s.heap H locs → ∀ ls : Array Slot, lv_has ls 6 [(5, .int v1), (0, .ref A_t), (1, .int x1), (2, .int x2), (3, .int x3)] → g_X0_give_J1 f2 x1 x2 v1 x3 v3 = some (r0, w1) → W p l e rX0_give s m args below meth c H locs 0 0 Q (F0 m 28 ls [.int v3, .int 3, .int x1, .ref A_t]) := by
    intro v3 H locs hP hD hS ls hl hg
    unfold g_X0_give_J1 at hg
    obtain ⟨f4, hq, hg⟩ := bind_ex hg
    refine callWVv (As := [.int x1, .int 3, .int v3]) (rest := []) (wr := []) S hK hP hD hS hA (c_X0_put l D cI cZ cB cJ A_t A_t_numbers A_t_owners A_t_cells _ f2 x1 3 v3 f4 hq) [0, 1] [] rfl rfl (by decide +kernel) (by decide +kernel) (by decide +kernel) (cwV 3 hts gX0_give_X0_put rfl rfl rfl hd_X0_put ⟨Nat.le_of_ble_eq_true rfl, Nat.le_of_ble_eq_true rfl⟩) rfl rfl rfl hl.1 rfl (Nat.le_of_ble_eq_true rfl) dX0_give_28 ⟨Nat.zero_le _, Nat.zero_le _⟩ (fun H locs hP hD hS => ?_)
    replace hP : va_P D vwCl [(A_t, .inr (0, [.ref A_t_numbers, .ref A_t_owners, .ref A_t_cells])), (A_t_cells, .inl (cI, 63, .inl f4))] H := hP
    replace hD : va_D A [(A_t, .inr (0, [.ref A_t_numbers, .ref A_t_owners, .ref A_t_cells])), (A_t_cells, .inl (cI, 63, .inl f4))] := hD
    refine lv_aload_n hx hb dX0_give_31 rfl (lv_at hl 1 rfl) ?_
    refine lv_iload_n hx hb dX0_give_32 rfl (lv_at hl 2 rfl) ?_
    refine lv_iconst (v := 4) hx hb dX0_give_33 (by decide) ?_
    refine lv_iload_n hx hb dX0_give_34 rfl (lv_at hl 3 rfl) ?_
    refine lv_iconst (v := 2) hx hb dX0_give_35 (by decide) ?_
    have hJ2 : ∀ (v5 : Int32), ∀ (H : Heap) (locs : List Loc), va_P D vwCl [(A_t, .inr (0, [.ref A_t_numbers, .ref A_t_owners, .ref A_t_cells])), (A_t_cells, .inl (cI, 63, .inl f4))] H → va_D A [(A_t, .inr (0, [.ref A_t_numbers, .ref A_t_owners, .ref A_t_cells])), (A_t_cells, .inl (cI, 63, .inl f4))] → va_S A s.heap H locs → ∀ ls : Array Slot, lv_has ls 6 [(5, .int v1)] → g_X0_give_J2 f4 x1 v1 v5 = some (r0, w1) → W p l e rX0_give s m args below meth c H locs 0 0 Q (F0 m 44 ls [.int v5, .int 4, .int x1, .ref A_t]) := by
      intro v5 H locs hP hD hS ls hl hg
      unfold g_X0_give_J2 at hg
      obtain ⟨f6, hq, hg⟩ := bind_ex hg
      refine callWVv (As := [.int x1, .int 4, .int v5]) (rest := []) (wr := []) S hK hP hD hS hA (c_X0_put l D cI cZ cB cJ A_t A_t_numbers A_t_owners A_t_cells _ f4 x1 4 v5 f6 hq) [0, 1] [] rfl rfl (by decide +kernel) (by decide +kernel) (by decide +kernel) (cwV 3 hts gX0_give_X0_put rfl rfl rfl hd_X0_put ⟨Nat.le_of_ble_eq_true rfl, Nat.le_of_ble_eq_true rfl⟩) rfl rfl rfl hl.1 rfl (Nat.le_of_ble_eq_true rfl) dX0_give_44 ⟨Nat.zero_le _, Nat.zero_le _⟩ (fun H locs hP hD hS => ?_)
      replace hP : va_P D vwCl [(A_t, .inr (0, [.ref A_t_numbers, .ref A_t_owners, .ref A_t_cells])), (A_t_cells, .inl (cI, 63, .inl f6))] H := hP
      replace hD : va_D A [(A_t, .inr (0, [.ref A_t_numbers, .ref A_t_owners, .ref A_t_cells])), (A_t_cells, .inl (cI, 63, .inl f6))] := hD
      refine lv_iload hx hb dX0_give_47 (lv_at hl 0 rfl) ?_
      cases hg
      exact fin _ _ _ _ dX0_give_49 hP hD hS
    refine lv_icmp_ne (tgt := 43) hx hb dX0_give_36 (by decide) (fun hc => ?_) (fun hc => ?_)
    · replace hg := if_no hg hc
      refine lv_iconst (v := (-1)) hx hb dX0_give_43 (by decide) ?_
      exact hJ2 _ _ _ hP hD hS _ (lv_sub hl [0] rfl) hg
    · replace hg := if_yes hg hc
      refine lv_iload_n hx hb dX0_give_39 rfl (lv_at hl 4 rfl) ?_
      refine lv_goto (tgt := 44) hx hb dX0_give_40 (by decide) ?_
      exact hJ2 _ _ _ hP hD hS _ (lv_sub hl [0] rfl) hg
  refine lv_if_ne (tgt := 26) hx hb dX0_give_19 (by decide) (fun hc => ?_) (fun hc => ?_)
  · replace hg := if_no hg hc
    refine lv_iload hx hb dX0_give_26 (lv_at hl 5 rfl) ?_
    exact hJ1 _ _ _ hP hD hS _ (lv_sub hl [0, 1, 2, 3, 4] rfl) hg
  · replace hg := if_yes hg hc
    refine lv_iconst (v := (-1)) hx hb dX0_give_22 (by decide) ?_
    refine lv_goto (tgt := 28) hx hb dX0_give_23 (by decide) ?_
    exact hJ1 _ _ _ hP hD hS _ (lv_sub hl [0, 1, 2, 3, 4] rfl) hg
theorem hd_X0_ordersOf : yX0_ordersOf.cls = RX0 ∧ yX0_ordersOf.cls ≠ "java/lang/invoke/MethodHandle" ∧ yX0_ordersOf.cls ≠ "java/lang/invoke/VarHandle" ∧ (parseMethodDescriptor yX0_ordersOf.desc).map (fun d => d.parameters.length) = some 1 := by decide +kernel
abbrev rX0_ordersOf : Room := { frames := 1, cells := 0, slots := 0, locals := 23 }
set_option maxHeartbeats 4000000 in
set_option maxRecDepth 100000 in
theorem c_X0_ordersOf (l : Launch) (D : va_G) (cI cZ cB cJ : ClassId) (A_t : Nat) (A_t_numbers : Nat) (A_t_owners : Nat) (A_t_cells : Nat) (V_t_numbers : Nat → Int32) (V_t_cells : Nat → Int32) (x1 : Int32) (r0 : Int32) (hg : g_X0_ordersOf V_t_numbers V_t_cells x1 = some r0) : Met l yX0_ordersOf wsX0_ordersOf rX0_ordersOf (PcR D cI cZ cB cJ [(A_t, .inr (0, [.ref A_t_numbers, .ref A_t_owners, .ref A_t_cells])), (A_t_numbers, .inl (cI, 10, .inl V_t_numbers)), (A_t_cells, .inl (cI, 63, .inl V_t_cells))] [.ref A_t, .int x1]) (vp_Si (fun r' => r' = r0 ∧ True)) 0 0 (fun _ => False) := by
  refine bodyRi (cc := cX0_ordersOf) (maxL := 4) (lv := [(0, .ref A_t), (1, .int x1)]) (by decide) rfl (Nat.le_of_ble_eq_true rfl) rfl ?_
  intro p e s m args below meth c Q hx hb hml hown hts hP hK fin ls hl
  replace hown : s.vm.findClass RX0 = some m.cls := hown
  have S : CallFix p m c cX0_ordersOf 4 s args wsX0_ordersOf RX0 := ⟨hx, hb, hml, hown, hts⟩
  unfold g_X0_ordersOf at hg
  refine lv_iconst (v := 0) hx hb dX0_ordersOf_0 (by decide) ?_
  refine lv_istore_n (lv' := [(2, .int 0), (0, .ref A_t), (1, .int x1)]) hx hb dX0_ordersOf_1 rfl hl (by decide) rfl (fun ls hl => ?_)
  refine lv_iconst (v := 0) hx hb dX0_ordersOf_2 (by decide) ?_
  refine lv_istore_n (lv' := [(3, .int 0), (2, .int 0), (0, .ref A_t), (1, .int x1)]) hx hb dX0_ordersOf_3 rfl hl (by decide) rfl (fun ls hl => ?_)
  obtain ⟨v5, hL, hg⟩ := bind_ex hg
  have kx : ∀ ls : Array Slot, lv_has ls 4 [(2, .int v5)] → W p l e rX0_ordersOf s m args below meth c s.heap [] 0 0 Q (F0 m 37 ls []) := by
    intro ls hl
    refine lv_iload_n hx hb dX0_ordersOf_37 rfl (lv_at hl 0 rfl) ?_
    cases hg
    exact fin _ _ dX0_ordersOf_38
  have L : ∀ (nf : Nat) (v1 : Int32) (v2 : Int32), ∀ ls : Array Slot, lv_has ls 4 [(3, .int v2), (2, .int v1), (0, .ref A_t), (1, .int x1)] → g_X0_ordersOf_L1 V_t_numbers V_t_cells x1 nf v1 v2 = some v5 → W p l e rX0_ordersOf s m args below meth c s.heap [] 0 0 Q (F0 m 4 ls []) := by
    intro nf
    induction nf with
    | zero =>
      intro v1 v2 ls hl hg
      exact no_some hg
    | succ nf ih =>
      intro v1 v2 ls hl hg
      rw [g_X0_ordersOf_L1] at hg
      refine lv_iload_n hx hb dX0_ordersOf_4 rfl (lv_at hl 0 rfl) ?_
      refine lv_aload_n hx hb dX0_ordersOf_5 rfl (lv_at hl 2 rfl) ?_
      refine lv_iconst (v := 0) hx hb dX0_ordersOf_6 (by decide) ?_
      obtain ⟨v3, hq, hg⟩ := bind_ex hg
      refine callRVi (As := [.int 0]) (rest := [.int v2]) S hK hP (c_X0_number l D cI cZ cB cJ A_t A_t_numbers A_t_owners A_t_cells V_t_numbers 0 v3 hq) [0, 1] rfl (cwV 1 hts gX0_ordersOf_X0_number rfl rfl rfl hd_X0_number ⟨Nat.le_of_ble_eq_true rfl, Nat.le_of_ble_eq_true rfl⟩) rfl rfl rfl hl.1 rfl (Nat.le_of_ble_eq_true rfl) dX0_ordersOf_7 ⟨Nat.zero_le _, Nat.zero_le _⟩ ?_
      refine lv_icmp_ge (tgt := 37) hx hb dX0_ordersOf_10 (by decide) (fun hc => ?_) (fun hc => ?_)
      · replace hg := if_yes hg hc
        cases hg
        exact kx _ (lv_sub hl [1] rfl)
      · replace hg := if_no hg hc
        refine lv_iload_n hx hb dX0_ordersOf_13 rfl (lv_at hl 1 rfl) ?_
        refine lv_aload_n hx hb dX0_ordersOf_14 rfl (lv_at hl 2 rfl) ?_
        refine lv_iload_n hx hb dX0_ordersOf_15 rfl (lv_at hl 0 rfl) ?_
        refine lv_iconst (v := 2) hx hb dX0_ordersOf_16 (by decide) ?_
        obtain ⟨v4, hq, hg⟩ := bind_ex hg
        refine callRVi (As := [.int v2, .int 2]) (rest := [.int v1]) S hK hP (c_X0_of l D cI cZ cB cJ A_t A_t_numbers A_t_owners A_t_cells V_t_cells v2 2 v4 hq) [0, 2] rfl (cwV 2 hts gX0_ordersOf_X0_of rfl rfl rfl hd_X0_of ⟨Nat.le_of_ble_eq_true rfl, Nat.le_of_ble_eq_true rfl⟩) rfl rfl rfl hl.1 rfl (Nat.le_of_ble_eq_true rfl) dX0_ordersOf_17 ⟨Nat.zero_le _, Nat.zero_le _⟩ ?_
        refine lv_iload_n hx hb dX0_ordersOf_20 rfl (lv_at hl 3 rfl) ?_
        refine lv_icmp_ne (tgt := 28) hx hb dX0_ordersOf_21 (by decide) (fun hc => ?_) (fun hc => ?_)
        · replace hg := if_no hg hc
          refine lv_iconst (v := 0) hx hb dX0_ordersOf_28 (by decide) ?_
          refine lv_iadd hx hb dX0_ordersOf_29 ?_
          refine lv_istore_n (lv' := [(2, .int (v1 + 0)), (3, .int v2), (0, .ref A_t), (1, .int x1)]) hx hb dX0_ordersOf_30 rfl hl (by decide) rfl (fun ls hl => ?_)
          refine lv_iinc (v := (v2 + 1)) (lv' := [(3, .int (v2 + 1)), (2, .int (v1 + 0)), (0, .ref A_t), (1, .int x1)]) hx hb dX0_ordersOf_31 hl (k := 1) rfl rfl (by decide) rfl (fun ls hl => ?_)
          refine lv_goto (tgt := 4) hx hb dX0_ordersOf_34 (by decide) ?_
          exact ih _ _ _ (lv_sub hl [0, 1, 2, 3] rfl) hg
        · replace hg := if_yes hg hc
          refine lv_iconst (v := 1) hx hb dX0_ordersOf_24 (by decide) ?_
          refine lv_goto (tgt := 29) hx hb dX0_ordersOf_25 (by decide) ?_
          refine lv_iadd hx hb dX0_ordersOf_29 ?_
          refine lv_istore_n (lv' := [(2, .int (v1 + 1)), (3, .int v2), (0, .ref A_t), (1, .int x1)]) hx hb dX0_ordersOf_30 rfl hl (by decide) rfl (fun ls hl => ?_)
          refine lv_iinc (v := (v2 + 1)) (lv' := [(3, .int (v2 + 1)), (2, .int (v1 + 1)), (0, .ref A_t), (1, .int x1)]) hx hb dX0_ordersOf_31 hl (k := 1) rfl rfl (by decide) rfl (fun ls hl => ?_)
          refine lv_goto (tgt := 4) hx hb dX0_ordersOf_34 (by decide) ?_
          exact ih _ _ _ (lv_sub hl [0, 1, 2, 3] rfl) hg
  exact L FU _ _ _ (lv_sub hl [0, 1, 2, 3] rfl) hL
theorem hd_X0_armiesOf : yX0_armiesOf.cls = RX0 ∧ yX0_armiesOf.cls ≠ "java/lang/invoke/MethodHandle" ∧ yX0_armiesOf.cls ≠ "java/lang/invoke/VarHandle" ∧ (parseMethodDescriptor yX0_armiesOf.desc).map (fun d => d.parameters.length) = some 1 := by decide +kernel
abbrev rX0_armiesOf : Room := { frames := 1, cells := 0, slots := 0, locals := 23 }
set_option maxHeartbeats 4000000 in
set_option maxRecDepth 100000 in
theorem c_X0_armiesOf (l : Launch) (D : va_G) (cI cZ cB cJ : ClassId) (A_t : Nat) (A_t_numbers : Nat) (A_t_owners : Nat) (A_t_cells : Nat) (V_t_numbers : Nat → Int32) (V_t_cells : Nat → Int32) (x1 : Int32) (r0 : Int32) (hg : g_X0_armiesOf V_t_numbers V_t_cells x1 = some r0) : Met l yX0_armiesOf wsX0_armiesOf rX0_armiesOf (PcR D cI cZ cB cJ [(A_t, .inr (0, [.ref A_t_numbers, .ref A_t_owners, .ref A_t_cells])), (A_t_numbers, .inl (cI, 10, .inl V_t_numbers)), (A_t_cells, .inl (cI, 63, .inl V_t_cells))] [.ref A_t, .int x1]) (vp_Si (fun r' => r' = r0 ∧ True)) 0 0 (fun _ => False) := by
  refine bodyRi (cc := cX0_armiesOf) (maxL := 4) (lv := [(0, .ref A_t), (1, .int x1)]) (by decide) rfl (Nat.le_of_ble_eq_true rfl) rfl ?_
  intro p e s m args below meth c Q hx hb hml hown hts hP hK fin ls hl
  replace hown : s.vm.findClass RX0 = some m.cls := hown
  have S : CallFix p m c cX0_armiesOf 4 s args wsX0_armiesOf RX0 := ⟨hx, hb, hml, hown, hts⟩
  unfold g_X0_armiesOf at hg
  refine lv_iconst (v := 0) hx hb dX0_armiesOf_0 (by decide) ?_
  refine lv_istore_n (lv' := [(2, .int 0), (0, .ref A_t), (1, .int x1)]) hx hb dX0_armiesOf_1 rfl hl (by decide) rfl (fun ls hl => ?_)
  refine lv_iconst (v := 0) hx hb dX0_armiesOf_2 (by decide) ?_
  refine lv_istore_n (lv' := [(3, .int 0), (2, .int 0), (0, .ref A_t), (1, .int x1)]) hx hb dX0_armiesOf_3 rfl hl (by decide) rfl (fun ls hl => ?_)
  obtain ⟨v5, hL, hg⟩ := bind_ex hg
  have kx : ∀ ls : Array Slot, lv_has ls 4 [(2, .int v5)] → W p l e rX0_armiesOf s m args below meth c s.heap [] 0 0 Q (F0 m 37 ls []) := by
    intro ls hl
    refine lv_iload_n hx hb dX0_armiesOf_37 rfl (lv_at hl 0 rfl) ?_
    cases hg
    exact fin _ _ dX0_armiesOf_38
  have L : ∀ (nf : Nat) (v1 : Int32) (v2 : Int32), ∀ ls : Array Slot, lv_has ls 4 [(3, .int v2), (2, .int v1), (0, .ref A_t), (1, .int x1)] → g_X0_armiesOf_L1 V_t_numbers V_t_cells x1 nf v1 v2 = some v5 → W p l e rX0_armiesOf s m args below meth c s.heap [] 0 0 Q (F0 m 4 ls []) := by
    intro nf
    induction nf with
    | zero =>
      intro v1 v2 ls hl hg
      exact no_some hg
    | succ nf ih =>
      intro v1 v2 ls hl hg
      rw [g_X0_armiesOf_L1] at hg
      refine lv_iload_n hx hb dX0_armiesOf_4 rfl (lv_at hl 0 rfl) ?_
      refine lv_aload_n hx hb dX0_armiesOf_5 rfl (lv_at hl 2 rfl) ?_
      refine lv_iconst (v := 0) hx hb dX0_armiesOf_6 (by decide) ?_
      obtain ⟨v3, hq, hg⟩ := bind_ex hg
      refine callRVi (As := [.int 0]) (rest := [.int v2]) S hK hP (c_X0_number l D cI cZ cB cJ A_t A_t_numbers A_t_owners A_t_cells V_t_numbers 0 v3 hq) [0, 1] rfl (cwV 1 hts gX0_armiesOf_X0_number rfl rfl rfl hd_X0_number ⟨Nat.le_of_ble_eq_true rfl, Nat.le_of_ble_eq_true rfl⟩) rfl rfl rfl hl.1 rfl (Nat.le_of_ble_eq_true rfl) dX0_armiesOf_7 ⟨Nat.zero_le _, Nat.zero_le _⟩ ?_
      refine lv_icmp_ge (tgt := 37) hx hb dX0_armiesOf_10 (by decide) (fun hc => ?_) (fun hc => ?_)
      · replace hg := if_yes hg hc
        cases hg
        exact kx _ (lv_sub hl [1] rfl)
      · replace hg := if_no hg hc
        refine lv_iload_n hx hb dX0_armiesOf_13 rfl (lv_at hl 1 rfl) ?_
        refine lv_aload_n hx hb dX0_armiesOf_14 rfl (lv_at hl 2 rfl) ?_
        refine lv_iload_n hx hb dX0_armiesOf_15 rfl (lv_at hl 0 rfl) ?_
        refine lv_iconst (v := 0) hx hb dX0_armiesOf_16 (by decide) ?_
        obtain ⟨v4, hq, hg⟩ := bind_ex hg
        refine callRVi (As := [.int v2, .int 0]) (rest := [.int v1]) S hK hP (c_X0_of l D cI cZ cB cJ A_t A_t_numbers A_t_owners A_t_cells V_t_cells v2 0 v4 hq) [0, 2] rfl (cwV 2 hts gX0_armiesOf_X0_of rfl rfl rfl hd_X0_of ⟨Nat.le_of_ble_eq_true rfl, Nat.le_of_ble_eq_true rfl⟩) rfl rfl rfl hl.1 rfl (Nat.le_of_ble_eq_true rfl) dX0_armiesOf_17 ⟨Nat.zero_le _, Nat.zero_le _⟩ ?_
        refine lv_iload_n hx hb dX0_armiesOf_20 rfl (lv_at hl 3 rfl) ?_
        refine lv_icmp_ne (tgt := 28) hx hb dX0_armiesOf_21 (by decide) (fun hc => ?_) (fun hc => ?_)
        · replace hg := if_no hg hc
          refine lv_iconst (v := 0) hx hb dX0_armiesOf_28 (by decide) ?_
          refine lv_iadd hx hb dX0_armiesOf_29 ?_
          refine lv_istore_n (lv' := [(2, .int (v1 + 0)), (3, .int v2), (0, .ref A_t), (1, .int x1)]) hx hb dX0_armiesOf_30 rfl hl (by decide) rfl (fun ls hl => ?_)
          refine lv_iinc (v := (v2 + 1)) (lv' := [(3, .int (v2 + 1)), (2, .int (v1 + 0)), (0, .ref A_t), (1, .int x1)]) hx hb dX0_armiesOf_31 hl (k := 1) rfl rfl (by decide) rfl (fun ls hl => ?_)
          refine lv_goto (tgt := 4) hx hb dX0_armiesOf_34 (by decide) ?_
          exact ih _ _ _ (lv_sub hl [0, 1, 2, 3] rfl) hg
        · replace hg := if_yes hg hc
          refine lv_iconst (v := 1) hx hb dX0_armiesOf_24 (by decide) ?_
          refine lv_goto (tgt := 29) hx hb dX0_armiesOf_25 (by decide) ?_
          refine lv_iadd hx hb dX0_armiesOf_29 ?_
          refine lv_istore_n (lv' := [(2, .int (v1 + 1)), (3, .int v2), (0, .ref A_t), (1, .int x1)]) hx hb dX0_armiesOf_30 rfl hl (by decide) rfl (fun ls hl => ?_)
          refine lv_iinc (v := (v2 + 1)) (lv' := [(3, .int (v2 + 1)), (2, .int (v1 + 1)), (0, .ref A_t), (1, .int x1)]) hx hb dX0_armiesOf_31 hl (k := 1) rfl rfl (by decide) rfl (fun ls hl => ?_)
          refine lv_goto (tgt := 4) hx hb dX0_armiesOf_34 (by decide) ?_
          exact ih _ _ _ (lv_sub hl [0, 1, 2, 3] rfl) hg
  exact L FU _ _ _ (lv_sub hl [0, 1, 2, 3] rfl) hL
theorem hd_X0_centresOf : yX0_centresOf.cls = RX0 ∧ yX0_centresOf.cls ≠ "java/lang/invoke/MethodHandle" ∧ yX0_centresOf.cls ≠ "java/lang/invoke/VarHandle" ∧ (parseMethodDescriptor yX0_centresOf.desc).map (fun d => d.parameters.length) = some 1 := by decide +kernel
abbrev rX0_centresOf : Room := { frames := 1, cells := 0, slots := 0, locals := 21 }
set_option maxHeartbeats 4000000 in
set_option maxRecDepth 100000 in
theorem c_X0_centresOf (l : Launch) (D : va_G) (cI cZ cB cJ : ClassId) (A_t : Nat) (A_t_numbers : Nat) (A_t_owners : Nat) (A_t_cells : Nat) (V_t_owners : Nat → Int32) (x1 : Int32) (r0 : Int32) (hg : g_X0_centresOf V_t_owners x1 = some r0) : Met l yX0_centresOf wsX0_centresOf rX0_centresOf (PcR D cI cZ cB cJ [(A_t, .inr (0, [.ref A_t_numbers, .ref A_t_owners, .ref A_t_cells])), (A_t_owners, .inl (cI, 12, .inl V_t_owners))] [.ref A_t, .int x1]) (vp_Si (fun r' => r' = r0 ∧ True)) 0 0 (fun _ => False) := by
  refine bodyRi (cc := cX0_centresOf) (maxL := 4) (lv := [(0, .ref A_t), (1, .int x1)]) (by decide) rfl (Nat.le_of_ble_eq_true rfl) rfl ?_
  intro p e s m args below meth c Q hx hb hml hown hts hP hK fin ls hl
  replace hown : s.vm.findClass RX0 = some m.cls := hown
  have S : CallFix p m c cX0_centresOf 4 s args wsX0_centresOf RX0 := ⟨hx, hb, hml, hown, hts⟩
  unfold g_X0_centresOf at hg
  refine lv_iconst (v := 0) hx hb dX0_centresOf_0 (by decide) ?_
  refine lv_istore_n (lv' := [(2, .int 0), (0, .ref A_t), (1, .int x1)]) hx hb dX0_centresOf_1 rfl hl (by decide) rfl (fun ls hl => ?_)
  refine lv_iconst (v := 0) hx hb dX0_centresOf_2 (by decide) ?_
  refine lv_istore_n (lv' := [(3, .int 0), (2, .int 0), (0, .ref A_t), (1, .int x1)]) hx hb dX0_centresOf_3 rfl hl (by decide) rfl (fun ls hl => ?_)
  obtain ⟨v4, hL, hg⟩ := bind_ex hg
  have kx : ∀ ls : Array Slot, lv_has ls 4 [(2, .int v4)] → W p l e rX0_centresOf s m args below meth c s.heap [] 0 0 Q (F0 m 33 ls []) := by
    intro ls hl
    refine lv_iload_n hx hb dX0_centresOf_33 rfl (lv_at hl 0 rfl) ?_
    cases hg
    exact fin _ _ dX0_centresOf_34
  have L : ∀ (nf : Nat) (v1 : Int32) (v2 : Int32), ∀ ls : Array Slot, lv_has ls 4 [(3, .int v2), (2, .int v1), (0, .ref A_t), (1, .int x1)] → g_X0_centresOf_L1 V_t_owners x1 nf v1 v2 = some v4 → W p l e rX0_centresOf s m args below meth c s.heap [] 0 0 Q (F0 m 4 ls []) := by
    intro nf
    induction nf with
    | zero =>
      intro v1 v2 ls hl hg
      exact no_some hg
    | succ nf ih =>
      intro v1 v2 ls hl hg
      rw [g_X0_centresOf_L1] at hg
      refine lv_iload_n hx hb dX0_centresOf_4 rfl (lv_at hl 0 rfl) ?_
      refine lv_bipush (v := 12) hx hb dX0_centresOf_5 (by decide) ?_
      refine lv_icmp_ge (tgt := 33) hx hb dX0_centresOf_7 (by decide) (fun hc => ?_) (fun hc => ?_)
      · replace hg := if_yes hg hc
        cases hg
        exact kx _ (lv_sub hl [1] rfl)
      · replace hg := if_no hg hc
        refine lv_iload_n hx hb dX0_centresOf_10 rfl (lv_at hl 1 rfl) ?_
        refine lv_aload_n hx hb dX0_centresOf_11 rfl (lv_at hl 2 rfl) ?_
        refine lv_iload_n hx hb dX0_centresOf_12 rfl (lv_at hl 0 rfl) ?_
        obtain ⟨v3, hq, hg⟩ := bind_ex hg
        refine callRVi (As := [.int v2]) (rest := [.int v1]) S hK hP (c_X0_owner l D cI cZ cB cJ A_t A_t_numbers A_t_owners A_t_cells V_t_owners v2 v3 hq) [0, 1] rfl (cwV 1 hts gX0_centresOf_X0_owner rfl rfl rfl hd_X0_owner ⟨Nat.le_of_ble_eq_true rfl, Nat.le_of_ble_eq_true rfl⟩) rfl rfl rfl hl.1 rfl (Nat.le_of_ble_eq_true rfl) dX0_centresOf_13 ⟨Nat.zero_le _, Nat.zero_le _⟩ ?_
        refine lv_iload_n hx hb dX0_centresOf_16 rfl (lv_at hl 3 rfl) ?_
        refine lv_icmp_ne (tgt := 24) hx hb dX0_centresOf_17 (by decide) (fun hc => ?_) (fun hc => ?_)
        · replace hg := if_no hg hc
          refine lv_iconst (v := 0) hx hb dX0_centresOf_24 (by decide) ?_
          refine lv_iadd hx hb dX0_centresOf_25 ?_
          refine lv_istore_n (lv' := [(2, .int (v1 + 0)), (3, .int v2), (0, .ref A_t), (1, .int x1)]) hx hb dX0_centresOf_26 rfl hl (by decide) rfl (fun ls hl => ?_)
          refine lv_iinc (v := (v2 + 1)) (lv' := [(3, .int (v2 + 1)), (2, .int (v1 + 0)), (0, .ref A_t), (1, .int x1)]) hx hb dX0_centresOf_27 hl (k := 1) rfl rfl (by decide) rfl (fun ls hl => ?_)
          refine lv_goto (tgt := 4) hx hb dX0_centresOf_30 (by decide) ?_
          exact ih _ _ _ (lv_sub hl [0, 1, 2, 3] rfl) hg
        · replace hg := if_yes hg hc
          refine lv_iconst (v := 1) hx hb dX0_centresOf_20 (by decide) ?_
          refine lv_goto (tgt := 25) hx hb dX0_centresOf_21 (by decide) ?_
          refine lv_iadd hx hb dX0_centresOf_25 ?_
          refine lv_istore_n (lv' := [(2, .int (v1 + 1)), (3, .int v2), (0, .ref A_t), (1, .int x1)]) hx hb dX0_centresOf_26 rfl hl (by decide) rfl (fun ls hl => ?_)
          refine lv_iinc (v := (v2 + 1)) (lv' := [(3, .int (v2 + 1)), (2, .int (v1 + 1)), (0, .ref A_t), (1, .int x1)]) hx hb dX0_centresOf_27 hl (k := 1) rfl rfl (by decide) rfl (fun ls hl => ?_)
          refine lv_goto (tgt := 4) hx hb dX0_centresOf_30 (by decide) ?_
          exact ih _ _ _ (lv_sub hl [0, 1, 2, 3] rfl) hg
  exact L FU _ _ _ (lv_sub hl [0, 1, 2, 3] rfl) hL
theorem hd_X4_neighbourMask : yX4_neighbourMask.cls ≠ "java/lang/invoke/MethodHandle" ∧ yX4_neighbourMask.cls ≠ "java/lang/invoke/VarHandle" ∧ (parseMethodDescriptor yX4_neighbourMask.desc).map (fun d => d.parameters.length) = some 1 := by decide +kernel
abbrev rX4_neighbourMask : Room := { frames := 1, cells := 0, slots := 0, locals := 22 }
set_option maxHeartbeats 4000000 in
set_option maxRecDepth 100000 in
theorem c_X4_neighbourMask (l : Launch) (D : va_G) (cI cZ cB cJ : ClassId) (x1 : Int32) (r0 : Int32) (hg : g_X4_neighbourMask x1 = some r0) : Met l yX4_neighbourMask wsX4_neighbourMask rX4_neighbourMask (PcR D cI cZ cB cJ [] [.int x1]) (vp_Si (fun r' => r' = r0 ∧ True)) 0 0 (fun _ => False) := by
  refine bodyRi (cc := cX4_neighbourMask) (maxL := 3) (lv := [(0, .int x1)]) (by decide) rfl (Nat.le_of_ble_eq_true rfl) rfl ?_
  intro p e s m args below meth c Q hx hb hml hown hts hP hK fin ls hl
  replace hown : s.vm.findClass RX4 = some m.cls := hown
  have S : CallFix p m c cX4_neighbourMask 3 s args wsX4_neighbourMask RX4 := ⟨hx, hb, hml, hown, hts⟩
  unfold g_X4_neighbourMask at hg
  refine lv_iconst (v := 0) hx hb dX4_neighbourMask_0 (by decide) ?_
  refine lv_istore_n (lv' := [(1, .int 0), (0, .int x1)]) hx hb dX4_neighbourMask_1 rfl hl (by decide) rfl (fun ls hl => ?_)
  refine lv_iconst (v := 0) hx hb dX4_neighbourMask_2 (by decide) ?_
  refine lv_istore_n (lv' := [(2, .int 0), (1, .int 0), (0, .int x1)]) hx hb dX4_neighbourMask_3 rfl hl (by decide) rfl (fun ls hl => ?_)
  obtain ⟨v4, hL, hg⟩ := bind_ex hg
  have kx : ∀ ls : Array Slot, lv_has ls 3 [(1, .int v4)] → W p l e rX4_neighbourMask s m args below meth c s.heap [] 0 0 Q (F0 m 34 ls []) := by
    intro ls hl
    refine lv_iload_n hx hb dX4_neighbourMask_34 rfl (lv_at hl 0 rfl) ?_
    cases hg
    exact fin _ _ dX4_neighbourMask_35
  have L : ∀ (nf : Nat) (v1 : Int32) (v2 : Int32), ∀ ls : Array Slot, lv_has ls 3 [(2, .int v2), (1, .int v1), (0, .int x1)] → g_X4_neighbourMask_L1 x1 nf v1 v2 = some v4 → W p l e rX4_neighbourMask s m args below meth c s.heap [] 0 0 Q (F0 m 4 ls []) := by
    intro nf
    induction nf with
    | zero =>
      intro v1 v2 ls hl hg
      exact no_some hg
    | succ nf ih =>
      intro v1 v2 ls hl hg
      rw [g_X4_neighbourMask_L1] at hg
      refine lv_iload_n hx hb dX4_neighbourMask_4 rfl (lv_at hl 0 rfl) ?_
      refine lv_bipush (v := 12) hx hb dX4_neighbourMask_5 (by decide) ?_
      refine lv_icmp_ge (tgt := 34) hx hb dX4_neighbourMask_7 (by decide) (fun hc => ?_) (fun hc => ?_)
      · replace hg := if_yes hg hc
        cases hg
        exact kx _ (lv_sub hl [1] rfl)
      · replace hg := if_no hg hc
        refine lv_iload_n hx hb dX4_neighbourMask_10 rfl (lv_at hl 1 rfl) ?_
        refine lv_iload_n hx hb dX4_neighbourMask_11 rfl (lv_at hl 2 rfl) ?_
        refine lv_iload_n hx hb dX4_neighbourMask_12 rfl (lv_at hl 0 rfl) ?_
        obtain ⟨v3, hq, hg⟩ := bind_ex hg
        refine callRSz (As := [.int x1, .int v2]) (rest := [.int v1]) S hK hP (c_X4_areNeighbours l D cI cZ cB cJ x1 v2 v3 hq) [] rfl (va_cwS 2 hts gX4_neighbourMask_X4_areNeighbours rfl rfl rfl hd_X4_areNeighbours ⟨Nat.le_of_ble_eq_true rfl, Nat.le_of_ble_eq_true rfl⟩) rfl hl.1 rfl (Nat.le_of_ble_eq_true rfl) dX4_neighbourMask_13 ⟨Nat.zero_le _, Nat.zero_le _⟩ (fun hz_v3 => ?_)
        refine lv_if_eq (tgt := 25) hx hb dX4_neighbourMask_16 (by decide) (fun hc => ?_) (fun hc => ?_)
        · replace hg := if_yes hg hc
          refine lv_iconst (v := 0) hx hb dX4_neighbourMask_25 (by decide) ?_
          refine lv_ior hx hb dX4_neighbourMask_26 ?_
          refine lv_istore_n (lv' := [(1, .int (v1 ||| 0)), (2, .int v2), (0, .int x1)]) hx hb dX4_neighbourMask_27 rfl hl (by decide) rfl (fun ls hl => ?_)
          refine lv_iinc (v := (v2 + 1)) (lv' := [(2, .int (v2 + 1)), (1, .int (v1 ||| 0)), (0, .int x1)]) hx hb dX4_neighbourMask_28 hl (k := 1) rfl rfl (by decide) rfl (fun ls hl => ?_)
          refine lv_goto (tgt := 4) hx hb dX4_neighbourMask_31 (by decide) ?_
          exact ih _ _ _ (lv_sub hl [0, 1, 2] rfl) hg
        · replace hg := if_no hg hc
          refine lv_iconst (v := 1) hx hb dX4_neighbourMask_19 (by decide) ?_
          refine lv_iload_n hx hb dX4_neighbourMask_20 rfl (lv_at hl 0 rfl) ?_
          refine lv_ishl hx hb dX4_neighbourMask_21 ?_
          refine lv_goto (tgt := 26) hx hb dX4_neighbourMask_22 (by decide) ?_
          refine lv_ior hx hb dX4_neighbourMask_26 ?_
          refine lv_istore_n (lv' := [(1, .int (v1 ||| (1 <<< (v2 &&& 31)))), (2, .int v2), (0, .int x1)]) hx hb dX4_neighbourMask_27 rfl hl (by decide) rfl (fun ls hl => ?_)
          refine lv_iinc (v := (v2 + 1)) (lv' := [(2, .int (v2 + 1)), (1, .int (v1 ||| (1 <<< (v2 &&& 31)))), (0, .int x1)]) hx hb dX4_neighbourMask_28 hl (k := 1) rfl rfl (by decide) rfl (fun ls hl => ?_)
          refine lv_goto (tgt := 4) hx hb dX4_neighbourMask_31 (by decide) ?_
          exact ih _ _ _ (lv_sub hl [0, 1, 2] rfl) hg
  exact L FU _ _ _ (lv_sub hl [0, 1, 2] rfl) hL
theorem hd_X0_seenMask : yX0_seenMask.cls = RX0 ∧ yX0_seenMask.cls ≠ "java/lang/invoke/MethodHandle" ∧ yX0_seenMask.cls ≠ "java/lang/invoke/VarHandle" ∧ (parseMethodDescriptor yX0_seenMask.desc).map (fun d => d.parameters.length) = some 1 := by decide +kernel
theorem wd_X0_seenMask_13 : Cond.initialized RX4 ∈ wsX0_seenMask := List.mem_of_getElem? (i := 13) rfl
theorem wd_X0_seenMask_12 : Cond.static yX4_neighbourMask ∈ wsX0_seenMask := List.mem_of_getElem? (i := 12) rfl
abbrev rX0_seenMask : Room := { frames := 2, cells := 0, slots := 0, locals := 44 }
set_option maxHeartbeats 4000000 in
set_option maxRecDepth 100000 in
theorem c_X0_seenMask (l : Launch) (D : va_G) (cI cZ cB cJ : ClassId) (A_t : Nat) (A_t_numbers : Nat) (A_t_owners : Nat) (A_t_cells : Nat) (V_t_numbers : Nat → Int32) (V_t_cells : Nat → Int32) (x1 : Int32) (r0 : Int32) (hg : g_X0_seenMask V_t_numbers V_t_cells x1 = some r0) : Met l yX0_seenMask wsX0_seenMask rX0_seenMask (PcR D cI cZ cB cJ [(A_t, .inr (0, [.ref A_t_numbers, .ref A_t_owners, .ref A_t_cells])), (A_t_numbers, .inl (cI, 10, .inl V_t_numbers)), (A_t_cells, .inl (cI, 63, .inl V_t_cells))] [.ref A_t, .int x1]) (vp_Si (fun r' => r' = r0 ∧ True)) 0 0 (fun _ => False) := by
  refine bodyRi (cc := cX0_seenMask) (maxL := 4) (lv := [(0, .ref A_t), (1, .int x1)]) (by decide) rfl (Nat.le_of_ble_eq_true rfl) rfl ?_
  intro p e s m args below meth c Q hx hb hml hown hts hP hK fin ls hl
  replace hown : s.vm.findClass RX0 = some m.cls := hown
  have S : CallFix p m c cX0_seenMask 4 s args wsX0_seenMask RX0 := ⟨hx, hb, hml, hown, hts⟩
  unfold g_X0_seenMask at hg
  refine lv_iconst (v := 0) hx hb dX0_seenMask_0 (by decide) ?_
  refine lv_istore_n (lv' := [(2, .int 0), (0, .ref A_t), (1, .int x1)]) hx hb dX0_seenMask_1 rfl hl (by decide) rfl (fun ls hl => ?_)
  refine lv_iconst (v := 0) hx hb dX0_seenMask_2 (by decide) ?_
  refine lv_istore_n (lv' := [(3, .int 0), (2, .int 0), (0, .ref A_t), (1, .int x1)]) hx hb dX0_seenMask_3 rfl hl (by decide) rfl (fun ls hl => ?_)
  obtain ⟨v8, hL, hg⟩ := bind_ex hg
  have kx : ∀ ls : Array Slot, lv_has ls 4 [(2, .int v8)] → W p l e rX0_seenMask s m args below meth c s.heap [] 0 0 Q (F0 m 50 ls []) := by
    intro ls hl
    refine lv_iload_n hx hb dX0_seenMask_50 rfl (lv_at hl 0 rfl) ?_
    cases hg
    exact fin _ _ dX0_seenMask_51
  have L : ∀ (nf : Nat) (v1 : Int32) (v2 : Int32), ∀ ls : Array Slot, lv_has ls 4 [(3, .int v2), (2, .int v1), (0, .ref A_t), (1, .int x1)] → g_X0_seenMask_L1 V_t_numbers V_t_cells x1 nf v1 v2 = some v8 → W p l e rX0_seenMask s m args below meth c s.heap [] 0 0 Q (F0 m 4 ls []) := by
    intro nf
    induction nf with
    | zero =>
      intro v1 v2 ls hl hg
      exact no_some hg
    | succ nf ih =>
      intro v1 v2 ls hl hg
      rw [g_X0_seenMask_L1] at hg
      refine lv_iload_n hx hb dX0_seenMask_4 rfl (lv_at hl 0 rfl) ?_
      refine lv_aload_n hx hb dX0_seenMask_5 rfl (lv_at hl 2 rfl) ?_
      refine lv_iconst (v := 0) hx hb dX0_seenMask_6 (by decide) ?_
      obtain ⟨v3, hq, hg⟩ := bind_ex hg
      refine callRVi (As := [.int 0]) (rest := [.int v2]) S hK hP (c_X0_number l D cI cZ cB cJ A_t A_t_numbers A_t_owners A_t_cells V_t_numbers 0 v3 hq) [0, 1] rfl (cwV 1 hts gX0_seenMask_X0_number rfl rfl rfl hd_X0_number ⟨Nat.le_of_ble_eq_true rfl, Nat.le_of_ble_eq_true rfl⟩) rfl rfl rfl hl.1 rfl (Nat.le_of_ble_eq_true rfl) dX0_seenMask_7 ⟨Nat.zero_le _, Nat.zero_le _⟩ ?_
      refine lv_icmp_ge (tgt := 50) hx hb dX0_seenMask_10 (by decide) (fun hc => ?_) (fun hc => ?_)
      · replace hg := if_yes hg hc
        cases hg
        exact kx _ (lv_sub hl [1] rfl)
      · replace hg := if_no hg hc
        refine lv_aload_n hx hb dX0_seenMask_13 rfl (lv_at hl 2 rfl) ?_
        refine lv_iload_n hx hb dX0_seenMask_14 rfl (lv_at hl 0 rfl) ?_
        refine lv_iconst (v := 0) hx hb dX0_seenMask_15 (by decide) ?_
        obtain ⟨v4, hq, hg⟩ := bind_ex hg
        refine callRVi (As := [.int v2, .int 0]) (rest := []) S hK hP (c_X0_of l D cI cZ cB cJ A_t A_t_numbers A_t_owners A_t_cells V_t_cells v2 0 v4 hq) [0, 2] rfl (cwV 2 hts gX0_seenMask_X0_of rfl rfl rfl hd_X0_of ⟨Nat.le_of_ble_eq_true rfl, Nat.le_of_ble_eq_true rfl⟩) rfl rfl rfl hl.1 rfl (Nat.le_of_ble_eq_true rfl) dX0_seenMask_16 ⟨Nat.zero_le _, Nat.zero_le _⟩ ?_
        refine lv_iload_n hx hb dX0_seenMask_19 rfl (lv_at hl 3 rfl) ?_
        refine lv_icmp_ne (tgt := 44) hx hb dX0_seenMask_20 (by decide) (fun hc => ?_) (fun hc => ?_)
        · replace hg := if_no hg hc
          refine lv_iinc (v := (v2 + 1)) (lv' := [(3, .int (v2 + 1)), (2, .int v1), (0, .ref A_t), (1, .int x1)]) hx hb dX0_seenMask_44 hl (k := 0) rfl rfl (by decide) rfl (fun ls hl => ?_)
          refine lv_goto (tgt := 4) hx hb dX0_seenMask_47 (by decide) ?_
          exact ih _ _ _ (lv_sub hl [0, 1, 2, 3] rfl) hg
        · replace hg := if_yes hg hc
          refine lv_iload_n hx hb dX0_seenMask_23 rfl (lv_at hl 1 rfl) ?_
          refine lv_iconst (v := 1) hx hb dX0_seenMask_24 (by decide) ?_
          refine lv_aload_n hx hb dX0_seenMask_25 rfl (lv_at hl 2 rfl) ?_
          refine lv_iload_n hx hb dX0_seenMask_26 rfl (lv_at hl 0 rfl) ?_
          refine lv_iconst (v := 1) hx hb dX0_seenMask_27 (by decide) ?_
          obtain ⟨v5, hq, hg⟩ := bind_ex hg
          refine callRVi (As := [.int v2, .int 1]) (rest := [.int 1, .int v1]) S hK hP (c_X0_of l D cI cZ cB cJ A_t A_t_numbers A_t_owners A_t_cells V_t_cells v2 1 v5 hq) [0, 2] rfl (cwV 2 hts gX0_seenMask_X0_of rfl rfl rfl hd_X0_of ⟨Nat.le_of_ble_eq_true rfl, Nat.le_of_ble_eq_true rfl⟩) rfl rfl rfl hl.1 rfl (Nat.le_of_ble_eq_true rfl) dX0_seenMask_28 ⟨Nat.zero_le _, Nat.zero_le _⟩ ?_
          refine lv_ishl hx hb dX0_seenMask_31 ?_
          refine lv_aload_n hx hb dX0_seenMask_32 rfl (lv_at hl 2 rfl) ?_
          refine lv_iload_n hx hb dX0_seenMask_33 rfl (lv_at hl 0 rfl) ?_
          refine lv_iconst (v := 1) hx hb dX0_seenMask_34 (by decide) ?_
          obtain ⟨v6, hq, hg⟩ := bind_ex hg
          refine callRVi (As := [.int v2, .int 1]) (rest := [.int (1 <<< (v5 &&& 31)), .int v1]) S hK hP (c_X0_of l D cI cZ cB cJ A_t A_t_numbers A_t_owners A_t_cells V_t_cells v2 1 v6 hq) [0, 2] rfl (cwV 2 hts gX0_seenMask_X0_of rfl rfl rfl hd_X0_of ⟨Nat.le_of_ble_eq_true rfl, Nat.le_of_ble_eq_true rfl⟩) rfl rfl rfl hl.1 rfl (Nat.le_of_ble_eq_true rfl) dX0_seenMask_35 ⟨Nat.zero_le _, Nat.zero_le _⟩ ?_
          obtain ⟨v7, hq, hg⟩ := bind_ex hg
          refine callRNi (As := [.int v6]) (rest := [.int (1 <<< (v5 &&& 31)), .int v1]) S hK hP (c_X4_neighbourMask l D cI cZ cB cJ v6 v7 hq) [] rfl ⟨va_cnB 1 hts gX0_seenMask_X4_neighbourMask_n60 rfl rfl rfl (hK.2 _ (List.mem_of_getElem? (i := 10) rfl)) (hts _ wd_X0_seenMask_13) hd_X4_neighbourMask ⟨Nat.le_of_ble_eq_true rfl, Nat.le_of_ble_eq_true rfl⟩, hts _ wd_X0_seenMask_12, trivial⟩ rfl hl.1 rfl (Nat.le_of_ble_eq_true rfl) dX0_seenMask_38 ⟨Nat.zero_le _, Nat.zero_le _⟩ ?_
          refine lv_ior hx hb dX0_seenMask_41 ?_
          refine lv_ior hx hb dX0_seenMask_42 ?_
          refine lv_istore_n (lv' := [(2, .int (v1 ||| ((1 <<< (v5 &&& 31)) ||| v7))), (3, .int v2), (0, .ref A_t), (1, .int x1)]) hx hb dX0_seenMask_43 rfl hl (by decide) rfl (fun ls hl => ?_)
          refine lv_iinc (v := (v2 + 1)) (lv' := [(3, .int (v2 + 1)), (2, .int (v1 ||| ((1 <<< (v5 &&& 31)) ||| v7))), (0, .ref A_t), (1, .int x1)]) hx hb dX0_seenMask_44 hl (k := 1) rfl rfl (by decide) rfl (fun ls hl => ?_)
          refine lv_goto (tgt := 4) hx hb dX0_seenMask_47 (by decide) ?_
          exact ih _ _ _ (lv_sub hl [0, 1, 2, 3] rfl) hg
  exact L FU _ _ _ (lv_sub hl [0, 1, 2, 3] rfl) hL
theorem hd_X0_seatsSeeing : yX0_seatsSeeing.cls = RX0 ∧ yX0_seatsSeeing.cls ≠ "java/lang/invoke/MethodHandle" ∧ yX0_seatsSeeing.cls ≠ "java/lang/invoke/VarHandle" ∧ (parseMethodDescriptor yX0_seatsSeeing.desc).map (fun d => d.parameters.length) = some 1 := by decide +kernel
theorem wd_X0_seatsSeeing_13 : Cond.initialized RX4 ∈ wsX0_seatsSeeing := List.mem_of_getElem? (i := 13) rfl
theorem wd_X0_seatsSeeing_12 : Cond.static yX4_areNeighbours ∈ wsX0_seatsSeeing := List.mem_of_getElem? (i := 12) rfl
abbrev rX0_seatsSeeing : Room := { frames := 1, cells := 0, slots := 0, locals := 23 }
set_option maxHeartbeats 4000000 in
set_option maxRecDepth 100000 in
theorem c_X0_seatsSeeing (l : Launch) (D : va_G) (cI cZ cB cJ : ClassId) (A_t : Nat) (A_t_numbers : Nat) (A_t_owners : Nat) (A_t_cells : Nat) (V_t_numbers : Nat → Int32) (V_t_cells : Nat → Int32) (x1 : Int32) (r0 : Int32) (hg : g_X0_seatsSeeing V_t_numbers V_t_cells x1 = some r0) : Met l yX0_seatsSeeing wsX0_seatsSeeing rX0_seatsSeeing (PcR D cI cZ cB cJ [(A_t, .inr (0, [.ref A_t_numbers, .ref A_t_owners, .ref A_t_cells])), (A_t_numbers, .inl (cI, 10, .inl V_t_numbers)), (A_t_cells, .inl (cI, 63, .inl V_t_cells))] [.ref A_t, .int x1]) (vp_Si (fun r' => r' = r0 ∧ True)) 0 0 (fun _ => False) := by
  refine bodyRi (cc := cX0_seatsSeeing) (maxL := 5) (lv := [(0, .ref A_t), (1, .int x1)]) (by decide) rfl (Nat.le_of_ble_eq_true rfl) rfl ?_
  intro p e s m args below meth c Q hx hb hml hown hts hP hK fin ls hl
  replace hown : s.vm.findClass RX0 = some m.cls := hown
  have S : CallFix p m c cX0_seatsSeeing 5 s args wsX0_seatsSeeing RX0 := ⟨hx, hb, hml, hown, hts⟩
  unfold g_X0_seatsSeeing at hg
  refine lv_iconst (v := 0) hx hb dX0_seatsSeeing_0 (by decide) ?_
  refine lv_istore_n (lv' := [(2, .int 0), (0, .ref A_t), (1, .int x1)]) hx hb dX0_seatsSeeing_1 rfl hl (by decide) rfl (fun ls hl => ?_)
  refine lv_iconst (v := 0) hx hb dX0_seatsSeeing_2 (by decide) ?_
  refine lv_istore_n (lv' := [(3, .int 0), (2, .int 0), (0, .ref A_t), (1, .int x1)]) hx hb dX0_seatsSeeing_3 rfl hl (by decide) rfl (fun ls hl => ?_)
  obtain ⟨v9, hL, hg⟩ := bind_ex hg
  have kx : ∀ ls : Array Slot, lv_has ls 5 [(2, .int v9)] → W p l e rX0_seatsSeeing s m args below meth c s.heap [] 0 0 Q (F0 m 69 ls []) := by
    intro ls hl
    refine lv_iload_n hx hb dX0_seatsSeeing_69 rfl (lv_at hl 0 rfl) ?_
    cases hg
    exact fin _ _ dX0_seatsSeeing_70
  have L : ∀ (nf : Nat) (v1 : Int32) (v2 : Int32), ∀ ls : Array Slot, lv_has ls 5 [(3, .int v2), (2, .int v1), (0, .ref A_t), (1, .int x1)] → g_X0_seatsSeeing_L1 V_t_numbers V_t_cells x1 nf v1 v2 = some v9 → W p l e rX0_seatsSeeing s m args below meth c s.heap [] 0 0 Q (F0 m 4 ls []) := by
    intro nf
    induction nf with
    | zero =>
      intro v1 v2 ls hl hg
      exact no_some hg
    | succ nf ih =>
      intro v1 v2 ls hl hg
      rw [g_X0_seatsSeeing_L1] at hg
      refine lv_iload_n hx hb dX0_seatsSeeing_4 rfl (lv_at hl 0 rfl) ?_
      refine lv_aload_n hx hb dX0_seatsSeeing_5 rfl (lv_at hl 2 rfl) ?_
      refine lv_iconst (v := 0) hx hb dX0_seatsSeeing_6 (by decide) ?_
      obtain ⟨v3, hq, hg⟩ := bind_ex hg
      refine callRVi (As := [.int 0]) (rest := [.int v2]) S hK hP (c_X0_number l D cI cZ cB cJ A_t A_t_numbers A_t_owners A_t_cells V_t_numbers 0 v3 hq) [0, 1] rfl (cwV 1 hts gX0_seatsSeeing_X0_number rfl rfl rfl hd_X0_number ⟨Nat.le_of_ble_eq_true rfl, Nat.le_of_ble_eq_true rfl⟩) rfl rfl rfl hl.1 rfl (Nat.le_of_ble_eq_true rfl) dX0_seatsSeeing_7 ⟨Nat.zero_le _, Nat.zero_le _⟩ ?_
      refine lv_icmp_ge (tgt := 69) hx hb dX0_seatsSeeing_10 (by decide) (fun hc => ?_) (fun hc => ?_)
      · replace hg := if_yes hg hc
        cases hg
        exact kx _ (lv_sub hl [1] rfl)
      · replace hg := if_no hg hc
        refine lv_aload_n hx hb dX0_seatsSeeing_13 rfl (lv_at hl 2 rfl) ?_
        refine lv_iload_n hx hb dX0_seatsSeeing_14 rfl (lv_at hl 0 rfl) ?_
        refine lv_iconst (v := 1) hx hb dX0_seatsSeeing_15 (by decide) ?_
        obtain ⟨v4, hq, hg⟩ := bind_ex hg
        refine callRVi (As := [.int v2, .int 1]) (rest := []) S hK hP (c_X0_of l D cI cZ cB cJ A_t A_t_numbers A_t_owners A_t_cells V_t_cells v2 1 v4 hq) [0, 2] rfl (cwV 2 hts gX0_seatsSeeing_X0_of rfl rfl rfl hd_X0_of ⟨Nat.le_of_ble_eq_true rfl, Nat.le_of_ble_eq_true rfl⟩) rfl rfl rfl hl.1 rfl (Nat.le_of_ble_eq_true rfl) dX0_seatsSeeing_16 ⟨Nat.zero_le _, Nat.zero_le _⟩ ?_
        refine lv_iload_n hx hb dX0_seatsSeeing_19 rfl (lv_at hl 3 rfl) ?_
        have hJ1 : ∀ (v7 : Int32), bo v7 → ∀ ls : Array Slot, lv_has ls 5 [(3, .int v2), (2, .int v1), (0, .ref A_t), (1, .int x1)] → g_X0_seatsSeeing_J1 v1 v2 V_t_cells (g_X0_seatsSeeing_L1 V_t_numbers V_t_cells x1 nf) v7 = some v9 → W p l e rX0_seatsSeeing s m args below meth c s.heap [] 0 0 Q (F0 m 41 ls [.int v7]) := by
          intro v7 hz_v7 ls hl hg
          unfold g_X0_seatsSeeing_J1 at hg
          refine lv_istore (lv' := [(4, .int v7), (3, .int v2), (2, .int v1), (0, .ref A_t), (1, .int x1)]) hx hb dX0_seatsSeeing_41 hl (by decide) rfl (fun ls hl => ?_)
          refine lv_iload_n hx hb dX0_seatsSeeing_43 rfl (lv_at hl 2 rfl) ?_
          refine lv_iload hx hb dX0_seatsSeeing_44 (lv_at hl 0 rfl) ?_
          refine lv_if_eq (tgt := 60) hx hb dX0_seatsSeeing_46 (by decide) (fun hc => ?_) (fun hc => ?_)
          · replace hg := if_yes hg hc
            refine lv_iconst (v := 0) hx hb dX0_seatsSeeing_60 (by decide) ?_
            refine lv_ior hx hb dX0_seatsSeeing_61 ?_
            refine lv_istore_n (lv' := [(2, .int (v1 ||| 0)), (4, .int v7), (3, .int v2), (0, .ref A_t), (1, .int x1)]) hx hb dX0_seatsSeeing_62 rfl hl (by decide) rfl (fun ls hl => ?_)
            refine lv_iinc (v := (v2 + 1)) (lv' := [(3, .int (v2 + 1)), (2, .int (v1 ||| 0)), (4, .int v7), (0, .ref A_t), (1, .int x1)]) hx hb dX0_seatsSeeing_63 hl (k := 2) rfl rfl (by decide) rfl (fun ls hl => ?_)
            refine lv_goto (tgt := 4) hx hb dX0_seatsSeeing_66 (by decide) ?_
            exact ih _ _ _ (lv_sub hl [0, 1, 3, 4] rfl) hg
          · replace hg := if_no hg hc
            refine lv_iconst (v := 1) hx hb dX0_seatsSeeing_49 (by decide) ?_
            refine lv_aload_n hx hb dX0_seatsSeeing_50 rfl (lv_at hl 3 rfl) ?_
            refine lv_iload_n hx hb dX0_seatsSeeing_51 rfl (lv_at hl 1 rfl) ?_
            refine lv_iconst (v := 0) hx hb dX0_seatsSeeing_52 (by decide) ?_
            obtain ⟨v8, hq, hg⟩ := bind_ex hg
            refine callRVi (As := [.int v2, .int 0]) (rest := [.int 1, .int v1]) S hK hP (c_X0_of l D cI cZ cB cJ A_t A_t_numbers A_t_owners A_t_cells V_t_cells v2 0 v8 hq) [0, 2] rfl (cwV 2 hts gX0_seatsSeeing_X0_of rfl rfl rfl hd_X0_of ⟨Nat.le_of_ble_eq_true rfl, Nat.le_of_ble_eq_true rfl⟩) rfl rfl rfl hl.1 rfl (Nat.le_of_ble_eq_true rfl) dX0_seatsSeeing_53 ⟨Nat.zero_le _, Nat.zero_le _⟩ ?_
            refine lv_ishl hx hb dX0_seatsSeeing_56 ?_
            refine lv_goto (tgt := 61) hx hb dX0_seatsSeeing_57 (by decide) ?_
            refine lv_ior hx hb dX0_seatsSeeing_61 ?_
            refine lv_istore_n (lv' := [(2, .int (v1 ||| (1 <<< (v8 &&& 31)))), (4, .int v7), (3, .int v2), (0, .ref A_t), (1, .int x1)]) hx hb dX0_seatsSeeing_62 rfl hl (by decide) rfl (fun ls hl => ?_)
            refine lv_iinc (v := (v2 + 1)) (lv' := [(3, .int (v2 + 1)), (2, .int (v1 ||| (1 <<< (v8 &&& 31)))), (4, .int v7), (0, .ref A_t), (1, .int x1)]) hx hb dX0_seatsSeeing_63 hl (k := 2) rfl rfl (by decide) rfl (fun ls hl => ?_)
            refine lv_goto (tgt := 4) hx hb dX0_seatsSeeing_66 (by decide) ?_
            exact ih _ _ _ (lv_sub hl [0, 1, 3, 4] rfl) hg
        refine lv_icmp_eq (tgt := 36) hx hb dX0_seatsSeeing_20 (by decide) (fun hc => ?_) (fun hc => ?_)
        · replace hg := if_yes hg hc
          refine lv_iconst (v := 1) hx hb dX0_seatsSeeing_36 (by decide) ?_
          refine lv_goto (tgt := 41) hx hb dX0_seatsSeeing_37 (by decide) ?_
          exact hJ1 _ bo_1 _ (lv_sub hl [0, 1, 2, 3] rfl) hg
        · replace hg := if_no hg hc
          refine lv_aload_n hx hb dX0_seatsSeeing_23 rfl (lv_at hl 2 rfl) ?_
          refine lv_iload_n hx hb dX0_seatsSeeing_24 rfl (lv_at hl 0 rfl) ?_
          refine lv_iconst (v := 1) hx hb dX0_seatsSeeing_25 (by decide) ?_
          obtain ⟨v5, hq, hg⟩ := bind_ex hg
          refine callRVi (As := [.int v2, .int 1]) (rest := []) S hK hP (c_X0_of l D cI cZ cB cJ A_t A_t_numbers A_t_owners A_t_cells V_t_cells v2 1 v5 hq) [0, 2] rfl (cwV 2 hts gX0_seatsSeeing_X0_of rfl rfl rfl hd_X0_of ⟨Nat.le_of_ble_eq_true rfl, Nat.le_of_ble_eq_true rfl⟩) rfl rfl rfl hl.1 rfl (Nat.le_of_ble_eq_true rfl) dX0_seatsSeeing_26 ⟨Nat.zero_le _, Nat.zero_le _⟩ ?_
          refine lv_iload_n hx hb dX0_seatsSeeing_29 rfl (lv_at hl 3 rfl) ?_
          obtain ⟨v6, hq, hg⟩ := bind_ex hg
          refine callRNz (As := [.int v5, .int x1]) (rest := []) S hK hP (c_X4_areNeighbours l D cI cZ cB cJ v5 x1 v6 hq) [] rfl ⟨va_cnB 2 hts gX0_seatsSeeing_X4_areNeighbours_n53 rfl rfl rfl (hK.2 _ (List.mem_of_getElem? (i := 3) rfl)) (hts _ wd_X0_seatsSeeing_13) hd_X4_areNeighbours ⟨Nat.le_of_ble_eq_true rfl, Nat.le_of_ble_eq_true rfl⟩, hts _ wd_X0_seatsSeeing_12, trivial⟩ rfl hl.1 rfl (Nat.le_of_ble_eq_true rfl) dX0_seatsSeeing_30 ⟨Nat.zero_le _, Nat.zero_le _⟩ (fun hz_v6 => ?_)
          refine lv_if_eq (tgt := 40) hx hb dX0_seatsSeeing_33 (by decide) (fun hc => ?_) (fun hc => ?_)
          · replace hg := if_yes hg hc
            refine lv_iconst (v := 0) hx hb dX0_seatsSeeing_40 (by decide) ?_
            exact hJ1 _ bo_0 _ (lv_sub hl [0, 1, 2, 3] rfl) hg
          · replace hg := if_no hg hc
            refine lv_iconst (v := 1) hx hb dX0_seatsSeeing_36 (by decide) ?_
            refine lv_goto (tgt := 41) hx hb dX0_seatsSeeing_37 (by decide) ?_
            exact hJ1 _ bo_1 _ (lv_sub hl [0, 1, 2, 3] rfl) hg
  exact L FU _ _ _ (lv_sub hl [0, 1, 2, 3] rfl) hL
theorem hd_X0_lowestFieldOf : yX0_lowestFieldOf.cls = RX0 ∧ yX0_lowestFieldOf.cls ≠ "java/lang/invoke/MethodHandle" ∧ yX0_lowestFieldOf.cls ≠ "java/lang/invoke/VarHandle" ∧ (parseMethodDescriptor yX0_lowestFieldOf.desc).map (fun d => d.parameters.length) = some 1 := by decide +kernel
abbrev rX0_lowestFieldOf : Room := { frames := 1, cells := 0, slots := 0, locals := 23 }
set_option maxHeartbeats 4000000 in
set_option maxRecDepth 100000 in
theorem c_X0_lowestFieldOf (l : Launch) (D : va_G) (cI cZ cB cJ : ClassId) (A_t : Nat) (A_t_numbers : Nat) (A_t_owners : Nat) (A_t_cells : Nat) (V_t_numbers : Nat → Int32) (V_t_cells : Nat → Int32) (x1 : Int32) (r0 : Int32) (hg : g_X0_lowestFieldOf V_t_numbers V_t_cells x1 = some r0) : Met l yX0_lowestFieldOf wsX0_lowestFieldOf rX0_lowestFieldOf (PcR D cI cZ cB cJ [(A_t, .inr (0, [.ref A_t_numbers, .ref A_t_owners, .ref A_t_cells])), (A_t_numbers, .inl (cI, 10, .inl V_t_numbers)), (A_t_cells, .inl (cI, 63, .inl V_t_cells))] [.ref A_t, .int x1]) (vp_Si (fun r' => r' = r0 ∧ True)) 0 0 (fun _ => False) := by
  refine bodyRi (cc := cX0_lowestFieldOf) (maxL := 5) (lv := [(0, .ref A_t), (1, .int x1)]) (by decide) rfl (Nat.le_of_ble_eq_true rfl) rfl ?_
  intro p e s m args below meth c Q hx hb hml hown hts hP hK fin ls hl
  replace hown : s.vm.findClass RX0 = some m.cls := hown
  have S : CallFix p m c cX0_lowestFieldOf 5 s args wsX0_lowestFieldOf RX0 := ⟨hx, hb, hml, hown, hts⟩
  unfold g_X0_lowestFieldOf at hg
  refine lv_iconst (v := (-1)) hx hb dX0_lowestFieldOf_0 (by decide) ?_
  refine lv_istore_n (lv' := [(2, .int (-1)), (0, .ref A_t), (1, .int x1)]) hx hb dX0_lowestFieldOf_1 rfl hl (by decide) rfl (fun ls hl => ?_)
  refine lv_iconst (v := 0) hx hb dX0_lowestFieldOf_2 (by decide) ?_
  refine lv_istore_n (lv' := [(3, .int 0), (2, .int (-1)), (0, .ref A_t), (1, .int x1)]) hx hb dX0_lowestFieldOf_3 rfl hl (by decide) rfl (fun ls hl => ?_)
  obtain ⟨v6, hL, hg⟩ := bind_ex hg
  have kx : ∀ ls : Array Slot, lv_has ls 5 [(2, .int v6)] → W p l e rX0_lowestFieldOf s m args below meth c s.heap [] 0 0 Q (F0 m 51 ls []) := by
    intro ls hl
    refine lv_iload_n hx hb dX0_lowestFieldOf_51 rfl (lv_at hl 0 rfl) ?_
    cases hg
    exact fin _ _ dX0_lowestFieldOf_52
  have L : ∀ (nf : Nat) (v1 : Int32) (v2 : Int32), ∀ ls : Array Slot, lv_has ls 5 [(3, .int v2), (2, .int v1), (0, .ref A_t), (1, .int x1)] → g_X0_lowestFieldOf_L1 V_t_numbers V_t_cells x1 nf v1 v2 = some v6 → W p l e rX0_lowestFieldOf s m args below meth c s.heap [] 0 0 Q (F0 m 4 ls []) := by
    intro nf
    induction nf with
    | zero =>
      intro v1 v2 ls hl hg
      exact no_some hg
    | succ nf ih =>
      intro v1 v2 ls hl hg
      rw [g_X0_lowestFieldOf_L1] at hg
      refine lv_iload_n hx hb dX0_lowestFieldOf_4 rfl (lv_at hl 0 rfl) ?_
      refine lv_aload_n hx hb dX0_lowestFieldOf_5 rfl (lv_at hl 2 rfl) ?_
      refine lv_iconst (v := 0) hx hb dX0_lowestFieldOf_6 (by decide) ?_
      obtain ⟨v3, hq, hg⟩ := bind_ex hg
      refine callRVi (As := [.int 0]) (rest := [.int v2]) S hK hP (c_X0_number l D cI cZ cB cJ A_t A_t_numbers A_t_owners A_t_cells V_t_numbers 0 v3 hq) [0, 1] rfl (cwV 1 hts gX0_lowestFieldOf_X0_number rfl rfl rfl hd_X0_number ⟨Nat.le_of_ble_eq_true rfl, Nat.le_of_ble_eq_true rfl⟩) rfl rfl rfl hl.1 rfl (Nat.le_of_ble_eq_true rfl) dX0_lowestFieldOf_7 ⟨Nat.zero_le _, Nat.zero_le _⟩ ?_
      refine lv_icmp_ge (tgt := 51) hx hb dX0_lowestFieldOf_10 (by decide) (fun hc => ?_) (fun hc => ?_)
      · replace hg := if_yes hg hc
        cases hg
        exact kx _ (lv_sub hl [1] rfl)
      · replace hg := if_no hg hc
        refine lv_aload_n hx hb dX0_lowestFieldOf_13 rfl (lv_at hl 2 rfl) ?_
        refine lv_iload_n hx hb dX0_lowestFieldOf_14 rfl (lv_at hl 0 rfl) ?_
        refine lv_iconst (v := 1) hx hb dX0_lowestFieldOf_15 (by decide) ?_
        obtain ⟨v4, hq, hg⟩ := bind_ex hg
        refine callRVi (As := [.int v2, .int 1]) (rest := []) S hK hP (c_X0_of l D cI cZ cB cJ A_t A_t_numbers A_t_owners A_t_cells V_t_cells v2 1 v4 hq) [0, 2] rfl (cwV 2 hts gX0_lowestFieldOf_X0_of rfl rfl rfl hd_X0_of ⟨Nat.le_of_ble_eq_true rfl, Nat.le_of_ble_eq_true rfl⟩) rfl rfl rfl hl.1 rfl (Nat.le_of_ble_eq_true rfl) dX0_lowestFieldOf_16 ⟨Nat.zero_le _, Nat.zero_le _⟩ ?_
        refine lv_istore (lv' := [(4, .int v4), (3, .int v2), (2, .int v1), (0, .ref A_t), (1, .int x1)]) hx hb dX0_lowestFieldOf_19 hl (by decide) rfl (fun ls hl => ?_)
        refine lv_aload_n hx hb dX0_lowestFieldOf_21 rfl (lv_at hl 3 rfl) ?_
        refine lv_iload_n hx hb dX0_lowestFieldOf_22 rfl (lv_at hl 1 rfl) ?_
        refine lv_iconst (v := 0) hx hb dX0_lowestFieldOf_23 (by decide) ?_
        obtain ⟨v5, hq, hg⟩ := bind_ex hg
        refine callRVi (As := [.int v2, .int 0]) (rest := []) S hK hP (c_X0_of l D cI cZ cB cJ A_t A_t_numbers A_t_owners A_t_cells V_t_cells v2 0 v5 hq) [0, 2] rfl (cwV 2 hts gX0_lowestFieldOf_X0_of rfl rfl rfl hd_X0_of ⟨Nat.le_of_ble_eq_true rfl, Nat.le_of_ble_eq_true rfl⟩) rfl rfl rfl hl.1 rfl (Nat.le_of_ble_eq_true rfl) dX0_lowestFieldOf_24 ⟨Nat.zero_le _, Nat.zero_le _⟩ ?_
        refine lv_iload_n hx hb dX0_lowestFieldOf_27 rfl (lv_at hl 4 rfl) ?_
        refine lv_icmp_ne (tgt := 45) hx hb dX0_lowestFieldOf_28 (by decide) (fun hc => ?_) (fun hc => ?_)
        · replace hg := if_no hg hc
          refine lv_iinc (v := (v2 + 1)) (lv' := [(3, .int (v2 + 1)), (4, .int v4), (2, .int v1), (0, .ref A_t), (1, .int x1)]) hx hb dX0_lowestFieldOf_45 hl (k := 1) rfl rfl (by decide) rfl (fun ls hl => ?_)
          refine lv_goto (tgt := 4) hx hb dX0_lowestFieldOf_48 (by decide) ?_
          exact ih _ _ _ (lv_sub hl [0, 2, 3, 4] rfl) hg
        · replace hg := if_yes hg hc
          refine lv_iload_n hx hb dX0_lowestFieldOf_31 rfl (lv_at hl 2 rfl) ?_
          refine lv_iconst (v := (-1)) hx hb dX0_lowestFieldOf_32 (by decide) ?_
          refine lv_icmp_eq (tgt := 42) hx hb dX0_lowestFieldOf_33 (by decide) (fun hc => ?_) (fun hc => ?_)
          · replace hg := if_yes hg hc
            refine lv_iload hx hb dX0_lowestFieldOf_42 (lv_at hl 0 rfl) ?_
            refine lv_istore_n (lv' := [(2, .int v4), (4, .int v4), (3, .int v2), (0, .ref A_t), (1, .int x1)]) hx hb dX0_lowestFieldOf_44 rfl hl (by decide) rfl (fun ls hl => ?_)
            refine lv_iinc (v := (v2 + 1)) (lv' := [(3, .int (v2 + 1)), (2, .int v4), (4, .int v4), (0, .ref A_t), (1, .int x1)]) hx hb dX0_lowestFieldOf_45 hl (k := 2) rfl rfl (by decide) rfl (fun ls hl => ?_)
            refine lv_goto (tgt := 4) hx hb dX0_lowestFieldOf_48 (by decide) ?_
            exact ih _ _ _ (lv_sub hl [0, 1, 3, 4] rfl) hg
          · replace hg := if_no hg hc
            refine lv_iload hx hb dX0_lowestFieldOf_36 (lv_at hl 0 rfl) ?_
            refine lv_iload_n hx hb dX0_lowestFieldOf_38 rfl (lv_at hl 2 rfl) ?_
            refine lv_icmp_ge (tgt := 45) hx hb dX0_lowestFieldOf_39 (by decide) (fun hc => ?_) (fun hc => ?_)
            · replace hg := if_yes hg hc
              refine lv_iinc (v := (v2 + 1)) (lv' := [(3, .int (v2 + 1)), (4, .int v4), (2, .int v1), (0, .ref A_t), (1, .int x1)]) hx hb dX0_lowestFieldOf_45 hl (k := 1) rfl rfl (by decide) rfl (fun ls hl => ?_)
              refine lv_goto (tgt := 4) hx hb dX0_lowestFieldOf_48 (by decide) ?_
              exact ih _ _ _ (lv_sub hl [0, 2, 3, 4] rfl) hg
            · replace hg := if_no hg hc
              refine lv_iload hx hb dX0_lowestFieldOf_42 (lv_at hl 0 rfl) ?_
              refine lv_istore_n (lv' := [(2, .int v4), (4, .int v4), (3, .int v2), (0, .ref A_t), (1, .int x1)]) hx hb dX0_lowestFieldOf_44 rfl hl (by decide) rfl (fun ls hl => ?_)
              refine lv_iinc (v := (v2 + 1)) (lv' := [(3, .int (v2 + 1)), (2, .int v4), (4, .int v4), (0, .ref A_t), (1, .int x1)]) hx hb dX0_lowestFieldOf_45 hl (k := 2) rfl rfl (by decide) rfl (fun ls hl => ?_)
              refine lv_goto (tgt := 4) hx hb dX0_lowestFieldOf_48 (by decide) ?_
              exact ih _ _ _ (lv_sub hl [0, 1, 3, 4] rfl) hg
  exact L FU _ _ _ (lv_sub hl [0, 1, 2, 3] rfl) hL
theorem hd_X0_othersSeen : yX0_othersSeen.cls = RX0 ∧ yX0_othersSeen.cls ≠ "java/lang/invoke/MethodHandle" ∧ yX0_othersSeen.cls ≠ "java/lang/invoke/VarHandle" ∧ (parseMethodDescriptor yX0_othersSeen.desc).map (fun d => d.parameters.length) = some 1 := by decide +kernel
abbrev rX0_othersSeen : Room := { frames := 3, cells := 0, slots := 0, locals := 67 }
set_option maxHeartbeats 4000000 in
set_option maxRecDepth 100000 in
theorem c_X0_othersSeen (l : Launch) (D : va_G) (cI cZ cB cJ : ClassId) (A_t : Nat) (A_t_numbers : Nat) (A_t_owners : Nat) (A_t_cells : Nat) (V_t_numbers : Nat → Int32) (V_t_cells : Nat → Int32) (x1 : Int32) (r0 : Int32) (hg : g_X0_othersSeen V_t_numbers V_t_cells x1 = some r0) : Met l yX0_othersSeen wsX0_othersSeen rX0_othersSeen (PcR D cI cZ cB cJ [(A_t, .inr (0, [.ref A_t_numbers, .ref A_t_owners, .ref A_t_cells])), (A_t_numbers, .inl (cI, 10, .inl V_t_numbers)), (A_t_cells, .inl (cI, 63, .inl V_t_cells))] [.ref A_t, .int x1]) (vp_Si (fun r' => r' = r0 ∧ True)) 0 0 (fun _ => False) := by
  refine bodyRi (cc := cX0_othersSeen) (maxL := 6) (lv := [(0, .ref A_t), (1, .int x1)]) (by decide) rfl (Nat.le_of_ble_eq_true rfl) rfl ?_
  intro p e s m args below meth c Q hx hb hml hown hts hP hK fin ls hl
  replace hown : s.vm.findClass RX0 = some m.cls := hown
  have S : CallFix p m c cX0_othersSeen 6 s args wsX0_othersSeen RX0 := ⟨hx, hb, hml, hown, hts⟩
  unfold g_X0_othersSeen at hg
  refine lv_aload_n hx hb dX0_othersSeen_0 rfl (lv_at hl 0 rfl) ?_
  refine lv_iload_n hx hb dX0_othersSeen_1 rfl (lv_at hl 1 rfl) ?_
  obtain ⟨v1, hq, hg⟩ := bind_ex hg
  refine callRVi (As := [.int x1]) (rest := []) S hK hP (c_X0_seenMask l D cI cZ cB cJ A_t A_t_numbers A_t_owners A_t_cells V_t_numbers V_t_cells x1 v1 hq) [0, 1, 2] rfl (cwV 1 hts gX0_othersSeen_X0_seenMask rfl rfl rfl hd_X0_seenMask ⟨Nat.le_of_ble_eq_true rfl, Nat.le_of_ble_eq_true rfl⟩) rfl rfl rfl hl.1 rfl (Nat.le_of_ble_eq_true rfl) dX0_othersSeen_2 ⟨Nat.zero_le _, Nat.zero_le _⟩ ?_
  refine lv_istore_n (lv' := [(2, .int v1), (0, .ref A_t), (1, .int x1)]) hx hb dX0_othersSeen_5 rfl hl (by decide) rfl (fun ls hl => ?_)
  refine lv_iconst (v := 0) hx hb dX0_othersSeen_6 (by decide) ?_
  refine lv_istore_n (lv' := [(3, .int 0), (2, .int v1), (0, .ref A_t), (1, .int x1)]) hx hb dX0_othersSeen_7 rfl hl (by decide) rfl (fun ls hl => ?_)
  refine lv_iconst (v := 0) hx hb dX0_othersSeen_8 (by decide) ?_
  refine lv_istore (lv' := [(4, .int 0), (3, .int 0), (2, .int v1), (0, .ref A_t), (1, .int x1)]) hx hb dX0_othersSeen_9 hl (by decide) rfl (fun ls hl => ?_)
  obtain ⟨v8, hL, hg⟩ := bind_ex hg
  have kx : ∀ ls : Array Slot, lv_has ls 6 [(3, .int v8)] → W p l e rX0_othersSeen s m args below meth c s.heap [] 0 0 Q (F0 m 68 ls []) := by
    intro ls hl
    refine lv_iload_n hx hb dX0_othersSeen_68 rfl (lv_at hl 0 rfl) ?_
    cases hg
    exact fin _ _ dX0_othersSeen_69
  have L : ∀ (nf : Nat) (v2 : Int32) (v3 : Int32), ∀ ls : Array Slot, lv_has ls 6 [(4, .int v3), (3, .int v2), (2, .int v1), (0, .ref A_t), (1, .int x1)] → g_X0_othersSeen_L1 V_t_numbers V_t_cells x1 v1 nf v2 v3 = some v8 → W p l e rX0_othersSeen s m args below meth c s.heap [] 0 0 Q (F0 m 11 ls []) := by
    intro nf
    induction nf with
    | zero =>
      intro v2 v3 ls hl hg
      exact no_some hg
    | succ nf ih =>
      intro v2 v3 ls hl hg
      rw [g_X0_othersSeen_L1] at hg
      refine lv_iload hx hb dX0_othersSeen_11 (lv_at hl 0 rfl) ?_
      refine lv_aload_n hx hb dX0_othersSeen_13 rfl (lv_at hl 3 rfl) ?_
      refine lv_iconst (v := 0) hx hb dX0_othersSeen_14 (by decide) ?_
      obtain ⟨v4, hq, hg⟩ := bind_ex hg
      refine callRVi (As := [.int 0]) (rest := [.int v3]) S hK hP (c_X0_number l D cI cZ cB cJ A_t A_t_numbers A_t_owners A_t_cells V_t_numbers 0 v4 hq) [0, 1] rfl (cwV 1 hts gX0_othersSeen_X0_number rfl rfl rfl hd_X0_number ⟨Nat.le_of_ble_eq_true rfl, Nat.le_of_ble_eq_true rfl⟩) rfl rfl rfl hl.1 rfl (Nat.le_of_ble_eq_true rfl) dX0_othersSeen_15 ⟨Nat.zero_le _, Nat.zero_le _⟩ ?_
      refine lv_icmp_ge (tgt := 68) hx hb dX0_othersSeen_18 (by decide) (fun hc => ?_) (fun hc => ?_)
      · replace hg := if_yes hg hc
        cases hg
        exact kx _ (lv_sub hl [1] rfl)
      · replace hg := if_no hg hc
        refine lv_aload_n hx hb dX0_othersSeen_21 rfl (lv_at hl 3 rfl) ?_
        refine lv_iload hx hb dX0_othersSeen_22 (lv_at hl 0 rfl) ?_
        refine lv_iconst (v := 0) hx hb dX0_othersSeen_24 (by decide) ?_
        obtain ⟨v5, hq, hg⟩ := bind_ex hg
        refine callRVi (As := [.int v3, .int 0]) (rest := []) S hK hP (c_X0_of l D cI cZ cB cJ A_t A_t_numbers A_t_owners A_t_cells V_t_cells v3 0 v5 hq) [0, 2] rfl (cwV 2 hts gX0_othersSeen_X0_of rfl rfl rfl hd_X0_of ⟨Nat.le_of_ble_eq_true rfl, Nat.le_of_ble_eq_true rfl⟩) rfl rfl rfl hl.1 rfl (Nat.le_of_ble_eq_true rfl) dX0_othersSeen_25 ⟨Nat.zero_le _, Nat.zero_le _⟩ ?_
        refine lv_iload_n hx hb dX0_othersSeen_28 rfl (lv_at hl 4 rfl) ?_
        have hJ1 : ∀ (v6 : Int32), bo v6 → ∀ ls : Array Slot, lv_has ls 6 [(4, .int v3), (3, .int v2), (2, .int v1), (0, .ref A_t), (1, .int x1)] → g_X0_othersSeen_J1 v2 v3 V_t_cells v1 (g_X0_othersSeen_L1 V_t_numbers V_t_cells x1 v1 nf) v6 = some v8 → W p l e rX0_othersSeen s m args below meth c s.heap [] 0 0 Q (F0 m 37 ls [.int v6]) := by
          intro v6 hz_v6 ls hl hg
          unfold g_X0_othersSeen_J1 at hg
          refine lv_istore (lv' := [(5, .int v6), (4, .int v3), (3, .int v2), (2, .int v1), (0, .ref A_t), (1, .int x1)]) hx hb dX0_othersSeen_37 hl (by decide) rfl (fun ls hl => ?_)
          refine lv_iload_n hx hb dX0_othersSeen_39 rfl (lv_at hl 2 rfl) ?_
          refine lv_iload hx hb dX0_othersSeen_40 (lv_at hl 0 rfl) ?_
          refine lv_if_eq (tgt := 59) hx hb dX0_othersSeen_42 (by decide) (fun hc => ?_) (fun hc => ?_)
          · replace hg := if_yes hg hc
            refine lv_iconst (v := 0) hx hb dX0_othersSeen_59 (by decide) ?_
            refine lv_iadd hx hb dX0_othersSeen_60 ?_
            refine lv_istore_n (lv' := [(3, .int (v2 + 0)), (5, .int v6), (4, .int v3), (2, .int v1), (0, .ref A_t), (1, .int x1)]) hx hb dX0_othersSeen_61 rfl hl (by decide) rfl (fun ls hl => ?_)
            refine lv_iinc (v := (v3 + 1)) (lv' := [(4, .int (v3 + 1)), (3, .int (v2 + 0)), (5, .int v6), (2, .int v1), (0, .ref A_t), (1, .int x1)]) hx hb dX0_othersSeen_62 hl (k := 2) rfl rfl (by decide) rfl (fun ls hl => ?_)
            refine lv_goto (tgt := 11) hx hb dX0_othersSeen_65 (by decide) ?_
            exact ih _ _ _ (lv_sub hl [0, 1, 3, 4, 5] rfl) hg
          · replace hg := if_no hg hc
            refine lv_iload_n hx hb dX0_othersSeen_45 rfl (lv_at hl 3 rfl) ?_
            refine lv_aload_n hx hb dX0_othersSeen_46 rfl (lv_at hl 4 rfl) ?_
            refine lv_iload hx hb dX0_othersSeen_47 (lv_at hl 1 rfl) ?_
            refine lv_iconst (v := 1) hx hb dX0_othersSeen_49 (by decide) ?_
            obtain ⟨v7, hq, hg⟩ := bind_ex hg
            refine callRVi (As := [.int v3, .int 1]) (rest := [.int v1, .int v2]) S hK hP (c_X0_of l D cI cZ cB cJ A_t A_t_numbers A_t_owners A_t_cells V_t_cells v3 1 v7 hq) [0, 2] rfl (cwV 2 hts gX0_othersSeen_X0_of rfl rfl rfl hd_X0_of ⟨Nat.le_of_ble_eq_true rfl, Nat.le_of_ble_eq_true rfl⟩) rfl rfl rfl hl.1 rfl (Nat.le_of_ble_eq_true rfl) dX0_othersSeen_50 ⟨Nat.zero_le _, Nat.zero_le _⟩ ?_
            refine lv_ishr hx hb dX0_othersSeen_53 ?_
            refine lv_iconst (v := 1) hx hb dX0_othersSeen_54 (by decide) ?_
            refine lv_iand hx hb dX0_othersSeen_55 ?_
            refine lv_goto (tgt := 60) hx hb dX0_othersSeen_56 (by decide) ?_
            refine lv_iadd hx hb dX0_othersSeen_60 ?_
            refine lv_istore_n (lv' := [(3, .int (v2 + ((v1 >>> (v7 &&& 31)) &&& 1))), (5, .int v6), (4, .int v3), (2, .int v1), (0, .ref A_t), (1, .int x1)]) hx hb dX0_othersSeen_61 rfl hl (by decide) rfl (fun ls hl => ?_)
            refine lv_iinc (v := (v3 + 1)) (lv' := [(4, .int (v3 + 1)), (3, .int (v2 + ((v1 >>> (v7 &&& 31)) &&& 1))), (5, .int v6), (2, .int v1), (0, .ref A_t), (1, .int x1)]) hx hb dX0_othersSeen_62 hl (k := 2) rfl rfl (by decide) rfl (fun ls hl => ?_)
            refine lv_goto (tgt := 11) hx hb dX0_othersSeen_65 (by decide) ?_
            exact ih _ _ _ (lv_sub hl [0, 1, 3, 4, 5] rfl) hg
        refine lv_icmp_eq (tgt := 36) hx hb dX0_othersSeen_29 (by decide) (fun hc => ?_) (fun hc => ?_)
        · replace hg := if_yes hg hc
          refine lv_iconst (v := 0) hx hb dX0_othersSeen_36 (by decide) ?_
          exact hJ1 _ bo_0 _ (lv_sub hl [0, 1, 2, 3, 4] rfl) hg
        · replace hg := if_no hg hc
          refine lv_iconst (v := 1) hx hb dX0_othersSeen_32 (by decide) ?_
          refine lv_goto (tgt := 37) hx hb dX0_othersSeen_33 (by decide) ?_
          exact hJ1 _ bo_1 _ (lv_sub hl [0, 1, 2, 3, 4] rfl) hg
  exact L FU _ _ _ (lv_sub hl [0, 1, 2, 3, 4] rfl) hL
theorem hd_X4_isCentre : yX4_isCentre.cls ≠ "java/lang/invoke/MethodHandle" ∧ yX4_isCentre.cls ≠ "java/lang/invoke/VarHandle" ∧ (parseMethodDescriptor yX4_isCentre.desc).map (fun d => d.parameters.length) = some 1 := by decide +kernel
abbrev rX4_isCentre : Room := { frames := 0, cells := 0, slots := 0, locals := 0 }
set_option maxHeartbeats 4000000 in
set_option maxRecDepth 100000 in
theorem c_X4_isCentre (l : Launch) (D : va_G) (cI cZ cB cJ : ClassId) (x1 : Int32) (r0 : Int32) (hg : g_X4_isCentre x1 = some r0) : Met l yX4_isCentre wsX4_isCentre rX4_isCentre (PcR D cI cZ cB cJ [] [.int x1]) (vp_Si (fun r' => r' = r0 ∧ bo r0)) 0 0 (fun _ => False) := by
  refine bodyRz (cc := cX4_isCentre) (maxL := 1) (lv := [(0, .int x1)]) (by decide) rfl (Nat.le_of_ble_eq_true rfl) rfl ?_
  intro p e s m args below meth c Q hx hb hml hown hts hP hK fin ls hl
  replace hown : s.vm.findClass RX4 = some m.cls := hown
  have S : CallFix p m c cX4_isCentre 1 s args wsX4_isCentre RX4 := ⟨hx, hb, hml, hown, hts⟩
  unfold g_X4_isCentre at hg
  refine lv_iload_n hx hb dX4_isCentre_0 rfl (lv_at hl 0 rfl) ?_
  refine lv_if_eq (tgt := 21) hx hb dX4_isCentre_1 (by decide) (fun hc => ?_) (fun hc => ?_)
  · replace hg := if_yes hg hc
    refine lv_iconst (v := 1) hx hb dX4_isCentre_21 (by decide) ?_
    refine lv_goto (tgt := 26) hx hb dX4_isCentre_22 (by decide) ?_
    cases hg
    exact fin _ _ bo_1 dX4_isCentre_26
  · replace hg := if_no hg hc
    refine lv_iload_n hx hb dX4_isCentre_4 rfl (lv_at hl 0 rfl) ?_
    refine lv_iconst (v := 3) hx hb dX4_isCentre_5 (by decide) ?_
    refine lv_icmp_eq (tgt := 21) hx hb dX4_isCentre_6 (by decide) (fun hc => ?_) (fun hc => ?_)
    · replace hg := if_yes hg hc
      refine lv_iconst (v := 1) hx hb dX4_isCentre_21 (by decide) ?_
      refine lv_goto (tgt := 26) hx hb dX4_isCentre_22 (by decide) ?_
      cases hg
      exact fin _ _ bo_1 dX4_isCentre_26
    · replace hg := if_no hg hc
      refine lv_iload_n hx hb dX4_isCentre_9 rfl (lv_at hl 0 rfl) ?_
      refine lv_bipush (v := 6) hx hb dX4_isCentre_10 (by decide) ?_
      refine lv_icmp_eq (tgt := 21) hx hb dX4_isCentre_12 (by decide) (fun hc => ?_) (fun hc => ?_)
      · replace hg := if_yes hg hc
        refine lv_iconst (v := 1) hx hb dX4_isCentre_21 (by decide) ?_
        refine lv_goto (tgt := 26) hx hb dX4_isCentre_22 (by decide) ?_
        cases hg
        exact fin _ _ bo_1 dX4_isCentre_26
      · replace hg := if_no hg hc
        refine lv_iload_n hx hb dX4_isCentre_15 rfl (lv_at hl 0 rfl) ?_
        refine lv_bipush (v := 9) hx hb dX4_isCentre_16 (by decide) ?_
        refine lv_icmp_ne (tgt := 25) hx hb dX4_isCentre_18 (by decide) (fun hc => ?_) (fun hc => ?_)
        · replace hg := if_no hg hc
          refine lv_iconst (v := 0) hx hb dX4_isCentre_25 (by decide) ?_
          cases hg
          exact fin _ _ bo_0 dX4_isCentre_26
        · replace hg := if_yes hg hc
          refine lv_iconst (v := 1) hx hb dX4_isCentre_21 (by decide) ?_
          refine lv_goto (tgt := 26) hx hb dX4_isCentre_22 (by decide) ?_
          cases hg
          exact fin _ _ bo_1 dX4_isCentre_26
theorem hd_X0_claimCentres : yX0_claimCentres.cls = RX0 ∧ yX0_claimCentres.cls ≠ "java/lang/invoke/MethodHandle" ∧ yX0_claimCentres.cls ≠ "java/lang/invoke/VarHandle" ∧ (parseMethodDescriptor yX0_claimCentres.desc).map (fun d => d.parameters.length) = some 0 := by decide +kernel
theorem wd_X0_claimCentres_14 : Cond.initialized RX4 ∈ wsX0_claimCentres := List.mem_of_getElem? (i := 14) rfl
theorem wd_X0_claimCentres_13 : Cond.static yX4_isCentre ∈ wsX0_claimCentres := List.mem_of_getElem? (i := 13) rfl
theorem in_X0_claimCentres_X0 : ∀ w ∈ u_ws RX0 TX0 3, w ∈ wsX0_claimCentres := fun _ h => List.mem_cons_of_mem _ (List.mem_append_right _ h)
theorem wd_X0_claimCentres_1 : Cond.fieldLink RX0 15 "FogOrders$Board" "owners" "[I" ∈ wsX0_claimCentres := List.mem_of_getElem? (i := 1) rfl
theorem wd_X0_claimCentres_16 : Cond.static yX4_enter ∈ wsX0_claimCentres := List.mem_of_getElem? (i := 16) rfl
abbrev rX0_claimCentres : Room := { frames := 1, cells := 0, slots := 0, locals := 23 }
set_option maxHeartbeats 4000000 in
set_option maxRecDepth 100000 in
theorem c_X0_claimCentres (l : Launch) (D : va_G) (cI cZ cB cJ : ClassId) (A_t : Nat) (A_t_numbers : Nat) (A_t_owners : Nat) (A_t_cells : Nat) (sz : Nat) (V_t_numbers : Nat → Int32) (V_t_cells : Nat → Int32) (V_t_owners : Nat → Int32) (w1 : Nat → Int32) (hg : g_X0_claimCentres V_t_numbers V_t_cells V_t_owners = some w1) : Met l yX0_claimCentres wsX0_claimCentres rX0_claimCentres (PcW D cI cZ cB cJ sz [(A_t, .inr (0, [.ref A_t_numbers, .ref A_t_owners, .ref A_t_cells])), (A_t_numbers, .inl (cI, 10, .inl V_t_numbers)), (A_t_cells, .inl (cI, 63, .inl V_t_cells)), (A_t_owners, .inl (cI, 12, .inl V_t_owners))] [.ref A_t]) (QWv D cI cZ cB cJ sz [(A_t, .inr (0, [.ref A_t_numbers, .ref A_t_owners, .ref A_t_cells])), (A_t_numbers, .inl (cI, 10, .inl V_t_numbers)), (A_t_cells, .inl (cI, 63, .inl V_t_cells)), (A_t_owners, .inl (cI, 12, .inl V_t_owners))] [(A_t, .inr (0, [.ref A_t_numbers, .ref A_t_owners, .ref A_t_cells])), (A_t_numbers, .inl (cI, 10, .inl V_t_numbers)), (A_t_cells, .inl (cI, 63, .inl V_t_cells)), (A_t_owners, .inl (cI, 12, .inl w1))]) 0 0 (va_A [(A_t, .inr (0, [.ref A_t_numbers, .ref A_t_owners, .ref A_t_cells])), (A_t_numbers, .inl (cI, 10, .inl V_t_numbers)), (A_t_cells, .inl (cI, 63, .inl V_t_cells)), (A_t_owners, .inl (cI, 12, .inl V_t_owners))] sz) := by
  refine bodyWv (cc := cX0_claimCentres) (maxL := 2) (lv := [(0, .ref A_t)]) (by decide) rfl (Nat.le_of_ble_eq_true rfl) rfl ?_
  intro p e s m args below meth c Q hx hb hml hown hts A hP hK hD hA hS fin ls hl
  replace hown : s.vm.findClass RX0 = some m.cls := hown
  have S : CallFix p m c cX0_claimCentres 2 s args wsX0_claimCentres RX0 := ⟨hx, hb, hml, hown, hts⟩
  unfold g_X0_claimCentres at hg
  refine lv_iconst (v := 0) hx hb dX0_claimCentres_0 (by decide) ?_
  refine lv_istore_n (lv' := [(1, .int 0), (0, .ref A_t)]) hx hb dX0_claimCentres_1 rfl hl (by decide) rfl (fun ls hl => ?_)
  obtain ⟨f9, hL, hg⟩ := bind_ex hg
  have kx : ∀ (H : Heap) (locs : List Loc), va_P D vwCl [(A_t, .inr (0, [.ref A_t_numbers, .ref A_t_owners, .ref A_t_cells])), (A_t_numbers, .inl (cI, 10, .inl V_t_numbers)), (A_t_cells, .inl (cI, 63, .inl V_t_cells)), (A_t_owners, .inl (cI, 12, .inl f9))] H → va_D A [(A_t, .inr (0, [.ref A_t_numbers, .ref A_t_owners, .ref A_t_cells])), (A_t_numbers, .inl (cI, 10, .inl V_t_numbers)), (A_t_cells, .inl (cI, 63, .inl V_t_cells)), (A_t_owners, .inl (cI, 12, .inl f9))] → va_S A s.heap H locs → ∀ ls : Array Slot, lv_has ls 2 [] → W p l e rX0_claimCentres s m args below meth c H locs 0 0 Q (F0 m 48 ls []) := by
    intro H locs hP hD hS ls hl
    cases hg
    exact fin _ _ _ _ dX0_claimCentres_48 hP hD hS
  have L : ∀ (nf : Nat) (v1 : Int32) (f2 : Nat → Int32), ∀ (H : Heap) (locs : List Loc), va_P D vwCl [(A_t, .inr (0, [.ref A_t_numbers, .ref A_t_owners, .ref A_t_cells])), (A_t_numbers, .inl (cI, 10, .inl V_t_numbers)), (A_t_cells, .inl (cI, 63, .inl V_t_cells)), (A_t_owners, .inl (cI, 12, .inl f2))] H → va_D A [(A_t, .inr (0, [.ref A_t_numbers, .ref A_t_owners, .ref A_t_cells])), (A_t_numbers, .inl (cI, 10, .inl V_t_numbers)), (A_t_cells, .inl (cI, 63, .inl V_t_cells)), (A_t_owners, .inl (cI, 12, .inl f2))] → va_S A s.heap H locs → ∀ ls : Array Slot, lv_has ls 2 [(1, .int v1), (0, .ref A_t)] → g_X0_claimCentres_L1 V_t_numbers V_t_cells nf v1 f2 = some f9 → W p l e rX0_claimCentres s m args below meth c H locs 0 0 Q (F0 m 2 ls []) := by
    intro nf
    induction nf with
    | zero =>
      intro v1 f2 H locs hP hD hS ls hl hg
      exact no_some hg
    | succ nf ih =>
      intro v1 f2 H locs hP hD hS ls hl hg
      rw [g_X0_claimCentres_L1] at hg
      refine lv_iload_n hx hb dX0_claimCentres_2 rfl (lv_at hl 0 rfl) ?_
      refine lv_aload_n hx hb dX0_claimCentres_3 rfl (lv_at hl 1 rfl) ?_
      refine lv_iconst (v := 0) hx hb dX0_claimCentres_4 (by decide) ?_
      obtain ⟨v3, hq, hg⟩ := bind_ex hg
      refine callRVi (As := [.int 0]) (rest := [.int v1]) S hK hP (c_X0_number l D cI cZ cB cJ A_t A_t_numbers A_t_owners A_t_cells V_t_numbers 0 v3 hq) [0, 1] rfl (cwV 1 hts gX0_claimCentres_X0_number rfl rfl rfl hd_X0_number ⟨Nat.le_of_ble_eq_true rfl, Nat.le_of_ble_eq_true rfl⟩) rfl rfl rfl hl.1 rfl (Nat.le_of_ble_eq_true rfl) dX0_claimCentres_5 ⟨Nat.zero_le _, Nat.zero_le _⟩ ?_
      refine lv_icmp_ge (tgt := 48) hx hb dX0_claimCentres_8 (by decide) (fun hc => ?_) (fun hc => ?_)
      · replace hg := if_yes hg hc
        cases hg
        exact kx _ _ hP hD hS _ (lv_sub hl [] rfl)
      · replace hg := if_no hg hc
        refine lv_aload_n hx hb dX0_claimCentres_11 rfl (lv_at hl 1 rfl) ?_
        refine lv_iload_n hx hb dX0_claimCentres_12 rfl (lv_at hl 0 rfl) ?_
        refine lv_iconst (v := 1) hx hb dX0_claimCentres_13 (by decide) ?_
        obtain ⟨v4, hq, hg⟩ := bind_ex hg
        refine callRVi (As := [.int v1, .int 1]) (rest := []) S hK hP (c_X0_of l D cI cZ cB cJ A_t A_t_numbers A_t_owners A_t_cells V_t_cells v1 1 v4 hq) [0, 2] rfl (cwV 2 hts gX0_claimCentres_X0_of rfl rfl rfl hd_X0_of ⟨Nat.le_of_ble_eq_true rfl, Nat.le_of_ble_eq_true rfl⟩) rfl rfl rfl hl.1 rfl (Nat.le_of_ble_eq_true rfl) dX0_claimCentres_14 ⟨Nat.zero_le _, Nat.zero_le _⟩ ?_
        obtain ⟨v5, hq, hg⟩ := bind_ex hg
        refine callRNz (As := [.int v4]) (rest := []) S hK hP (c_X4_isCentre l D cI cZ cB cJ v4 v5 hq) [] rfl ⟨va_cnB 1 hts gX0_claimCentres_X4_isCentre_n89 rfl rfl rfl (hK.2 _ (List.mem_of_getElem? (i := 9) rfl)) (hts _ wd_X0_claimCentres_14) hd_X4_isCentre ⟨Nat.le_of_ble_eq_true rfl, Nat.le_of_ble_eq_true rfl⟩, hts _ wd_X0_claimCentres_13, trivial⟩ rfl hl.1 rfl (Nat.le_of_ble_eq_true rfl) dX0_claimCentres_17 ⟨Nat.zero_le _, Nat.zero_le _⟩ (fun hz_v5 => ?_)
        refine lv_if_eq (tgt := 42) hx hb dX0_claimCentres_20 (by decide) (fun hc => ?_) (fun hc => ?_)
        · replace hg := if_yes hg hc
          refine lv_iinc (v := (v1 + 1)) (lv' := [(1, .int (v1 + 1)), (0, .ref A_t)]) hx hb dX0_claimCentres_42 hl (k := 0) rfl rfl (by decide) rfl (fun ls hl => ?_)
          refine lv_goto (tgt := 2) hx hb dX0_claimCentres_45 (by decide) ?_
          exact ih _ _ _ _ hP hD hS _ (lv_sub hl [0, 1] rfl) hg
        · replace hg := if_no hg hc
          refine lv_aload_n hx hb dX0_claimCentres_23 rfl (lv_at hl 1 rfl) ?_
          refine xget (ci := 0) (C := RX0) (T := TX0) (N := 3) (v := .ref A_t_owners) hx hb hts in_X0_claimCentres_X0 hown hK hP 0 rfl rfl 1 (by decide) wd_X0_claimCentres_1 rfl dX0_claimCentres_24 ?_
          refine lv_aload_n hx hb dX0_claimCentres_27 rfl (lv_at hl 1 rfl) ?_
          refine lv_iload_n hx hb dX0_claimCentres_28 rfl (lv_at hl 0 rfl) ?_
          refine lv_iconst (v := 1) hx hb dX0_claimCentres_29 (by decide) ?_
          obtain ⟨v6, hq, hg⟩ := bind_ex hg
          refine callRVi (As := [.int v1, .int 1]) (rest := [.ref A_t_owners]) S hK hP (c_X0_of l D cI cZ cB cJ A_t A_t_numbers A_t_owners A_t_cells V_t_cells v1 1 v6 hq) [0, 2] rfl (cwV 2 hts gX0_claimCentres_X0_of rfl rfl rfl hd_X0_of ⟨Nat.le_of_ble_eq_true rfl, Nat.le_of_ble_eq_true rfl⟩) rfl rfl rfl hl.1 rfl (Nat.le_of_ble_eq_true rfl) dX0_claimCentres_30 ⟨Nat.zero_le _, Nat.zero_le _⟩ ?_
          refine lv_aload_n hx hb dX0_claimCentres_33 rfl (lv_at hl 1 rfl) ?_
          refine lv_iload_n hx hb dX0_claimCentres_34 rfl (lv_at hl 0 rfl) ?_
          refine lv_iconst (v := 0) hx hb dX0_claimCentres_35 (by decide) ?_
          obtain ⟨v7, hq, hg⟩ := bind_ex hg
          refine callRVi (As := [.int v1, .int 0]) (rest := [.int v6, .ref A_t_owners]) S hK hP (c_X0_of l D cI cZ cB cJ A_t A_t_numbers A_t_owners A_t_cells V_t_cells v1 0 v7 hq) [0, 2] rfl (cwV 2 hts gX0_claimCentres_X0_of rfl rfl rfl hd_X0_of ⟨Nat.le_of_ble_eq_true rfl, Nat.le_of_ble_eq_true rfl⟩) rfl rfl rfl hl.1 rfl (Nat.le_of_ble_eq_true rfl) dX0_claimCentres_36 ⟨Nat.zero_le _, Nat.zero_le _⟩ ?_
          obtain ⟨f8, hq, hg⟩ := bind_ex hg
          refine callWNv (As := [.ref A_t_owners, .int v6, .int v7]) (rest := []) (wr := [(A_t, .inr (0, [.ref A_t_numbers, .ref A_t_owners, .ref A_t_cells])), (A_t_numbers, .inl (cI, 10, .inl V_t_numbers)), (A_t_cells, .inl (cI, 63, .inl V_t_cells))]) S hK hP hD hS hA (c_X4_enter l D cI cZ cB cJ A_t_owners 12 _ f2 v6 v7 f8 hq) [3] [0, 1, 2] rfl rfl (by decide +kernel) (by decide +kernel) (by decide +kernel) ⟨va_cnB 3 hts gX0_claimCentres_X4_enter_n37 rfl rfl rfl (hK.2 _ (List.mem_of_getElem? (i := 4) rfl)) (hts _ wd_X0_claimCentres_14) hd_X4_enter ⟨Nat.le_of_ble_eq_true rfl, Nat.le_of_ble_eq_true rfl⟩, hts _ wd_X0_claimCentres_16, trivial⟩ rfl hl.1 rfl (Nat.le_of_ble_eq_true rfl) dX0_claimCentres_39 ⟨Nat.zero_le _, Nat.zero_le _⟩ (fun H locs hP hD hS => ?_)
          replace hP : va_P D vwCl [(A_t, .inr (0, [.ref A_t_numbers, .ref A_t_owners, .ref A_t_cells])), (A_t_numbers, .inl (cI, 10, .inl V_t_numbers)), (A_t_cells, .inl (cI, 63, .inl V_t_cells)), (A_t_owners, .inl (cI, 12, .inl f8))] H := hP
          replace hD : va_D A [(A_t, .inr (0, [.ref A_t_numbers, .ref A_t_owners, .ref A_t_cells])), (A_t_numbers, .inl (cI, 10, .inl V_t_numbers)), (A_t_cells, .inl (cI, 63, .inl V_t_cells)), (A_t_owners, .inl (cI, 12, .inl f8))] := hD
          refine lv_iinc (v := (v1 + 1)) (lv' := [(1, .int (v1 + 1)), (0, .ref A_t)]) hx hb dX0_claimCentres_42 hl (k := 0) rfl rfl (by decide) rfl (fun ls hl => ?_)
          refine lv_goto (tgt := 2) hx hb dX0_claimCentres_45 (by decide) ?_
          exact ih _ _ _ _ hP hD hS _ (lv_sub hl [0, 1] rfl) hg
  exact L FU _ _ _ _ hP hD hS _ (lv_sub hl [0, 1] rfl) hL
theorem hd_X0_takeOff : yX0_takeOff.cls = RX0 ∧ yX0_takeOff.cls ≠ "java/lang/invoke/MethodHandle" ∧ yX0_takeOff.cls ≠ "java/lang/invoke/VarHandle" ∧ (parseMethodDescriptor yX0_takeOff.desc).map (fun d => d.parameters.length) = some 2 := by decide +kernel
abbrev rX0_takeOff : Room := { frames := 2, cells := 0, slots := 0, locals := 47 }
set_option maxHeartbeats 4000000 in
set_option maxRecDepth 100000 in
theorem c_X0_takeOff (l : Launch) (D : va_G) (cI cZ cB cJ : ClassId) (A_t : Nat) (A_t_numbers : Nat) (A_t_owners : Nat) (A_t_cells : Nat) (sz : Nat) (V_t_numbers : Nat → Int32) (V_t_cells : Nat → Int32) (x1 : Int32) (x2 : Int32) (w1 : Nat → Int32) (w2 : Nat → Int32) (hg : g_X0_takeOff V_t_numbers V_t_cells x1 x2 = some (w1, w2)) : Met l yX0_takeOff wsX0_takeOff rX0_takeOff (PcW D cI cZ cB cJ sz [(A_t, .inr (0, [.ref A_t_numbers, .ref A_t_owners, .ref A_t_cells])), (A_t_numbers, .inl (cI, 10, .inl V_t_numbers)), (A_t_cells, .inl (cI, 63, .inl V_t_cells))] [.ref A_t, .int x1, .int x2]) (QWv D cI cZ cB cJ sz [(A_t, .inr (0, [.ref A_t_numbers, .ref A_t_owners, .ref A_t_cells])), (A_t_numbers, .inl (cI, 10, .inl V_t_numbers)), (A_t_cells, .inl (cI, 63, .inl V_t_cells))] [(A_t, .inr (0, [.ref A_t_numbers, .ref A_t_owners, .ref A_t_cells])), (A_t_numbers, .inl (cI, 10, .inl w1)), (A_t_cells, .inl (cI, 63, .inl w2))]) 0 0 (va_A [(A_t, .inr (0, [.ref A_t_numbers, .ref A_t_owners, .ref A_t_cells])), (A_t_numbers, .inl (cI, 10, .inl V_t_numbers)), (A_t_cells, .inl (cI, 63, .inl V_t_cells))] sz) := by
  refine bodyWv (cc := cX0_takeOff) (maxL := 5) (lv := [(0, .ref A_t), (1, .int x1), (2, .int x2)]) (by decide) rfl (Nat.le_of_ble_eq_true rfl) rfl ?_
  intro p e s m args below meth c Q hx hb hml hown hts A hP hK hD hA hS fin ls hl
  replace hown : s.vm.findClass RX0 = some m.cls := hown
  have S : CallFix p m c cX0_takeOff 5 s args wsX0_takeOff RX0 := ⟨hx, hb, hml, hown, hts⟩
  unfold g_X0_takeOff at hg
  refine lv_iload_n hx hb dX0_takeOff_0 rfl (lv_at hl 2 rfl) ?_
  refine lv_istore_n (lv' := [(3, .int x2), (0, .ref A_t), (1, .int x1), (2, .int x2)]) hx hb dX0_takeOff_1 rfl hl (by decide) rfl (fun ls hl => ?_)
  refine lv_aload_n hx hb dX0_takeOff_2 rfl (lv_at hl 1 rfl) ?_
  refine lv_iconst (v := 0) hx hb dX0_takeOff_3 (by decide) ?_
  obtain ⟨v1, hq, hg⟩ := bind_ex hg
  refine callRVi (As := [.int 0]) (rest := []) S hK hP (c_X0_number l D cI cZ cB cJ A_t A_t_numbers A_t_owners A_t_cells V_t_numbers 0 v1 hq) [0, 1] rfl (cwV 1 hts gX0_takeOff_X0_number rfl rfl rfl hd_X0_number ⟨Nat.le_of_ble_eq_true rfl, Nat.le_of_ble_eq_true rfl⟩) rfl rfl rfl hl.1 rfl (Nat.le_of_ble_eq_true rfl) dX0_takeOff_4 ⟨Nat.zero_le _, Nat.zero_le _⟩ ?_
  refine lv_iconst (v := 1) hx hb dX0_takeOff_7 (by decide) ?_
  refine lv_isub hx hb dX0_takeOff_8 ?_
  refine lv_istore (lv' := [(4, .int (v1 - 1)), (3, .int x2), (0, .ref A_t), (1, .int x1), (2, .int x2)]) hx hb dX0_takeOff_9 hl (by decide) rfl (fun ls hl => ?_)
  obtain ⟨f10, f11, hL, hg⟩ := b2_ex hg
  have kx : ∀ (H : Heap) (locs : List Loc), va_P D vwCl [(A_t, .inr (0, [.ref A_t_numbers, .ref A_t_owners, .ref A_t_cells])), (A_t_numbers, .inl (cI, 10, .inl f11)), (A_t_cells, .inl (cI, 63, .inl f10))] H → va_D A [(A_t, .inr (0, [.ref A_t_numbers, .ref A_t_owners, .ref A_t_cells])), (A_t_numbers, .inl (cI, 10, .inl f11)), (A_t_cells, .inl (cI, 63, .inl f10))] → va_S A s.heap H locs → ∀ ls : Array Slot, lv_has ls 5 [] → W p l e rX0_takeOff s m args below meth c H locs 0 0 Q (F0 m 52 ls []) := by
    intro H locs hP hD hS ls hl
    cases hg
    exact fin _ _ _ _ dX0_takeOff_52 hP hD hS
  have L : ∀ (nf : Nat) (v2 : Int32) (v3 : Int32) (f4 : Nat → Int32) (f5 : Nat → Int32), ∀ (H : Heap) (locs : List Loc), va_P D vwCl [(A_t, .inr (0, [.ref A_t_numbers, .ref A_t_owners, .ref A_t_cells])), (A_t_numbers, .inl (cI, 10, .inl f5)), (A_t_cells, .inl (cI, 63, .inl f4))] H → va_D A [(A_t, .inr (0, [.ref A_t_numbers, .ref A_t_owners, .ref A_t_cells])), (A_t_numbers, .inl (cI, 10, .inl f5)), (A_t_cells, .inl (cI, 63, .inl f4))] → va_S A s.heap H locs → ∀ ls : Array Slot, lv_has ls 5 [(4, .int v3), (3, .int v2), (0, .ref A_t), (1, .int x1)] → g_X0_takeOff_L1 x1 nf v2 v3 f4 f5 = some (f10, f11) → W p l e rX0_takeOff s m args below meth c H locs 0 0 Q (F0 m 11 ls []) := by
    intro nf
    induction nf with
    | zero =>
      intro v2 v3 f4 f5 H locs hP hD hS ls hl hg
      exact no_some hg
    | succ nf ih =>
      intro v2 v3 f4 f5 H locs hP hD hS ls hl hg
      rw [g_X0_takeOff_L1] at hg
      refine lv_iload hx hb dX0_takeOff_11 (lv_at hl 0 rfl) ?_
      refine lv_if_lt (tgt := 52) hx hb dX0_takeOff_13 (by decide) (fun hc => ?_) (fun hc => ?_)
      · replace hg := if_yes hg hc
        cases hg
        exact kx _ _ hP hD hS _ (lv_sub hl [] rfl)
      · replace hg := if_no hg hc
        refine lv_iload_n hx hb dX0_takeOff_16 rfl (lv_at hl 1 rfl) ?_
        refine lv_if_le (tgt := 52) hx hb dX0_takeOff_17 (by decide) (fun hc => ?_) (fun hc => ?_)
        · replace hg := if_yes hg hc
          cases hg
          exact kx _ _ hP hD hS _ (lv_sub hl [] rfl)
        · replace hg := if_no hg hc
          refine lv_aload_n hx hb dX0_takeOff_20 rfl (lv_at hl 2 rfl) ?_
          refine lv_iload hx hb dX0_takeOff_21 (lv_at hl 0 rfl) ?_
          refine lv_iconst (v := 0) hx hb dX0_takeOff_23 (by decide) ?_
          obtain ⟨v6, hq, hg⟩ := bind_ex hg
          refine callRVi (As := [.int v3, .int 0]) (rest := []) S hK hP (c_X0_of l D cI cZ cB cJ A_t A_t_numbers A_t_owners A_t_cells f4 v3 0 v6 hq) [0, 2] rfl (cwV 2 hts gX0_takeOff_X0_of rfl rfl rfl hd_X0_of ⟨Nat.le_of_ble_eq_true rfl, Nat.le_of_ble_eq_true rfl⟩) rfl rfl rfl hl.1 rfl (Nat.le_of_ble_eq_true rfl) dX0_takeOff_24 ⟨Nat.zero_le _, Nat.zero_le _⟩ ?_
          refine lv_iload_n hx hb dX0_takeOff_27 rfl (lv_at hl 3 rfl) ?_
          refine lv_icmp_ne (tgt := 46) hx hb dX0_takeOff_28 (by decide) (fun hc => ?_) (fun hc => ?_)
          · replace hg := if_no hg hc
            refine lv_iinc (v := (v3 + (-1))) (lv' := [(4, .int (v3 + (-1))), (3, .int v2), (0, .ref A_t), (1, .int x1)]) hx hb dX0_takeOff_46 hl (k := 0) rfl rfl (by decide) rfl (fun ls hl => ?_)
            refine lv_goto (tgt := 11) hx hb dX0_takeOff_49 (by decide) ?_
            exact ih _ _ _ _ _ _ hP hD hS _ (lv_sub hl [0, 1, 2, 3] rfl) hg
          · replace hg := if_yes hg hc
            refine lv_aload_n hx hb dX0_takeOff_31 rfl (lv_at hl 2 rfl) ?_
            refine lv_iload hx hb dX0_takeOff_32 (lv_at hl 0 rfl) ?_
            obtain ⟨f7, f8, hq, hg⟩ := b2_ex hg
            refine callWVv (As := [.int v3]) (rest := []) (wr := []) S hK hP hD hS hA (c_X0_remove l D cI cZ cB cJ A_t A_t_numbers A_t_owners A_t_cells _ f5 f4 v3 f7 f8 hq) [0, 1, 2] [] rfl rfl (by decide +kernel) (by decide +kernel) (by decide +kernel) (cwV 1 hts gX0_takeOff_X0_remove rfl rfl rfl hd_X0_remove ⟨Nat.le_of_ble_eq_true rfl, Nat.le_of_ble_eq_true rfl⟩) rfl rfl rfl hl.1 rfl (Nat.le_of_ble_eq_true rfl) dX0_takeOff_34 ⟨Nat.zero_le _, Nat.zero_le _⟩ (fun H locs hP hD hS => ?_)
            replace hP : va_P D vwCl [(A_t, .inr (0, [.ref A_t_numbers, .ref A_t_owners, .ref A_t_cells])), (A_t_numbers, .inl (cI, 10, .inl f7)), (A_t_cells, .inl (cI, 63, .inl f8))] H := hP
            replace hD : va_D A [(A_t, .inr (0, [.ref A_t_numbers, .ref A_t_owners, .ref A_t_cells])), (A_t_numbers, .inl (cI, 10, .inl f7)), (A_t_cells, .inl (cI, 63, .inl f8))] := hD
            refine lv_aload_n hx hb dX0_takeOff_37 rfl (lv_at hl 2 rfl) ?_
            refine lv_bipush (v := 9) hx hb dX0_takeOff_38 (by decide) ?_
            obtain ⟨f9, hq, hg⟩ := bind_ex hg
            refine callWVv (As := [.int 9]) (rest := []) (wr := [(A_t_cells, .inl (cI, 63, .inl f8))]) S hK hP hD hS hA (c_X0_countOne l D cI cZ cB cJ A_t A_t_numbers A_t_owners A_t_cells _ f7 9 f9 hq) [0, 1] [2] rfl rfl (by decide +kernel) (by decide +kernel) (by decide +kernel) (cwV 1 hts gX0_takeOff_X0_countOne rfl rfl rfl hd_X0_countOne ⟨Nat.le_of_ble_eq_true rfl, Nat.le_of_ble_eq_true rfl⟩) rfl rfl rfl hl.1 rfl (Nat.le_of_ble_eq_true rfl) dX0_takeOff_40 ⟨Nat.zero_le _, Nat.zero_le _⟩ (fun H locs hP hD hS => ?_)
            replace hP : va_P D vwCl [(A_t_cells, .inl (cI, 63, .inl f8)), (A_t, .inr (0, [.ref A_t_numbers, .ref A_t_owners, .ref A_t_cells])), (A_t_numbers, .inl (cI, 10, .inl f9))] H := hP
            replace hD : va_D A [(A_t_cells, .inl (cI, 63, .inl f8)), (A_t, .inr (0, [.ref A_t_numbers, .ref A_t_owners, .ref A_t_cells])), (A_t_numbers, .inl (cI, 10, .inl f9))] := hD
            refine lv_iinc (v := (v2 + (-1))) (lv' := [(3, .int (v2 + (-1))), (4, .int v3), (0, .ref A_t), (1, .int x1)]) hx hb dX0_takeOff_43 hl (k := 1) rfl rfl (by decide) rfl (fun ls hl => ?_)
            refine lv_iinc (v := (v3 + (-1))) (lv' := [(4, .int (v3 + (-1))), (3, .int (v2 + (-1))), (0, .ref A_t), (1, .int x1)]) hx hb dX0_takeOff_46 hl (k := 1) rfl rfl (by decide) rfl (fun ls hl => ?_)
            refine lv_goto (tgt := 11) hx hb dX0_takeOff_49 (by decide) ?_
            exact ih _ _ _ _ _ _ (hP.sub [1, 2, 0] rfl) (hD.sub [1, 2, 0] (by decide) rfl) hS _ (lv_sub hl [0, 1, 2, 3] rfl) hg
  exact L FU _ _ _ _ _ _ hP hD hS _ (lv_sub hl [0, 1, 2, 3] rfl) hL
theorem hd_X0_build : yX0_build.cls = RX0 ∧ yX0_build.cls ≠ "java/lang/invoke/MethodHandle" ∧ yX0_build.cls ≠ "java/lang/invoke/VarHandle" ∧ (parseMethodDescriptor yX0_build.desc).map (fun d => d.parameters.length) = some 1 := by decide +kernel
abbrev rX0_build : Room := { frames := 2, cells := 0, slots := 0, locals := 47 }
set_option maxHeartbeats 4000000 in
set_option maxRecDepth 100000 in
theorem c_X0_build (l : Launch) (D : va_G) (cI cZ cB cJ : ClassId) (A_t : Nat) (A_t_numbers : Nat) (A_t_owners : Nat) (A_t_cells : Nat) (sz : Nat) (V_t_numbers : Nat → Int32) (V_t_owners : Nat → Int32) (V_t_cells : Nat → Int32) (x1 : Int32) (w1 : Nat → Int32) (w2 : Nat → Int32) (hg : g_X0_build V_t_numbers V_t_owners V_t_cells x1 = some (w1, w2)) : Met l yX0_build wsX0_build rX0_build (PcW D cI cZ cB cJ sz [(A_t, .inr (0, [.ref A_t_numbers, .ref A_t_owners, .ref A_t_cells])), (A_t_numbers, .inl (cI, 10, .inl V_t_numbers)), (A_t_owners, .inl (cI, 12, .inl V_t_owners)), (A_t_cells, .inl (cI, 63, .inl V_t_cells))] [.ref A_t, .int x1]) (QWv D cI cZ cB cJ sz [(A_t, .inr (0, [.ref A_t_numbers, .ref A_t_owners, .ref A_t_cells])), (A_t_numbers, .inl (cI, 10, .inl V_t_numbers)), (A_t_owners, .inl (cI, 12, .inl V_t_owners)), (A_t_cells, .inl (cI, 63, .inl V_t_cells))] [(A_t, .inr (0, [.ref A_t_numbers, .ref A_t_owners, .ref A_t_cells])), (A_t_numbers, .inl (cI, 10, .inl w1)), (A_t_owners, .inl (cI, 12, .inl V_t_owners)), (A_t_cells, .inl (cI, 63, .inl w2))]) 0 0 (va_A [(A_t, .inr (0, [.ref A_t_numbers, .ref A_t_owners, .ref A_t_cells])), (A_t_numbers, .inl (cI, 10, .inl V_t_numbers)), (A_t_owners, .inl (cI, 12, .inl V_t_owners)), (A_t_cells, .inl (cI, 63, .inl V_t_cells))] sz) := by
  refine bodyWv (cc := cX0_build) (maxL := 3) (lv := [(0, .ref A_t), (1, .int x1)]) (by decide) rfl (Nat.le_of_ble_eq_true rfl) rfl ?_
  intro p e s m args below meth c Q hx hb hml hown hts A hP hK hD hA hS fin ls hl
  replace hown : s.vm.findClass RX0 = some m.cls := hown
  have S : CallFix p m c cX0_build 3 s args wsX0_build RX0 := ⟨hx, hb, hml, hown, hts⟩
  unfold g_X0_build at hg
  refine lv_aload_n hx hb dX0_build_0 rfl (lv_at hl 0 rfl) ?_
  refine lv_iconst (v := 0) hx hb dX0_build_1 (by decide) ?_
  obtain ⟨v1, hq, hg⟩ := bind_ex hg
  refine callRVi (As := [.int 0]) (rest := []) S hK hP (c_X0_number l D cI cZ cB cJ A_t A_t_numbers A_t_owners A_t_cells V_t_numbers 0 v1 hq) [0, 1] rfl (cwV 1 hts gX0_build_X0_number rfl rfl rfl hd_X0_number ⟨Nat.le_of_ble_eq_true rfl, Nat.le_of_ble_eq_true rfl⟩) rfl rfl rfl hl.1 rfl (Nat.le_of_ble_eq_true rfl) dX0_build_2 ⟨Nat.zero_le _, Nat.zero_le _⟩ ?_
  refine lv_bipush (v := 9) hx hb dX0_build_5 (by decide) ?_
  refine lv_icmp_lt (tgt := 11) hx hb dX0_build_7 (by decide) (fun hc => ?_) (fun hc => ?_)
  · replace hg := if_yes hg hc
    refine lv_iconst (v := 0) hx hb dX0_build_11 (by decide) ?_
    refine lv_istore_n (lv' := [(2, .int 0), (0, .ref A_t), (1, .int x1)]) hx hb dX0_build_12 rfl hl (by decide) rfl (fun ls hl => ?_)
    have L : ∀ (nf : Nat) (v2 : Int32) (f3 : Nat → Int32) (f4 : Nat → Int32), ∀ (H : Heap) (locs : List Loc), va_P D vwCl [(A_t, .inr (0, [.ref A_t_numbers, .ref A_t_owners, .ref A_t_cells])), (A_t_numbers, .inl (cI, 10, .inl f4)), (A_t_owners, .inl (cI, 12, .inl V_t_owners)), (A_t_cells, .inl (cI, 63, .inl f3))] H → va_D A [(A_t, .inr (0, [.ref A_t_numbers, .ref A_t_owners, .ref A_t_cells])), (A_t_numbers, .inl (cI, 10, .inl f4)), (A_t_owners, .inl (cI, 12, .inl V_t_owners)), (A_t_cells, .inl (cI, 63, .inl f3))] → va_S A s.heap H locs → ∀ ls : Array Slot, lv_has ls 3 [(2, .int v2), (0, .ref A_t), (1, .int x1)] → g_X0_build_L1 V_t_owners x1 nf v2 f3 f4 = some (w1, w2) → W p l e rX0_build s m args below meth c H locs 0 0 Q (F0 m 13 ls []) := by
      intro nf
      induction nf with
      | zero =>
        intro v2 f3 f4 H locs hP hD hS ls hl hg
        exact no_some hg
      | succ nf ih =>
        intro v2 f3 f4 H locs hP hD hS ls hl hg
        rw [g_X0_build_L1] at hg
        refine lv_iload_n hx hb dX0_build_13 rfl (lv_at hl 0 rfl) ?_
        refine lv_bipush (v := 12) hx hb dX0_build_14 (by decide) ?_
        refine lv_icmp_ge (tgt := 57) hx hb dX0_build_16 (by decide) (fun hc => ?_) (fun hc => ?_)
        · replace hg := if_yes hg hc
          cases hg
          exact fin _ _ _ _ dX0_build_57 hP hD hS
        · replace hg := if_no hg hc
          refine lv_aload_n hx hb dX0_build_19 rfl (lv_at hl 1 rfl) ?_
          refine lv_iload_n hx hb dX0_build_20 rfl (lv_at hl 0 rfl) ?_
          obtain ⟨v5, hq, hg⟩ := bind_ex hg
          refine callRVi (As := [.int v2]) (rest := []) S hK hP (c_X0_owner l D cI cZ cB cJ A_t A_t_numbers A_t_owners A_t_cells V_t_owners v2 v5 hq) [0, 2] rfl (cwV 1 hts gX0_build_X0_owner rfl rfl rfl hd_X0_owner ⟨Nat.le_of_ble_eq_true rfl, Nat.le_of_ble_eq_true rfl⟩) rfl rfl rfl hl.1 rfl (Nat.le_of_ble_eq_true rfl) dX0_build_21 ⟨Nat.zero_le _, Nat.zero_le _⟩ ?_
          refine lv_iload_n hx hb dX0_build_24 rfl (lv_at hl 2 rfl) ?_
          refine lv_icmp_ne (tgt := 51) hx hb dX0_build_25 (by decide) (fun hc => ?_) (fun hc => ?_)
          · replace hg := if_no hg hc
            refine lv_iinc (v := (v2 + 1)) (lv' := [(2, .int (v2 + 1)), (0, .ref A_t), (1, .int x1)]) hx hb dX0_build_51 hl (k := 0) rfl rfl (by decide) rfl (fun ls hl => ?_)
            refine lv_goto (tgt := 13) hx hb dX0_build_54 (by decide) ?_
            exact ih _ _ _ _ _ hP hD hS _ (lv_sub hl [0, 1, 2] rfl) hg
          · replace hg := if_yes hg hc
            refine lv_aload_n hx hb dX0_build_28 rfl (lv_at hl 1 rfl) ?_
            refine lv_iload_n hx hb dX0_build_29 rfl (lv_at hl 0 rfl) ?_
            obtain ⟨v6, hq, hg⟩ := bind_ex hg
            refine callRVi (As := [.int v2]) (rest := []) S hK hP (c_X0_armyOn l D cI cZ cB cJ A_t A_t_numbers A_t_owners A_t_cells f4 f3 v2 v6 hq) [0, 1, 3] rfl (cwV 1 hts gX0_build_X0_armyOn rfl rfl rfl hd_X0_armyOn ⟨Nat.le_of_ble_eq_true rfl, Nat.le_of_ble_eq_true rfl⟩) rfl rfl rfl hl.1 rfl (Nat.le_of_ble_eq_true rfl) dX0_build_30 ⟨Nat.zero_le _, Nat.zero_le _⟩ ?_
            refine lv_iconst (v := (-1)) hx hb dX0_build_33 (by decide) ?_
            refine lv_icmp_ne (tgt := 51) hx hb dX0_build_34 (by decide) (fun hc => ?_) (fun hc => ?_)
            · replace hg := if_no hg hc
              refine lv_iinc (v := (v2 + 1)) (lv' := [(2, .int (v2 + 1)), (0, .ref A_t), (1, .int x1)]) hx hb dX0_build_51 hl (k := 0) rfl rfl (by decide) rfl (fun ls hl => ?_)
              refine lv_goto (tgt := 13) hx hb dX0_build_54 (by decide) ?_
              exact ih _ _ _ _ _ hP hD hS _ (lv_sub hl [0, 1, 2] rfl) hg
            · replace hg := if_yes hg hc
              refine lv_aload_n hx hb dX0_build_37 rfl (lv_at hl 1 rfl) ?_
              refine lv_iload_n hx hb dX0_build_38 rfl (lv_at hl 2 rfl) ?_
              refine lv_iload_n hx hb dX0_build_39 rfl (lv_at hl 0 rfl) ?_
              obtain ⟨v9, f7, f8, hq, hg⟩ := b3_ex hg
              refine callWV (As := [.int x1, .int v2]) (rest := []) (wr := [(A_t_owners, .inl (cI, 12, .inl V_t_owners))]) S hK hP hD hS hA (c_X0_setUp l D cI cZ cB cJ A_t A_t_numbers A_t_owners A_t_cells _ f4 f3 x1 v2 v9 f7 f8 hq) [0, 1, 3] [2] rfl rfl (by decide +kernel) (by decide +kernel) (by decide +kernel) (cwV 2 hts gX0_build_X0_setUp rfl rfl rfl hd_X0_setUp ⟨Nat.le_of_ble_eq_true rfl, Nat.le_of_ble_eq_true rfl⟩) rfl rfl rfl hl.1 rfl (Nat.le_of_ble_eq_true rfl) dX0_build_40 ⟨Nat.zero_le _, Nat.zero_le _⟩ (fun H locs hP hD hS => ?_)
              replace hP : va_P D vwCl [(A_t_owners, .inl (cI, 12, .inl V_t_owners)), (A_t, .inr (0, [.ref A_t_numbers, .ref A_t_owners, .ref A_t_cells])), (A_t_numbers, .inl (cI, 10, .inl f7)), (A_t_cells, .inl (cI, 63, .inl f8))] H := hP
              replace hD : va_D A [(A_t_owners, .inl (cI, 12, .inl V_t_owners)), (A_t, .inr (0, [.ref A_t_numbers, .ref A_t_owners, .ref A_t_cells])), (A_t_numbers, .inl (cI, 10, .inl f7)), (A_t_cells, .inl (cI, 63, .inl f8))] := hD
              refine lv_pop hx hb dX0_build_43 rfl ?_
              refine lv_aload_n hx hb dX0_build_44 rfl (lv_at hl 1 rfl) ?_
              refine lv_bipush (v := 8) hx hb dX0_build_45 (by decide) ?_
              obtain ⟨f10, hq, hg⟩ := bind_ex hg
              refine callWVv (As := [.int 8]) (rest := []) (wr := [(A_t_owners, .inl (cI, 12, .inl V_t_owners)), (A_t_cells, .inl (cI, 63, .inl f8))]) S hK hP hD hS hA (c_X0_countOne l D cI cZ cB cJ A_t A_t_numbers A_t_owners A_t_cells _ f7 8 f10 hq) [1, 2] [0, 3] rfl rfl (by decide +kernel) (by decide +kernel) (by decide +kernel) (cwV 1 hts gX0_build_X0_countOne rfl rfl rfl hd_X0_countOne ⟨Nat.le_of_ble_eq_true rfl, Nat.le_of_ble_eq_true rfl⟩) rfl rfl rfl hl.1 rfl (Nat.le_of_ble_eq_true rfl) dX0_build_47 ⟨Nat.zero_le _, Nat.zero_le _⟩ (fun H locs hP hD hS => ?_)
              replace hP : va_P D vwCl [(A_t_owners, .inl (cI, 12, .inl V_t_owners)), (A_t_cells, .inl (cI, 63, .inl f8)), (A_t, .inr (0, [.ref A_t_numbers, .ref A_t_owners, .ref A_t_cells])), (A_t_numbers, .inl (cI, 10, .inl f10))] H := hP
              replace hD : va_D A [(A_t_owners, .inl (cI, 12, .inl V_t_owners)), (A_t_cells, .inl (cI, 63, .inl f8)), (A_t, .inr (0, [.ref A_t_numbers, .ref A_t_owners, .ref A_t_cells])), (A_t_numbers, .inl (cI, 10, .inl f10))] := hD
              cases hg
              exact fin _ _ _ _ dX0_build_50 (hP.sub [2, 3, 0, 1] rfl) (hD.sub [2, 3, 0, 1] (by decide) rfl) hS
    exact L FU _ _ _ _ _ hP hD hS _ (lv_sub hl [0, 1, 2] rfl) hg
  · replace hg := if_no hg hc
    cases hg
    exact fin _ _ _ _ dX0_build_10 hP hD hS
theorem hd_X0_endYear : yX0_endYear.cls = RX0 ∧ yX0_endYear.cls ≠ "java/lang/invoke/MethodHandle" ∧ yX0_endYear.cls ≠ "java/lang/invoke/VarHandle" ∧ (parseMethodDescriptor yX0_endYear.desc).map (fun d => d.parameters.length) = some 0 := by decide +kernel
abbrev rX0_endYear : Room := { frames := 3, cells := 0, slots := 0, locals := 71 }
set_option maxHeartbeats 4000000 in
set_option maxRecDepth 100000 in
theorem c_X0_endYear (l : Launch) (D : va_G) (cI cZ cB cJ : ClassId) (A_t : Nat) (A_t_numbers : Nat) (A_t_owners : Nat) (A_t_cells : Nat) (sz : Nat) (V_t_numbers : Nat → Int32) (V_t_cells : Nat → Int32) (V_t_owners : Nat → Int32) (w1 : Nat → Int32) (w2 : Nat → Int32) (w3 : Nat → Int32) (hg : g_X0_endYear V_t_numbers V_t_cells V_t_owners = some (w1, w2, w3)) : Met l yX0_endYear wsX0_endYear rX0_endYear (PcW D cI cZ cB cJ sz [(A_t, .inr (0, [.ref A_t_numbers, .ref A_t_owners, .ref A_t_cells])), (A_t_numbers, .inl (cI, 10, .inl V_t_numbers)), (A_t_cells, .inl (cI, 63, .inl V_t_cells)), (A_t_owners, .inl (cI, 12, .inl V_t_owners))] [.ref A_t]) (QWv D cI cZ cB cJ sz [(A_t, .inr (0, [.ref A_t_numbers, .ref A_t_owners, .ref A_t_cells])), (A_t_numbers, .inl (cI, 10, .inl V_t_numbers)), (A_t_cells, .inl (cI, 63, .inl V_t_cells)), (A_t_owners, .inl (cI, 12, .inl V_t_owners))] [(A_t, .inr (0, [.ref A_t_numbers, .ref A_t_owners, .ref A_t_cells])), (A_t_numbers, .inl (cI, 10, .inl w1)), (A_t_cells, .inl (cI, 63, .inl w2)), (A_t_owners, .inl (cI, 12, .inl w3))]) 0 0 (va_A [(A_t, .inr (0, [.ref A_t_numbers, .ref A_t_owners, .ref A_t_cells])), (A_t_numbers, .inl (cI, 10, .inl V_t_numbers)), (A_t_cells, .inl (cI, 63, .inl V_t_cells)), (A_t_owners, .inl (cI, 12, .inl V_t_owners))] sz) := by
  refine bodyWv (cc := cX0_endYear) (maxL := 3) (lv := [(0, .ref A_t)]) (by decide) rfl (Nat.le_of_ble_eq_true rfl) rfl ?_
  intro p e s m args below meth c Q hx hb hml hown hts A hP hK hD hA hS fin ls hl
  replace hown : s.vm.findClass RX0 = some m.cls := hown
  have S : CallFix p m c cX0_endYear 3 s args wsX0_endYear RX0 := ⟨hx, hb, hml, hown, hts⟩
  unfold g_X0_endYear at hg
  refine lv_aload_n hx hb dX0_endYear_0 rfl (lv_at hl 0 rfl) ?_
  obtain ⟨f1, hq, hg⟩ := bind_ex hg
  refine callWVv (As := []) (rest := []) (wr := []) S hK hP hD hS hA (c_X0_claimCentres l D cI cZ cB cJ A_t A_t_numbers A_t_owners A_t_cells _ V_t_numbers V_t_cells V_t_owners f1 hq) [0, 1, 2, 3] [] rfl rfl (by decide +kernel) (by decide +kernel) (by decide +kernel) (cwV 0 hts gX0_endYear_X0_claimCentres rfl rfl rfl hd_X0_claimCentres ⟨Nat.le_of_ble_eq_true rfl, Nat.le_of_ble_eq_true rfl⟩) rfl rfl rfl hl.1 rfl (Nat.le_of_ble_eq_true rfl) dX0_endYear_1 ⟨Nat.zero_le _, Nat.zero_le _⟩ (fun H locs hP hD hS => ?_)
  replace hP : va_P D vwCl [(A_t, .inr (0, [.ref A_t_numbers, .ref A_t_owners, .ref A_t_cells])), (A_t_numbers, .inl (cI, 10, .inl V_t_numbers)), (A_t_cells, .inl (cI, 63, .inl V_t_cells)), (A_t_owners, .inl (cI, 12, .inl f1))] H := hP
  replace hD : va_D A [(A_t, .inr (0, [.ref A_t_numbers, .ref A_t_owners, .ref A_t_cells])), (A_t_numbers, .inl (cI, 10, .inl V_t_numbers)), (A_t_cells, .inl (cI, 63, .inl V_t_cells)), (A_t_owners, .inl (cI, 12, .inl f1))] := hD
  refine lv_iconst (v := 0) hx hb dX0_endYear_4 (by decide) ?_
  refine lv_istore_n (lv' := [(1, .int 0), (0, .ref A_t)]) hx hb dX0_endYear_5 rfl hl (by decide) rfl (fun ls hl => ?_)
  obtain ⟨f14, f15, hL, hg⟩ := b2_ex hg
  have kx : ∀ (H : Heap) (locs : List Loc), va_P D vwCl [(A_t, .inr (0, [.ref A_t_numbers, .ref A_t_owners, .ref A_t_cells])), (A_t_numbers, .inl (cI, 10, .inl f15)), (A_t_cells, .inl (cI, 63, .inl f14)), (A_t_owners, .inl (cI, 12, .inl f1))] H → va_D A [(A_t, .inr (0, [.ref A_t_numbers, .ref A_t_owners, .ref A_t_cells])), (A_t_numbers, .inl (cI, 10, .inl f15)), (A_t_cells, .inl (cI, 63, .inl f14)), (A_t_owners, .inl (cI, 12, .inl f1))] → va_S A s.heap H locs → ∀ ls : Array Slot, lv_has ls 3 [] → W p l e rX0_endYear s m args below meth c H locs 0 0 Q (F0 m 67 ls []) := by
    intro H locs hP hD hS ls hl
    cases hg
    exact fin _ _ _ _ dX0_endYear_67 hP hD hS
  have L : ∀ (nf : Nat) (v2 : Int32) (f3 : Nat → Int32) (f4 : Nat → Int32), ∀ (H : Heap) (locs : List Loc), va_P D vwCl [(A_t, .inr (0, [.ref A_t_numbers, .ref A_t_owners, .ref A_t_cells])), (A_t_numbers, .inl (cI, 10, .inl f4)), (A_t_cells, .inl (cI, 63, .inl f3)), (A_t_owners, .inl (cI, 12, .inl f1))] H → va_D A [(A_t, .inr (0, [.ref A_t_numbers, .ref A_t_owners, .ref A_t_cells])), (A_t_numbers, .inl (cI, 10, .inl f4)), (A_t_cells, .inl (cI, 63, .inl f3)), (A_t_owners, .inl (cI, 12, .inl f1))] → va_S A s.heap H locs → ∀ ls : Array Slot, lv_has ls 3 [(1, .int v2), (0, .ref A_t)] → g_X0_endYear_L1 f1 nf v2 f3 f4 = some (f14, f15) → W p l e rX0_endYear s m args below meth c H locs 0 0 Q (F0 m 6 ls []) := by
    intro nf
    induction nf with
    | zero =>
      intro v2 f3 f4 H locs hP hD hS ls hl hg
      exact no_some hg
    | succ nf ih =>
      intro v2 f3 f4 H locs hP hD hS ls hl hg
      rw [g_X0_endYear_L1] at hg
      refine lv_iload_n hx hb dX0_endYear_6 rfl (lv_at hl 0 rfl) ?_
      refine lv_iconst (v := 3) hx hb dX0_endYear_7 (by decide) ?_
      refine lv_icmp_ge (tgt := 67) hx hb dX0_endYear_8 (by decide) (fun hc => ?_) (fun hc => ?_)
      · replace hg := if_yes hg hc
        cases hg
        exact kx _ _ hP hD hS _ (lv_sub hl [] rfl)
      · replace hg := if_no hg hc
        refine lv_aload_n hx hb dX0_endYear_11 rfl (lv_at hl 1 rfl) ?_
        refine lv_iload_n hx hb dX0_endYear_12 rfl (lv_at hl 0 rfl) ?_
        obtain ⟨v5, hq, hg⟩ := bind_ex hg
        refine callRVi (As := [.int v2]) (rest := []) S hK hP (c_X0_centresOf l D cI cZ cB cJ A_t A_t_numbers A_t_owners A_t_cells f1 v2 v5 hq) [0, 3] rfl (cwV 1 hts gX0_endYear_X0_centresOf rfl rfl rfl hd_X0_centresOf ⟨Nat.le_of_ble_eq_true rfl, Nat.le_of_ble_eq_true rfl⟩) rfl rfl rfl hl.1 rfl (Nat.le_of_ble_eq_true rfl) dX0_endYear_13 ⟨Nat.zero_le _, Nat.zero_le _⟩ ?_
        refine lv_iconst (v := 1) hx hb dX0_endYear_16 (by decide) ?_
        refine lv_iadd hx hb dX0_endYear_17 ?_
        refine lv_istore_n (lv' := [(2, .int (v5 + 1)), (1, .int v2), (0, .ref A_t)]) hx hb dX0_endYear_18 rfl hl (by decide) rfl (fun ls hl => ?_)
        refine lv_aload_n hx hb dX0_endYear_19 rfl (lv_at hl 2 rfl) ?_
        refine lv_iload_n hx hb dX0_endYear_20 rfl (lv_at hl 1 rfl) ?_
        obtain ⟨v6, hq, hg⟩ := bind_ex hg
        refine callRVi (As := [.int v2]) (rest := []) S hK hP (c_X0_armiesOf l D cI cZ cB cJ A_t A_t_numbers A_t_owners A_t_cells f4 f3 v2 v6 hq) [0, 1, 2] rfl (cwV 1 hts gX0_endYear_X0_armiesOf rfl rfl rfl hd_X0_armiesOf ⟨Nat.le_of_ble_eq_true rfl, Nat.le_of_ble_eq_true rfl⟩) rfl rfl rfl hl.1 rfl (Nat.le_of_ble_eq_true rfl) dX0_endYear_21 ⟨Nat.zero_le _, Nat.zero_le _⟩ ?_
        refine lv_iload_n hx hb dX0_endYear_24 rfl (lv_at hl 0 rfl) ?_
        refine lv_icmp_le (tgt := 43) hx hb dX0_endYear_25 (by decide) (fun hc => ?_) (fun hc => ?_)
        · replace hg := if_yes hg hc
          refine lv_aload_n hx hb dX0_endYear_43 rfl (lv_at hl 2 rfl) ?_
          refine lv_iload_n hx hb dX0_endYear_44 rfl (lv_at hl 1 rfl) ?_
          obtain ⟨v7, hq, hg⟩ := bind_ex hg
          refine callRVi (As := [.int v2]) (rest := []) S hK hP (c_X0_armiesOf l D cI cZ cB cJ A_t A_t_numbers A_t_owners A_t_cells f4 f3 v2 v7 hq) [0, 1, 2] rfl (cwV 1 hts gX0_endYear_X0_armiesOf rfl rfl rfl hd_X0_armiesOf ⟨Nat.le_of_ble_eq_true rfl, Nat.le_of_ble_eq_true rfl⟩) rfl rfl rfl hl.1 rfl (Nat.le_of_ble_eq_true rfl) dX0_endYear_45 ⟨Nat.zero_le _, Nat.zero_le _⟩ ?_
          refine lv_aload_n hx hb dX0_endYear_48 rfl (lv_at hl 2 rfl) ?_
          refine lv_iload_n hx hb dX0_endYear_49 rfl (lv_at hl 1 rfl) ?_
          obtain ⟨v8, hq, hg⟩ := bind_ex hg
          refine callRVi (As := [.int v2]) (rest := [.int v7]) S hK hP (c_X0_centresOf l D cI cZ cB cJ A_t A_t_numbers A_t_owners A_t_cells f1 v2 v8 hq) [0, 3] rfl (cwV 1 hts gX0_endYear_X0_centresOf rfl rfl rfl hd_X0_centresOf ⟨Nat.le_of_ble_eq_true rfl, Nat.le_of_ble_eq_true rfl⟩) rfl rfl rfl hl.1 rfl (Nat.le_of_ble_eq_true rfl) dX0_endYear_50 ⟨Nat.zero_le _, Nat.zero_le _⟩ ?_
          refine lv_icmp_ge (tgt := 61) hx hb dX0_endYear_53 (by decide) (fun hc => ?_) (fun hc => ?_)
          · replace hg := if_yes hg hc
            refine lv_iinc (v := (v2 + 1)) (lv' := [(1, .int (v2 + 1)), (2, .int (v5 + 1)), (0, .ref A_t)]) hx hb dX0_endYear_61 hl (k := 1) rfl rfl (by decide) rfl (fun ls hl => ?_)
            refine lv_goto (tgt := 6) hx hb dX0_endYear_64 (by decide) ?_
            exact ih _ _ _ _ _ hP hD hS _ (lv_sub hl [0, 2] rfl) hg
          · replace hg := if_no hg hc
            refine lv_aload_n hx hb dX0_endYear_56 rfl (lv_at hl 2 rfl) ?_
            refine lv_iload_n hx hb dX0_endYear_57 rfl (lv_at hl 1 rfl) ?_
            obtain ⟨f9, f10, hq, hg⟩ := b2_ex hg
            refine callWVv (As := [.int v2]) (rest := []) (wr := []) S hK hP hD hS hA (c_X0_build l D cI cZ cB cJ A_t A_t_numbers A_t_owners A_t_cells _ f4 f1 f3 v2 f9 f10 hq) [0, 1, 3, 2] [] rfl rfl (by decide +kernel) (by decide +kernel) (by decide +kernel) (cwV 1 hts gX0_endYear_X0_build rfl rfl rfl hd_X0_build ⟨Nat.le_of_ble_eq_true rfl, Nat.le_of_ble_eq_true rfl⟩) rfl rfl rfl hl.1 rfl (Nat.le_of_ble_eq_true rfl) dX0_endYear_58 ⟨Nat.zero_le _, Nat.zero_le _⟩ (fun H locs hP hD hS => ?_)
            replace hP : va_P D vwCl [(A_t, .inr (0, [.ref A_t_numbers, .ref A_t_owners, .ref A_t_cells])), (A_t_numbers, .inl (cI, 10, .inl f9)), (A_t_owners, .inl (cI, 12, .inl f1)), (A_t_cells, .inl (cI, 63, .inl f10))] H := hP
            replace hD : va_D A [(A_t, .inr (0, [.ref A_t_numbers, .ref A_t_owners, .ref A_t_cells])), (A_t_numbers, .inl (cI, 10, .inl f9)), (A_t_owners, .inl (cI, 12, .inl f1)), (A_t_cells, .inl (cI, 63, .inl f10))] := hD
            refine lv_iinc (v := (v2 + 1)) (lv' := [(1, .int (v2 + 1)), (2, .int (v5 + 1)), (0, .ref A_t)]) hx hb dX0_endYear_61 hl (k := 1) rfl rfl (by decide) rfl (fun ls hl => ?_)
            refine lv_goto (tgt := 6) hx hb dX0_endYear_64 (by decide) ?_
            exact ih _ _ _ _ _ (hP.sub [0, 1, 3, 2] rfl) (hD.sub [0, 1, 3, 2] (by decide) rfl) hS _ (lv_sub hl [0, 2] rfl) hg
        · replace hg := if_no hg hc
          refine lv_aload_n hx hb dX0_endYear_28 rfl (lv_at hl 2 rfl) ?_
          refine lv_iload_n hx hb dX0_endYear_29 rfl (lv_at hl 1 rfl) ?_
          refine lv_aload_n hx hb dX0_endYear_30 rfl (lv_at hl 2 rfl) ?_
          refine lv_iload_n hx hb dX0_endYear_31 rfl (lv_at hl 1 rfl) ?_
          obtain ⟨v11, hq, hg⟩ := bind_ex hg
          refine callRVi (As := [.int v2]) (rest := [.int v2, .ref A_t]) S hK hP (c_X0_armiesOf l D cI cZ cB cJ A_t A_t_numbers A_t_owners A_t_cells f4 f3 v2 v11 hq) [0, 1, 2] rfl (cwV 1 hts gX0_endYear_X0_armiesOf rfl rfl rfl hd_X0_armiesOf ⟨Nat.le_of_ble_eq_true rfl, Nat.le_of_ble_eq_true rfl⟩) rfl rfl rfl hl.1 rfl (Nat.le_of_ble_eq_true rfl) dX0_endYear_32 ⟨Nat.zero_le _, Nat.zero_le _⟩ ?_
          refine lv_iload_n hx hb dX0_endYear_35 rfl (lv_at hl 0 rfl) ?_
          refine lv_isub hx hb dX0_endYear_36 ?_
          obtain ⟨f12, f13, hq, hg⟩ := b2_ex hg
          refine callWVv (As := [.int v2, .int (v11 - (v5 + 1))]) (rest := []) (wr := [(A_t_owners, .inl (cI, 12, .inl f1))]) S hK hP hD hS hA (c_X0_takeOff l D cI cZ cB cJ A_t A_t_numbers A_t_owners A_t_cells _ f4 f3 v2 (v11 - (v5 + 1)) f12 f13 hq) [0, 1, 2] [3] rfl rfl (by decide +kernel) (by decide +kernel) (by decide +kernel) (cwV 2 hts gX0_endYear_X0_takeOff rfl rfl rfl hd_X0_takeOff ⟨Nat.le_of_ble_eq_true rfl, Nat.le_of_ble_eq_true rfl⟩) rfl rfl rfl hl.1 rfl (Nat.le_of_ble_eq_true rfl) dX0_endYear_37 ⟨Nat.zero_le _, Nat.zero_le _⟩ (fun H locs hP hD hS => ?_)
          replace hP : va_P D vwCl [(A_t_owners, .inl (cI, 12, .inl f1)), (A_t, .inr (0, [.ref A_t_numbers, .ref A_t_owners, .ref A_t_cells])), (A_t_numbers, .inl (cI, 10, .inl f12)), (A_t_cells, .inl (cI, 63, .inl f13))] H := hP
          replace hD : va_D A [(A_t_owners, .inl (cI, 12, .inl f1)), (A_t, .inr (0, [.ref A_t_numbers, .ref A_t_owners, .ref A_t_cells])), (A_t_numbers, .inl (cI, 10, .inl f12)), (A_t_cells, .inl (cI, 63, .inl f13))] := hD
          refine lv_goto (tgt := 61) hx hb dX0_endYear_40 (by decide) ?_
          refine lv_iinc (v := (v2 + 1)) (lv' := [(1, .int (v2 + 1)), (2, .int (v5 + 1)), (0, .ref A_t)]) hx hb dX0_endYear_61 hl (k := 1) rfl rfl (by decide) rfl (fun ls hl => ?_)
          refine lv_goto (tgt := 6) hx hb dX0_endYear_64 (by decide) ?_
          exact ih _ _ _ _ _ (hP.sub [1, 2, 3, 0] rfl) (hD.sub [1, 2, 3, 0] (by decide) rfl) hS _ (lv_sub hl [0, 2] rfl) hg
  exact L FU _ _ _ _ _ hP hD hS _ (lv_sub hl [0, 1] rfl) hL
theorem hd_X0_beginNextSeason : yX0_beginNextSeason.cls = RX0 ∧ yX0_beginNextSeason.cls ≠ "java/lang/invoke/MethodHandle" ∧ yX0_beginNextSeason.cls ≠ "java/lang/invoke/VarHandle" ∧ (parseMethodDescriptor yX0_beginNextSeason.desc).map (fun d => d.parameters.length) = some 0 := by decide +kernel
theorem in_X0_beginNextSeason_X0 : ∀ w ∈ u_ws RX0 TX0 3, w ∈ wsX0_beginNextSeason := fun _ h => List.mem_cons_of_mem _ (List.mem_append_right _ h)
theorem wd_X0_beginNextSeason_1 : Cond.fieldLink RX0 9 "FogOrders$Board" "numbers" "[I" ∈ wsX0_beginNextSeason := List.mem_of_getElem? (i := 1) rfl
theorem wd_X0_beginNextSeason_8 : Cond.initialized RX4 ∈ wsX0_beginNextSeason := List.mem_of_getElem? (i := 8) rfl
theorem wd_X0_beginNextSeason_7 : Cond.static yX4_enter ∈ wsX0_beginNextSeason := List.mem_of_getElem? (i := 7) rfl
abbrev rX0_beginNextSeason : Room := { frames := 4, cells := 0, slots := 0, locals := 93 }
set_option maxHeartbeats 4000000 in
set_option maxRecDepth 100000 in
theorem c_X0_beginNextSeason (l : Launch) (D : va_G) (cI cZ cB cJ : ClassId) (A_t : Nat) (A_t_numbers : Nat) (A_t_owners : Nat) (A_t_cells : Nat) (sz : Nat) (V_t_numbers : Nat → Int32) (V_t_cells : Nat → Int32) (V_t_owners : Nat → Int32) (w1 : Nat → Int32) (w2 : Nat → Int32) (w3 : Nat → Int32) (hg : g_X0_beginNextSeason V_t_numbers V_t_cells V_t_owners = some (w1, w2, w3)) : Met l yX0_beginNextSeason wsX0_beginNextSeason rX0_beginNextSeason (PcW D cI cZ cB cJ sz [(A_t, .inr (0, [.ref A_t_numbers, .ref A_t_owners, .ref A_t_cells])), (A_t_numbers, .inl (cI, 10, .inl V_t_numbers)), (A_t_cells, .inl (cI, 63, .inl V_t_cells)), (A_t_owners, .inl (cI, 12, .inl V_t_owners))] [.ref A_t]) (QWv D cI cZ cB cJ sz [(A_t, .inr (0, [.ref A_t_numbers, .ref A_t_owners, .ref A_t_cells])), (A_t_numbers, .inl (cI, 10, .inl V_t_numbers)), (A_t_cells, .inl (cI, 63, .inl V_t_cells)), (A_t_owners, .inl (cI, 12, .inl V_t_owners))] [(A_t, .inr (0, [.ref A_t_numbers, .ref A_t_owners, .ref A_t_cells])), (A_t_numbers, .inl (cI, 10, .inl w1)), (A_t_cells, .inl (cI, 63, .inl w2)), (A_t_owners, .inl (cI, 12, .inl w3))]) 0 0 (va_A [(A_t, .inr (0, [.ref A_t_numbers, .ref A_t_owners, .ref A_t_cells])), (A_t_numbers, .inl (cI, 10, .inl V_t_numbers)), (A_t_cells, .inl (cI, 63, .inl V_t_cells)), (A_t_owners, .inl (cI, 12, .inl V_t_owners))] sz) := by
  refine bodyWv (cc := cX0_beginNextSeason) (maxL := 1) (lv := [(0, .ref A_t)]) (by decide) rfl (Nat.le_of_ble_eq_true rfl) rfl ?_
  intro p e s m args below meth c Q hx hb hml hown hts A hP hK hD hA hS fin ls hl
  replace hown : s.vm.findClass RX0 = some m.cls := hown
  have S : CallFix p m c cX0_beginNextSeason 1 s args wsX0_beginNextSeason RX0 := ⟨hx, hb, hml, hown, hts⟩
  unfold g_X0_beginNextSeason at hg
  refine lv_aload_n hx hb dX0_beginNextSeason_0 rfl (lv_at hl 0 rfl) ?_
  refine lv_iconst (v := 2) hx hb dX0_beginNextSeason_1 (by decide) ?_
  obtain ⟨v1, hq, hg⟩ := bind_ex hg
  refine callRVi (As := [.int 2]) (rest := []) S hK hP (c_X0_number l D cI cZ cB cJ A_t A_t_numbers A_t_owners A_t_cells V_t_numbers 2 v1 hq) [0, 1] rfl (cwV 1 hts gX0_beginNextSeason_X0_number rfl rfl rfl hd_X0_number ⟨Nat.le_of_ble_eq_true rfl, Nat.le_of_ble_eq_true rfl⟩) rfl rfl rfl hl.1 rfl (Nat.le_of_ble_eq_true rfl) dX0_beginNextSeason_2 ⟨Nat.zero_le _, Nat.zero_le _⟩ ?_
  refine lv_if_ne (tgt := 18) hx hb dX0_beginNextSeason_5 (by decide) (fun hc => ?_) (fun hc => ?_)
  · replace hg := if_no hg hc
    refine lv_aload_n hx hb dX0_beginNextSeason_18 rfl (lv_at hl 0 rfl) ?_
    obtain ⟨f2, f3, f4, hq, hg⟩ := b3_ex hg
    refine callWVv (As := []) (rest := []) (wr := []) S hK hP hD hS hA (c_X0_endYear l D cI cZ cB cJ A_t A_t_numbers A_t_owners A_t_cells _ V_t_numbers V_t_cells V_t_owners f2 f3 f4 hq) [0, 1, 2, 3] [] rfl rfl (by decide +kernel) (by decide +kernel) (by decide +kernel) (cwV 0 hts gX0_beginNextSeason_X0_endYear rfl rfl rfl hd_X0_endYear ⟨Nat.le_of_ble_eq_true rfl, Nat.le_of_ble_eq_true rfl⟩) rfl rfl rfl hl.1 rfl (Nat.le_of_ble_eq_true rfl) dX0_beginNextSeason_19 ⟨Nat.zero_le _, Nat.zero_le _⟩ (fun H locs hP hD hS => ?_)
    replace hP : va_P D vwCl [(A_t, .inr (0, [.ref A_t_numbers, .ref A_t_owners, .ref A_t_cells])), (A_t_numbers, .inl (cI, 10, .inl f2)), (A_t_cells, .inl (cI, 63, .inl f3)), (A_t_owners, .inl (cI, 12, .inl f4))] H := hP
    replace hD : va_D A [(A_t, .inr (0, [.ref A_t_numbers, .ref A_t_owners, .ref A_t_cells])), (A_t_numbers, .inl (cI, 10, .inl f2)), (A_t_cells, .inl (cI, 63, .inl f3)), (A_t_owners, .inl (cI, 12, .inl f4))] := hD
    refine lv_aload_n hx hb dX0_beginNextSeason_22 rfl (lv_at hl 0 rfl) ?_
    refine xget (ci := 0) (C := RX0) (T := TX0) (N := 3) (v := .ref A_t_numbers) hx hb hts in_X0_beginNextSeason_X0 hown hK hP 0 rfl rfl 0 (by decide) wd_X0_beginNextSeason_1 rfl dX0_beginNextSeason_23 ?_
    refine lv_iconst (v := 2) hx hb dX0_beginNextSeason_26 (by decide) ?_
    refine lv_iconst (v := 0) hx hb dX0_beginNextSeason_27 (by decide) ?_
    obtain ⟨f5, hq, hg⟩ := bind_ex hg
    refine callWNv (As := [.ref A_t_numbers, .int 2, .int 0]) (rest := []) (wr := [(A_t, .inr (0, [.ref A_t_numbers, .ref A_t_owners, .ref A_t_cells])), (A_t_cells, .inl (cI, 63, .inl f3)), (A_t_owners, .inl (cI, 12, .inl f4))]) S hK hP hD hS hA (c_X4_enter l D cI cZ cB cJ A_t_numbers 10 _ f2 2 0 f5 hq) [1] [0, 2, 3] rfl rfl (by decide +kernel) (by decide +kernel) (by decide +kernel) ⟨va_cnB 3 hts gX0_beginNextSeason_X4_enter_n37 rfl rfl rfl (hK.2 _ (List.mem_of_getElem? (i := 4) rfl)) (hts _ wd_X0_beginNextSeason_8) hd_X4_enter ⟨Nat.le_of_ble_eq_true rfl, Nat.le_of_ble_eq_true rfl⟩, hts _ wd_X0_beginNextSeason_7, trivial⟩ rfl hl.1 rfl (Nat.le_of_ble_eq_true rfl) dX0_beginNextSeason_28 ⟨Nat.zero_le _, Nat.zero_le _⟩ (fun H locs hP hD hS => ?_)
    replace hP : va_P D vwCl [(A_t, .inr (0, [.ref A_t_numbers, .ref A_t_owners, .ref A_t_cells])), (A_t_cells, .inl (cI, 63, .inl f3)), (A_t_owners, .inl (cI, 12, .inl f4)), (A_t_numbers, .inl (cI, 10, .inl f5))] H := hP
    replace hD : va_D A [(A_t, .inr (0, [.ref A_t_numbers, .ref A_t_owners, .ref A_t_cells])), (A_t_cells, .inl (cI, 63, .inl f3)), (A_t_owners, .inl (cI, 12, .inl f4)), (A_t_numbers, .inl (cI, 10, .inl f5))] := hD
    refine lv_aload_n hx hb dX0_beginNextSeason_31 rfl (lv_at hl 0 rfl) ?_
    refine lv_iconst (v := 1) hx hb dX0_beginNextSeason_32 (by decide) ?_
    obtain ⟨f6, hq, hg⟩ := bind_ex hg
    refine callWVv (As := [.int 1]) (rest := []) (wr := [(A_t_cells, .inl (cI, 63, .inl f3)), (A_t_owners, .inl (cI, 12, .inl f4))]) S hK hP hD hS hA (c_X0_countOne l D cI cZ cB cJ A_t A_t_numbers A_t_owners A_t_cells _ f5 1 f6 hq) [0, 3] [1, 2] rfl rfl (by decide +kernel) (by decide +kernel) (by decide +kernel) (cwV 1 hts gX0_beginNextSeason_X0_countOne rfl rfl rfl hd_X0_countOne ⟨Nat.le_of_ble_eq_true rfl, Nat.le_of_ble_eq_true rfl⟩) rfl rfl rfl hl.1 rfl (Nat.le_of_ble_eq_true rfl) dX0_beginNextSeason_33 ⟨Nat.zero_le _, Nat.zero_le _⟩ (fun H locs hP hD hS => ?_)
    replace hP : va_P D vwCl [(A_t_cells, .inl (cI, 63, .inl f3)), (A_t_owners, .inl (cI, 12, .inl f4)), (A_t, .inr (0, [.ref A_t_numbers, .ref A_t_owners, .ref A_t_cells])), (A_t_numbers, .inl (cI, 10, .inl f6))] H := hP
    replace hD : va_D A [(A_t_cells, .inl (cI, 63, .inl f3)), (A_t_owners, .inl (cI, 12, .inl f4)), (A_t, .inr (0, [.ref A_t_numbers, .ref A_t_owners, .ref A_t_cells])), (A_t_numbers, .inl (cI, 10, .inl f6))] := hD
    cases hg
    exact fin _ _ _ _ dX0_beginNextSeason_36 (hP.sub [2, 3, 0, 1] rfl) (hD.sub [2, 3, 0, 1] (by decide) rfl) hS
  · replace hg := if_yes hg hc
    refine lv_aload_n hx hb dX0_beginNextSeason_8 rfl (lv_at hl 0 rfl) ?_
    refine xget (ci := 0) (C := RX0) (T := TX0) (N := 3) (v := .ref A_t_numbers) hx hb hts in_X0_beginNextSeason_X0 hown hK hP 0 rfl rfl 0 (by decide) wd_X0_beginNextSeason_1 rfl dX0_beginNextSeason_9 ?_
    refine lv_iconst (v := 2) hx hb dX0_beginNextSeason_12 (by decide) ?_
    refine lv_iconst (v := 1) hx hb dX0_beginNextSeason_13 (by decide) ?_
    obtain ⟨f7, hq, hg⟩ := bind_ex hg
    refine callWNv (As := [.ref A_t_numbers, .int 2, .int 1]) (rest := []) (wr := [(A_t, .inr (0, [.ref A_t_numbers, .ref A_t_owners, .ref A_t_cells])), (A_t_cells, .inl (cI, 63, .inl V_t_cells)), (A_t_owners, .inl (cI, 12, .inl V_t_owners))]) S hK hP hD hS hA (c_X4_enter l D cI cZ cB cJ A_t_numbers 10 _ V_t_numbers 2 1 f7 hq) [1] [0, 2, 3] rfl rfl (by decide +kernel) (by decide +kernel) (by decide +kernel) ⟨va_cnB 3 hts gX0_beginNextSeason_X4_enter_n37 rfl rfl rfl (hK.2 _ (List.mem_of_getElem? (i := 4) rfl)) (hts _ wd_X0_beginNextSeason_8) hd_X4_enter ⟨Nat.le_of_ble_eq_true rfl, Nat.le_of_ble_eq_true rfl⟩, hts _ wd_X0_beginNextSeason_7, trivial⟩ rfl hl.1 rfl (Nat.le_of_ble_eq_true rfl) dX0_beginNextSeason_14 ⟨Nat.zero_le _, Nat.zero_le _⟩ (fun H locs hP hD hS => ?_)
    replace hP : va_P D vwCl [(A_t, .inr (0, [.ref A_t_numbers, .ref A_t_owners, .ref A_t_cells])), (A_t_cells, .inl (cI, 63, .inl V_t_cells)), (A_t_owners, .inl (cI, 12, .inl V_t_owners)), (A_t_numbers, .inl (cI, 10, .inl f7))] H := hP
    replace hD : va_D A [(A_t, .inr (0, [.ref A_t_numbers, .ref A_t_owners, .ref A_t_cells])), (A_t_cells, .inl (cI, 63, .inl V_t_cells)), (A_t_owners, .inl (cI, 12, .inl V_t_owners)), (A_t_numbers, .inl (cI, 10, .inl f7))] := hD
    cases hg
    exact fin _ _ _ _ dX0_beginNextSeason_17 (hP.sub [0, 3, 1, 2] rfl) (hD.sub [0, 3, 1, 2] (by decide) rfl) hS
theorem hd_X1_size : yX1_size.cls = RX1 ∧ yX1_size.cls ≠ "java/lang/invoke/MethodHandle" ∧ yX1_size.cls ≠ "java/lang/invoke/VarHandle" ∧ (parseMethodDescriptor yX1_size.desc).map (fun d => d.parameters.length) = some 0 := by decide +kernel
theorem in_X1_size_X1 : ∀ w ∈ u_ws RX1 TX1 3, w ∈ wsX1_size := fun _ h => List.mem_cons_of_mem _ (List.mem_append_right _ h)
theorem wd_X1_size_1 : Cond.fieldLink RX1 21 "FogOrders$History" "saved" "I" ∈ wsX1_size := List.mem_of_getElem? (i := 1) rfl
abbrev rX1_size : Room := { frames := 0, cells := 0, slots := 0, locals := 0 }
set_option maxHeartbeats 4000000 in
set_option maxRecDepth 100000 in
theorem c_X1_size (l : Launch) (D : va_G) (cI cZ cB cJ : ClassId) (A_t : Nat) (A_t_boards : Nat) (V_t_oldest : Int32) (V_t_saved : Int32) (r0 : Int32) (hg : g_X1_size V_t_saved = some r0) : Met l yX1_size wsX1_size rX1_size (PcR D cI cZ cB cJ [(A_t, .inr (1, [.ref A_t_boards, .int V_t_oldest, .int V_t_saved]))] [.ref A_t]) (vp_Si (fun r' => r' = r0 ∧ True)) 0 0 (fun _ => False) := by
  refine bodyRi (cc := cX1_size) (maxL := 1) (lv := [(0, .ref A_t)]) (by decide) rfl (Nat.le_of_ble_eq_true rfl) rfl ?_
  intro p e s m args below meth c Q hx hb hml hown hts hP hK fin ls hl
  replace hown : s.vm.findClass RX1 = some m.cls := hown
  have S : CallFix p m c cX1_size 1 s args wsX1_size RX1 := ⟨hx, hb, hml, hown, hts⟩
  unfold g_X1_size at hg
  refine lv_aload_n hx hb dX1_size_0 rfl (lv_at hl 0 rfl) ?_
  refine xget (ci := 1) (C := RX1) (T := TX1) (N := 3) (v := .int V_t_saved) hx hb hts in_X1_size_X1 hown hK hP 0 rfl rfl 2 (by decide) wd_X1_size_1 rfl dX1_size_1 ?_
  cases hg
  exact fin _ _ dX1_size_4
theorem hd_X1_placeOf : yX1_placeOf.cls = RX1 ∧ yX1_placeOf.cls ≠ "java/lang/invoke/MethodHandle" ∧ yX1_placeOf.cls ≠ "java/lang/invoke/VarHandle" ∧ (parseMethodDescriptor yX1_placeOf.desc).map (fun d => d.parameters.length) = some 1 := by decide +kernel
abbrev rX1_placeOf : Room := { frames := 0, cells := 0, slots := 0, locals := 0 }
theorem in_X1_placeOf_X1 : ∀ w ∈ u_ws RX1 TX1 3, w ∈ wsX1_placeOf := fun _ h => List.mem_cons_of_mem _ (List.mem_append_right _ h)
theorem wd_X1_placeOf_1 : Cond.fieldLink RX1 17 "FogOrders$History" "oldest" "I" ∈ wsX1_placeOf := List.mem_of_getElem? (i := 1) rfl
theorem wd_X1_placeOf_2 : Cond.fieldLink RX1 11 "FogOrders$History" "boards" "[LFogOrders$Board;" ∈ wsX1_placeOf := List.mem_of_getElem? (i := 2) rfl
set_option maxHeartbeats 4000000 in
set_option maxRecDepth 100000 in
theorem c_X1_placeOf (l : Launch) (D : va_G) (cI cZ cB cJ : ClassId) (A_t A_t_boards : Nat) (A_t_b : Nat → Nat) (V_t_oldest V_t_saved x1 r0 : Int32) (hg : g_X1_placeOf V_t_oldest x1 = some r0) : Met l yX1_placeOf wsX1_placeOf rX1_placeOf (PcR D cI cZ cB cJ [(A_t, .inr (1, [.ref A_t_boards, .int V_t_oldest, .int V_t_saved])), (A_t_boards, .inl (cB, 6, .inr (.inr (.inr (.inr (fun j => some (A_t_b j)))))))] [.ref A_t, .int x1]) (va_Sq (fun q => q = plq A_t_b r0)) 0 0 (fun _ => False) := by
  refine bodyR (cc := cX1_placeOf) (maxL := 3) (ret := some (.object "FogOrders$Board")) (lv := [(0, .ref A_t), (1, .int x1)]) (by decide) rfl (Nat.le_of_ble_eq_true rfl) rfl ?_
  intro p e s m below meth c hx hb hr hml hown hts hlocks hP hK ls hl
  replace hown : s.vm.findClass RX1 = some m.cls := hown
  have fin : ∀ (pc : Nat) (ls : Array Slot) (q : Option Nat), q = plq A_t_b r0 → decode cX1_placeOf pc = .ok (.areturn, 1) → W p l e rX1_placeOf s m ([Value.ref A_t, .int x1] : List Value).toArray below meth c s.heap [] 0 0 (MQ below (va_Sq (fun q => q = plq A_t_b r0)) ([Value.ref A_t, .int x1] : List Value).toArray s 0 0 (fun _ => False)) (F0 m pc ls [va_rf q]) := by
    intro pc ls q hq hd
    exact W.aret hx hb hr (Or.inl ⟨_, rfl⟩) (by cases q with
      | none => exact Or.inl rfl
      | some a => exact Or.inr ⟨a, rfl⟩) (fun t ht hW => ⟨q, rfl, hq, ht⟩) (fun q hq => absurd hq List.not_mem_nil) hd hlocks
  unfold g_X1_placeOf at hg
  refine lv_iload_n hx hb dX1_placeOf_0 rfl (lv_at hl 1 rfl) ?_
  refine lv_if_ge (tgt := 6) hx hb dX1_placeOf_1 (by decide) (fun hc => ?_) (fun hc => ?_)
  · replace hg := if_yes hg hc
    refine lv_aload_n hx hb dX1_placeOf_6 rfl (lv_at hl 0 rfl) ?_
    refine xget (ci := 1) (C := RX1) (T := TX1) (N := 3) (v := .int V_t_oldest) hx hb hts in_X1_placeOf_X1 hown hK hP 0 rfl rfl 1 (by decide) wd_X1_placeOf_1 rfl dX1_placeOf_7 ?_
    refine lv_iload_n hx hb dX1_placeOf_10 rfl (lv_at hl 1 rfl) ?_
    refine lv_iadd hx hb dX1_placeOf_11 ?_
    refine lv_bipush (v := 6) hx hb dX1_placeOf_12 (by decide) ?_
    refine lv_irem hx hb dX1_placeOf_14 (by decide) ?_
    generalize ((V_t_oldest + x1) - (V_t_oldest + x1) / 6 * 6) = i at hg ⊢
    refine lv_istore_n (lv' := [(2, .int i), (0, .ref A_t), (1, .int x1)]) hx hb dX1_placeOf_15 rfl hl (by decide) rfl (fun ls hl => ?_)
    refine lv_iload_n hx hb dX1_placeOf_16 rfl (lv_at hl 0 rfl) ?_
    refine lv_if_lt (tgt := 38) hx hb dX1_placeOf_17 (by decide) (fun hc2 => ?_) (fun hc2 => ?_)
    · replace hg := if_yes hg hc2
      cases hg
      refine lv_null hx hb dX1_placeOf_38 ?_
      exact fin _ _ none rfl dX1_placeOf_39
    · replace hg := if_no hg hc2
      refine lv_iload_n hx hb dX1_placeOf_20 rfl (lv_at hl 0 rfl) ?_
      refine lv_aload_n hx hb dX1_placeOf_21 rfl (lv_at hl 1 rfl) ?_
      refine xget (ci := 1) (C := RX1) (T := TX1) (N := 3) (v := .ref A_t_boards) hx hb hts in_X1_placeOf_X1 hown hK hP 0 rfl rfl 0 (by decide) wd_X1_placeOf_2 rfl dX1_placeOf_22 ?_
      refine va_alen (ty := .object RX0) (v := 6) hx hb hK.1 hP 1 2 rfl rfl rfl dX1_placeOf_25 ?_
      refine lv_icmp_ge (tgt := 38) hx hb dX1_placeOf_26 (by decide) (fun hc3 => ?_) (fun hc3 => ?_)
      · replace hg := if_yes hg hc3
        cases hg
        refine lv_null hx hb dX1_placeOf_38 ?_
        exact fin _ _ none rfl dX1_placeOf_39
      · replace hg := if_no hg hc3
        cases hg
        refine lv_aload_n hx hb dX1_placeOf_29 rfl (lv_at hl 1 rfl) ?_
        refine xget (ci := 1) (C := RX1) (T := TX1) (N := 3) (v := .ref A_t_boards) hx hb hts in_X1_placeOf_X1 hown hK hP 0 rfl rfl 0 (by decide) wd_X1_placeOf_2 rfl dX1_placeOf_30 ?_
        refine lv_iload_n hx hb dX1_placeOf_33 rfl (lv_at hl 0 rfl) ?_
        refine va_aldq hx hb hK.1 hP 1 2 rfl rfl (vp_in_ofI (M := 6) rfl hc2 hc3) dX1_placeOf_34 ?_
        refine lv_goto (tgt := 39) hx hb dX1_placeOf_35 (by decide) ?_
        exact fin _ _ (some (A_t_b r0.toNatClampNeg)) (by unfold plq; rw [if_neg hc2]) dX1_placeOf_39
  · replace hg := if_no hg hc
    cases hg
    refine lv_null hx hb dX1_placeOf_4 ?_
    exact fin _ _ none rfl dX1_placeOf_5
theorem hd_X1_save : yX1_save.cls = RX1 ∧ yX1_save.cls ≠ "java/lang/invoke/MethodHandle" ∧ yX1_save.cls ≠ "java/lang/invoke/VarHandle" ∧ (parseMethodDescriptor yX1_save.desc).map (fun d => d.parameters.length) = some 1 := by decide +kernel
theorem in_X1_save_X1 : ∀ w ∈ u_ws RX1 TX1 3, w ∈ wsX1_save := fun _ h => List.mem_cons_of_mem _ (List.mem_append_left _ (List.mem_append_right _ h))
theorem wd_X1_save_1 : Cond.fieldLink RX1 21 "FogOrders$History" "saved" "I" ∈ wsX1_save := List.mem_of_getElem? (i := 1) rfl
theorem wd_X1_save_2 : Cond.fieldLink RX1 17 "FogOrders$History" "oldest" "I" ∈ wsX1_save := List.mem_of_getElem? (i := 2) rfl
abbrev rX1_save : Room := { frames := 2, cells := 0, slots := 0, locals := 81 }
set_option maxHeartbeats 4000000 in
set_option maxRecDepth 100000 in
theorem c_X1_save (l : Launch) (D : va_G) (cI cZ cB cJ : ClassId) (A_t : Nat) (A_t_boards : Nat) (A_t_b : Nat → Nat) (A_t_bn : Nat → Nat) (A_t_bo : Nat → Nat) (A_t_bc : Nat → Nat) (A_p1 : Nat) (A_p1_numbers : Nat) (A_p1_owners : Nat) (A_p1_cells : Nat) (sz : Nat) (V_t_oldest : Int32) (V_t_saved : Int32) (V_t_bn : Nat → Nat → Int32) (V_t_bo : Nat → Nat → Int32) (V_t_bc : Nat → Nat → Int32) (V_p1_numbers : Nat → Int32) (V_p1_owners : Nat → Int32) (V_p1_cells : Nat → Int32) (w1 : Int32) (w2 : Int32) (w3 : Nat → Nat → Int32) (w4 : Nat → Nat → Int32) (w5 : Nat → Nat → Int32) (hg : g_X1_save V_t_oldest V_t_saved V_t_bn V_t_bo V_t_bc V_p1_numbers V_p1_owners V_p1_cells = some (w1, w2, w3, w4, w5)) : Met l yX1_save wsX1_save rX1_save (PcW D cI cZ cB cJ sz [(A_t, .inr (1, [.ref A_t_boards, .int V_t_oldest, .int V_t_saved])), (A_t_boards, .inl (cB, 6, .inr (.inr (.inr (.inr (fun j => some (A_t_b j))))))), ((A_t_b 0), .inr (0, [.ref (A_t_bn 0), .ref (A_t_bo 0), .ref (A_t_bc 0)])), ((A_t_b 1), .inr (0, [.ref (A_t_bn 1), .ref (A_t_bo 1), .ref (A_t_bc 1)])), ((A_t_b 2), .inr (0, [.ref (A_t_bn 2), .ref (A_t_bo 2), .ref (A_t_bc 2)])), ((A_t_b 3), .inr (0, [.ref (A_t_bn 3), .ref (A_t_bo 3), .ref (A_t_bc 3)])), ((A_t_b 4), .inr (0, [.ref (A_t_bn 4), .ref (A_t_bo 4), .ref (A_t_bc 4)])), ((A_t_b 5), .inr (0, [.ref (A_t_bn 5), .ref (A_t_bo 5), .ref (A_t_bc 5)])), ((A_t_bn 0), .inl (cI, 10, .inl (V_t_bn 0))), ((A_t_bn 1), .inl (cI, 10, .inl (V_t_bn 1))), ((A_t_bn 2), .inl (cI, 10, .inl (V_t_bn 2))), ((A_t_bn 3), .inl (cI, 10, .inl (V_t_bn 3))), ((A_t_bn 4), .inl (cI, 10, .inl (V_t_bn 4))), ((A_t_bn 5), .inl (cI, 10, .inl (V_t_bn 5))), ((A_t_bo 0), .inl (cI, 12, .inl (V_t_bo 0))), ((A_t_bo 1), .inl (cI, 12, .inl (V_t_bo 1))), ((A_t_bo 2), .inl (cI, 12, .inl (V_t_bo 2))), ((A_t_bo 3), .inl (cI, 12, .inl (V_t_bo 3))), ((A_t_bo 4), .inl (cI, 12, .inl (V_t_bo 4))), ((A_t_bo 5), .inl (cI, 12, .inl (V_t_bo 5))), ((A_t_bc 0), .inl (cI, 63, .inl (V_t_bc 0))), ((A_t_bc 1), .inl (cI, 63, .inl (V_t_bc 1))), ((A_t_bc 2), .inl (cI, 63, .inl (V_t_bc 2))), ((A_t_bc 3), .inl (cI, 63, .inl (V_t_bc 3))), ((A_t_bc 4), .inl (cI, 63, .inl (V_t_bc 4))), ((A_t_bc 5), .inl (cI, 63, .inl (V_t_bc 5))), (A_p1, .inr (0, [.ref A_p1_numbers, .ref A_p1_owners, .ref A_p1_cells])), (A_p1_numbers, .inl (cI, 10, .inl V_p1_numbers)), (A_p1_owners, .inl (cI, 12, .inl V_p1_owners)), (A_p1_cells, .inl (cI, 63, .inl V_p1_cells))] [.ref A_t, .ref A_p1]) (QWv D cI cZ cB cJ sz [(A_t, .inr (1, [.ref A_t_boards, .int V_t_oldest, .int V_t_saved])), (A_t_boards, .inl (cB, 6, .inr (.inr (.inr (.inr (fun j => some (A_t_b j))))))), ((A_t_b 0), .inr (0, [.ref (A_t_bn 0), .ref (A_t_bo 0), .ref (A_t_bc 0)])), ((A_t_b 1), .inr (0, [.ref (A_t_bn 1), .ref (A_t_bo 1), .ref (A_t_bc 1)])), ((A_t_b 2), .inr (0, [.ref (A_t_bn 2), .ref (A_t_bo 2), .ref (A_t_bc 2)])), ((A_t_b 3), .inr (0, [.ref (A_t_bn 3), .ref (A_t_bo 3), .ref (A_t_bc 3)])), ((A_t_b 4), .inr (0, [.ref (A_t_bn 4), .ref (A_t_bo 4), .ref (A_t_bc 4)])), ((A_t_b 5), .inr (0, [.ref (A_t_bn 5), .ref (A_t_bo 5), .ref (A_t_bc 5)])), ((A_t_bn 0), .inl (cI, 10, .inl (V_t_bn 0))), ((A_t_bn 1), .inl (cI, 10, .inl (V_t_bn 1))), ((A_t_bn 2), .inl (cI, 10, .inl (V_t_bn 2))), ((A_t_bn 3), .inl (cI, 10, .inl (V_t_bn 3))), ((A_t_bn 4), .inl (cI, 10, .inl (V_t_bn 4))), ((A_t_bn 5), .inl (cI, 10, .inl (V_t_bn 5))), ((A_t_bo 0), .inl (cI, 12, .inl (V_t_bo 0))), ((A_t_bo 1), .inl (cI, 12, .inl (V_t_bo 1))), ((A_t_bo 2), .inl (cI, 12, .inl (V_t_bo 2))), ((A_t_bo 3), .inl (cI, 12, .inl (V_t_bo 3))), ((A_t_bo 4), .inl (cI, 12, .inl (V_t_bo 4))), ((A_t_bo 5), .inl (cI, 12, .inl (V_t_bo 5))), ((A_t_bc 0), .inl (cI, 63, .inl (V_t_bc 0))), ((A_t_bc 1), .inl (cI, 63, .inl (V_t_bc 1))), ((A_t_bc 2), .inl (cI, 63, .inl (V_t_bc 2))), ((A_t_bc 3), .inl (cI, 63, .inl (V_t_bc 3))), ((A_t_bc 4), .inl (cI, 63, .inl (V_t_bc 4))), ((A_t_bc 5), .inl (cI, 63, .inl (V_t_bc 5))), (A_p1, .inr (0, [.ref A_p1_numbers, .ref A_p1_owners, .ref A_p1_cells])), (A_p1_numbers, .inl (cI, 10, .inl V_p1_numbers)), (A_p1_owners, .inl (cI, 12, .inl V_p1_owners)), (A_p1_cells, .inl (cI, 63, .inl V_p1_cells))] [(A_t, .inr (1, [.ref A_t_boards, .int w1, .int w2])), (A_t_boards, .inl (cB, 6, .inr (.inr (.inr (.inr (fun j => some (A_t_b j))))))), ((A_t_b 0), .inr (0, [.ref (A_t_bn 0), .ref (A_t_bo 0), .ref (A_t_bc 0)])), ((A_t_b 1), .inr (0, [.ref (A_t_bn 1), .ref (A_t_bo 1), .ref (A_t_bc 1)])), ((A_t_b 2), .inr (0, [.ref (A_t_bn 2), .ref (A_t_bo 2), .ref (A_t_bc 2)])), ((A_t_b 3), .inr (0, [.ref (A_t_bn 3), .ref (A_t_bo 3), .ref (A_t_bc 3)])), ((A_t_b 4), .inr (0, [.ref (A_t_bn 4), .ref (A_t_bo 4), .ref (A_t_bc 4)])), ((A_t_b 5), .inr (0, [.ref (A_t_bn 5), .ref (A_t_bo 5), .ref (A_t_bc 5)])), ((A_t_bn 0), .inl (cI, 10, .inl (w3 0))), ((A_t_bn 1), .inl (cI, 10, .inl (w3 1))), ((A_t_bn 2), .inl (cI, 10, .inl (w3 2))), ((A_t_bn 3), .inl (cI, 10, .inl (w3 3))), ((A_t_bn 4), .inl (cI, 10, .inl (w3 4))), ((A_t_bn 5), .inl (cI, 10, .inl (w3 5))), ((A_t_bo 0), .inl (cI, 12, .inl (w4 0))), ((A_t_bo 1), .inl (cI, 12, .inl (w4 1))), ((A_t_bo 2), .inl (cI, 12, .inl (w4 2))), ((A_t_bo 3), .inl (cI, 12, .inl (w4 3))), ((A_t_bo 4), .inl (cI, 12, .inl (w4 4))), ((A_t_bo 5), .inl (cI, 12, .inl (w4 5))), ((A_t_bc 0), .inl (cI, 63, .inl (w5 0))), ((A_t_bc 1), .inl (cI, 63, .inl (w5 1))), ((A_t_bc 2), .inl (cI, 63, .inl (w5 2))), ((A_t_bc 3), .inl (cI, 63, .inl (w5 3))), ((A_t_bc 4), .inl (cI, 63, .inl (w5 4))), ((A_t_bc 5), .inl (cI, 63, .inl (w5 5))), (A_p1, .inr (0, [.ref A_p1_numbers, .ref A_p1_owners, .ref A_p1_cells])), (A_p1_numbers, .inl (cI, 10, .inl V_p1_numbers)), (A_p1_owners, .inl (cI, 12, .inl V_p1_owners)), (A_p1_cells, .inl (cI, 63, .inl V_p1_cells))]) 0 0 (va_A [(A_t, .inr (1, [.ref A_t_boards, .int V_t_oldest, .int V_t_saved])), (A_t_boards, .inl (cB, 6, .inr (.inr (.inr (.inr (fun j => some (A_t_b j))))))), ((A_t_b 0), .inr (0, [.ref (A_t_bn 0), .ref (A_t_bo 0), .ref (A_t_bc 0)])), ((A_t_b 1), .inr (0, [.ref (A_t_bn 1), .ref (A_t_bo 1), .ref (A_t_bc 1)])), ((A_t_b 2), .inr (0, [.ref (A_t_bn 2), .ref (A_t_bo 2), .ref (A_t_bc 2)])), ((A_t_b 3), .inr (0, [.ref (A_t_bn 3), .ref (A_t_bo 3), .ref (A_t_bc 3)])), ((A_t_b 4), .inr (0, [.ref (A_t_bn 4), .ref (A_t_bo 4), .ref (A_t_bc 4)])), ((A_t_b 5), .inr (0, [.ref (A_t_bn 5), .ref (A_t_bo 5), .ref (A_t_bc 5)])), ((A_t_bn 0), .inl (cI, 10, .inl (V_t_bn 0))), ((A_t_bn 1), .inl (cI, 10, .inl (V_t_bn 1))), ((A_t_bn 2), .inl (cI, 10, .inl (V_t_bn 2))), ((A_t_bn 3), .inl (cI, 10, .inl (V_t_bn 3))), ((A_t_bn 4), .inl (cI, 10, .inl (V_t_bn 4))), ((A_t_bn 5), .inl (cI, 10, .inl (V_t_bn 5))), ((A_t_bo 0), .inl (cI, 12, .inl (V_t_bo 0))), ((A_t_bo 1), .inl (cI, 12, .inl (V_t_bo 1))), ((A_t_bo 2), .inl (cI, 12, .inl (V_t_bo 2))), ((A_t_bo 3), .inl (cI, 12, .inl (V_t_bo 3))), ((A_t_bo 4), .inl (cI, 12, .inl (V_t_bo 4))), ((A_t_bo 5), .inl (cI, 12, .inl (V_t_bo 5))), ((A_t_bc 0), .inl (cI, 63, .inl (V_t_bc 0))), ((A_t_bc 1), .inl (cI, 63, .inl (V_t_bc 1))), ((A_t_bc 2), .inl (cI, 63, .inl (V_t_bc 2))), ((A_t_bc 3), .inl (cI, 63, .inl (V_t_bc 3))), ((A_t_bc 4), .inl (cI, 63, .inl (V_t_bc 4))), ((A_t_bc 5), .inl (cI, 63, .inl (V_t_bc 5))), (A_p1, .inr (0, [.ref A_p1_numbers, .ref A_p1_owners, .ref A_p1_cells])), (A_p1_numbers, .inl (cI, 10, .inl V_p1_numbers)), (A_p1_owners, .inl (cI, 12, .inl V_p1_owners)), (A_p1_cells, .inl (cI, 63, .inl V_p1_cells))] sz) := by
  refine bodyWv (cc := cX1_save) (maxL := 3) (lv := [(0, .ref A_t), (1, .ref A_p1)]) (by decide) rfl (Nat.le_of_ble_eq_true rfl) rfl ?_
  intro p e s m args below meth c Q hx hb hml hown hts A hP hK hD hA hS fin ls hl
  replace hown : s.vm.findClass RX1 = some m.cls := hown
  have S : CallFix p m c cX1_save 3 s args wsX1_save RX1 := ⟨hx, hb, hml, hown, hts⟩
  replace fin : ∀ (z9 : Int32 × Int32 × (Nat → Nat → Int32) × (Nat → Nat → Int32) × (Nat → Nat → Int32)), z9 = (w1, w2, w3, w4, w5) → ∀ (pc : Nat) (ls : Array Slot) (H : Heap) (locs : List Loc), decode cX1_save pc = .ok (.return_, 1) → va_P D vwCl [(A_t, .inr (1, [.ref A_t_boards, .int z9.1, .int z9.2.1])), (A_t_boards, .inl (cB, 6, .inr (.inr (.inr (.inr (fun j => some (A_t_b j))))))), ((A_t_b 0), .inr (0, [.ref (A_t_bn 0), .ref (A_t_bo 0), .ref (A_t_bc 0)])), ((A_t_b 1), .inr (0, [.ref (A_t_bn 1), .ref (A_t_bo 1), .ref (A_t_bc 1)])), ((A_t_b 2), .inr (0, [.ref (A_t_bn 2), .ref (A_t_bo 2), .ref (A_t_bc 2)])), ((A_t_b 3), .inr (0, [.ref (A_t_bn 3), .ref (A_t_bo 3), .ref (A_t_bc 3)])), ((A_t_b 4), .inr (0, [.ref (A_t_bn 4), .ref (A_t_bo 4), .ref (A_t_bc 4)])), ((A_t_b 5), .inr (0, [.ref (A_t_bn 5), .ref (A_t_bo 5), .ref (A_t_bc 5)])), ((A_t_bn 0), .inl (cI, 10, .inl (z9.2.2.1 0))), ((A_t_bn 1), .inl (cI, 10, .inl (z9.2.2.1 1))), ((A_t_bn 2), .inl (cI, 10, .inl (z9.2.2.1 2))), ((A_t_bn 3), .inl (cI, 10, .inl (z9.2.2.1 3))), ((A_t_bn 4), .inl (cI, 10, .inl (z9.2.2.1 4))), ((A_t_bn 5), .inl (cI, 10, .inl (z9.2.2.1 5))), ((A_t_bo 0), .inl (cI, 12, .inl (z9.2.2.2.1 0))), ((A_t_bo 1), .inl (cI, 12, .inl (z9.2.2.2.1 1))), ((A_t_bo 2), .inl (cI, 12, .inl (z9.2.2.2.1 2))), ((A_t_bo 3), .inl (cI, 12, .inl (z9.2.2.2.1 3))), ((A_t_bo 4), .inl (cI, 12, .inl (z9.2.2.2.1 4))), ((A_t_bo 5), .inl (cI, 12, .inl (z9.2.2.2.1 5))), ((A_t_bc 0), .inl (cI, 63, .inl (z9.2.2.2.2 0))), ((A_t_bc 1), .inl (cI, 63, .inl (z9.2.2.2.2 1))), ((A_t_bc 2), .inl (cI, 63, .inl (z9.2.2.2.2 2))), ((A_t_bc 3), .inl (cI, 63, .inl (z9.2.2.2.2 3))), ((A_t_bc 4), .inl (cI, 63, .inl (z9.2.2.2.2 4))), ((A_t_bc 5), .inl (cI, 63, .inl (z9.2.2.2.2 5))), (A_p1, .inr (0, [.ref A_p1_numbers, .ref A_p1_owners, .ref A_p1_cells])), (A_p1_numbers, .inl (cI, 10, .inl V_p1_numbers)), (A_p1_owners, .inl (cI, 12, .inl V_p1_owners)), (A_p1_cells, .inl (cI, 63, .inl V_p1_cells))] H → va_D A [(A_t, .inr (1, [.ref A_t_boards, .int z9.1, .int z9.2.1])), (A_t_boards, .inl (cB, 6, .inr (.inr (.inr (.inr (fun j => some (A_t_b j))))))), ((A_t_b 0), .inr (0, [.ref (A_t_bn 0), .ref (A_t_bo 0), .ref (A_t_bc 0)])), ((A_t_b 1), .inr (0, [.ref (A_t_bn 1), .ref (A_t_bo 1), .ref (A_t_bc 1)])), ((A_t_b 2), .inr (0, [.ref (A_t_bn 2), .ref (A_t_bo 2), .ref (A_t_bc 2)])), ((A_t_b 3), .inr (0, [.ref (A_t_bn 3), .ref (A_t_bo 3), .ref (A_t_bc 3)])), ((A_t_b 4), .inr (0, [.ref (A_t_bn 4), .ref (A_t_bo 4), .ref (A_t_bc 4)])), ((A_t_b 5), .inr (0, [.ref (A_t_bn 5), .ref (A_t_bo 5), .ref (A_t_bc 5)])), ((A_t_bn 0), .inl (cI, 10, .inl (z9.2.2.1 0))), ((A_t_bn 1), .inl (cI, 10, .inl (z9.2.2.1 1))), ((A_t_bn 2), .inl (cI, 10, .inl (z9.2.2.1 2))), ((A_t_bn 3), .inl (cI, 10, .inl (z9.2.2.1 3))), ((A_t_bn 4), .inl (cI, 10, .inl (z9.2.2.1 4))), ((A_t_bn 5), .inl (cI, 10, .inl (z9.2.2.1 5))), ((A_t_bo 0), .inl (cI, 12, .inl (z9.2.2.2.1 0))), ((A_t_bo 1), .inl (cI, 12, .inl (z9.2.2.2.1 1))), ((A_t_bo 2), .inl (cI, 12, .inl (z9.2.2.2.1 2))), ((A_t_bo 3), .inl (cI, 12, .inl (z9.2.2.2.1 3))), ((A_t_bo 4), .inl (cI, 12, .inl (z9.2.2.2.1 4))), ((A_t_bo 5), .inl (cI, 12, .inl (z9.2.2.2.1 5))), ((A_t_bc 0), .inl (cI, 63, .inl (z9.2.2.2.2 0))), ((A_t_bc 1), .inl (cI, 63, .inl (z9.2.2.2.2 1))), ((A_t_bc 2), .inl (cI, 63, .inl (z9.2.2.2.2 2))), ((A_t_bc 3), .inl (cI, 63, .inl (z9.2.2.2.2 3))), ((A_t_bc 4), .inl (cI, 63, .inl (z9.2.2.2.2 4))), ((A_t_bc 5), .inl (cI, 63, .inl (z9.2.2.2.2 5))), (A_p1, .inr (0, [.ref A_p1_numbers, .ref A_p1_owners, .ref A_p1_cells])), (A_p1_numbers, .inl (cI, 10, .inl V_p1_numbers)), (A_p1_owners, .inl (cI, 12, .inl V_p1_owners)), (A_p1_cells, .inl (cI, 63, .inl V_p1_cells))] → va_S A s.heap H locs → W p l e rX1_save s m args below meth c H locs 0 0 Q (F0 m pc ls []) := fun z9 e9 => by subst e9; exact fin
  unfold g_X1_save at hg
  refine lv_aload_n hx hb dX1_save_0 rfl (lv_at hl 0 rfl) ?_
  refine xget (ci := 1) (C := RX1) (T := TX1) (N := 3) (v := .int V_t_saved) hx hb hts in_X1_save_X1 hown hK hP 0 rfl rfl 2 (by decide) wd_X1_save_1 rfl dX1_save_1 ?_
  refine lv_bipush (v := 6) hx hb dX1_save_4 (by decide) ?_
  have hJ1 : ∀ (v1 : Int32) (v2 : Int32), ∀ (H : Heap) (locs : List Loc), va_P D vwCl [(A_t, .inr (1, [.ref A_t_boards, .int v2, .int v1])), (A_t_boards, .inl (cB, 6, .inr (.inr (.inr (.inr (fun j => some (A_t_b j))))))), ((A_t_b 0), .inr (0, [.ref (A_t_bn 0), .ref (A_t_bo 0), .ref (A_t_bc 0)])), ((A_t_b 1), .inr (0, [.ref (A_t_bn 1), .ref (A_t_bo 1), .ref (A_t_bc 1)])), ((A_t_b 2), .inr (0, [.ref (A_t_bn 2), .ref (A_t_bo 2), .ref (A_t_bc 2)])), ((A_t_b 3), .inr (0, [.ref (A_t_bn 3), .ref (A_t_bo 3), .ref (A_t_bc 3)])), ((A_t_b 4), .inr (0, [.ref (A_t_bn 4), .ref (A_t_bo 4), .ref (A_t_bc 4)])), ((A_t_b 5), .inr (0, [.ref (A_t_bn 5), .ref (A_t_bo 5), .ref (A_t_bc 5)])), ((A_t_bn 0), .inl (cI, 10, .inl (V_t_bn 0))), ((A_t_bn 1), .inl (cI, 10, .inl (V_t_bn 1))), ((A_t_bn 2), .inl (cI, 10, .inl (V_t_bn 2))), ((A_t_bn 3), .inl (cI, 10, .inl (V_t_bn 3))), ((A_t_bn 4), .inl (cI, 10, .inl (V_t_bn 4))), ((A_t_bn 5), .inl (cI, 10, .inl (V_t_bn 5))), ((A_t_bo 0), .inl (cI, 12, .inl (V_t_bo 0))), ((A_t_bo 1), .inl (cI, 12, .inl (V_t_bo 1))), ((A_t_bo 2), .inl (cI, 12, .inl (V_t_bo 2))), ((A_t_bo 3), .inl (cI, 12, .inl (V_t_bo 3))), ((A_t_bo 4), .inl (cI, 12, .inl (V_t_bo 4))), ((A_t_bo 5), .inl (cI, 12, .inl (V_t_bo 5))), ((A_t_bc 0), .inl (cI, 63, .inl (V_t_bc 0))), ((A_t_bc 1), .inl (cI, 63, .inl (V_t_bc 1))), ((A_t_bc 2), .inl (cI, 63, .inl (V_t_bc 2))), ((A_t_bc 3), .inl (cI, 63, .inl (V_t_bc 3))), ((A_t_bc 4), .inl (cI, 63, .inl (V_t_bc 4))), ((A_t_bc 5), .inl (cI, 63, .inl (V_t_bc 5))), (A_p1, .inr (0, [.ref A_p1_numbers, .ref A_p1_owners, .ref A_p1_cells])), (A_p1_numbers, .inl (cI, 10, .inl V_p1_numbers)), (A_p1_owners, .inl (cI, 12, .inl V_p1_owners)), (A_p1_cells, .inl (cI, 63, .inl V_p1_cells))] H → va_D A [(A_t, .inr (1, [.ref A_t_boards, .int v2, .int v1])), (A_t_boards, .inl (cB, 6, .inr (.inr (.inr (.inr (fun j => some (A_t_b j))))))), ((A_t_b 0), .inr (0, [.ref (A_t_bn 0), .ref (A_t_bo 0), .ref (A_t_bc 0)])), ((A_t_b 1), .inr (0, [.ref (A_t_bn 1), .ref (A_t_bo 1), .ref (A_t_bc 1)])), ((A_t_b 2), .inr (0, [.ref (A_t_bn 2), .ref (A_t_bo 2), .ref (A_t_bc 2)])), ((A_t_b 3), .inr (0, [.ref (A_t_bn 3), .ref (A_t_bo 3), .ref (A_t_bc 3)])), ((A_t_b 4), .inr (0, [.ref (A_t_bn 4), .ref (A_t_bo 4), .ref (A_t_bc 4)])), ((A_t_b 5), .inr (0, [.ref (A_t_bn 5), .ref (A_t_bo 5), .ref (A_t_bc 5)])), ((A_t_bn 0), .inl (cI, 10, .inl (V_t_bn 0))), ((A_t_bn 1), .inl (cI, 10, .inl (V_t_bn 1))), ((A_t_bn 2), .inl (cI, 10, .inl (V_t_bn 2))), ((A_t_bn 3), .inl (cI, 10, .inl (V_t_bn 3))), ((A_t_bn 4), .inl (cI, 10, .inl (V_t_bn 4))), ((A_t_bn 5), .inl (cI, 10, .inl (V_t_bn 5))), ((A_t_bo 0), .inl (cI, 12, .inl (V_t_bo 0))), ((A_t_bo 1), .inl (cI, 12, .inl (V_t_bo 1))), ((A_t_bo 2), .inl (cI, 12, .inl (V_t_bo 2))), ((A_t_bo 3), .inl (cI, 12, .inl (V_t_bo 3))), ((A_t_bo 4), .inl (cI, 12, .inl (V_t_bo 4))), ((A_t_bo 5), .inl (cI, 12, .inl (V_t_bo 5))), ((A_t_bc 0), .inl (cI, 63, .inl (V_t_bc 0))), ((A_t_bc 1), .inl (cI, 63, .inl (V_t_bc 1))), ((A_t_bc 2), .inl (cI, 63, .inl (V_t_bc 2))), ((A_t_bc 3), .inl (cI, 63, .inl (V_t_bc 3))), ((A_t_bc 4), .inl (cI, 63, .inl (V_t_bc 4))), ((A_t_bc 5), .inl (cI, 63, .inl (V_t_bc 5))), (A_p1, .inr (0, [.ref A_p1_numbers, .ref A_p1_owners, .ref A_p1_cells])), (A_p1_numbers, .inl (cI, 10, .inl V_p1_numbers)), (A_p1_owners, .inl (cI, 12, .inl V_p1_owners)), (A_p1_cells, .inl (cI, 63, .inl V_p1_cells))] → va_S A s.heap H locs → ∀ ls : Array Slot, lv_has ls 3 [(0, .ref A_t), (1, .ref A_p1)] → g_X1_save_J1 V_t_bn V_t_bo V_t_bc V_p1_numbers V_p1_owners V_p1_cells v1 v2 = some (w1, w2, w3, w4, w5) → W p l e rX1_save s m args below meth c H locs 0 0 Q (F0 m 32 ls []) := by
    intro v1 v2 H locs hP hD hS ls hl hg
    unfold g_X1_save_J1 at hg
    refine lv_aload_n hx hb dX1_save_32 rfl (lv_at hl 0 rfl) ?_
    refine lv_aload_n hx hb dX1_save_33 rfl (lv_at hl 0 rfl) ?_
    refine xget (ci := 1) (C := RX1) (T := TX1) (N := 3) (v := .int v1) hx hb hts in_X1_save_X1 hown hK hP 0 rfl rfl 2 (by decide) wd_X1_save_1 rfl dX1_save_34 ?_
    obtain ⟨v3, hq, hg⟩ := bind_ex hg
    refine callRVq (As := [.int v1]) (rest := []) S hK hP (c_X1_placeOf l D cI cZ cB cJ A_t A_t_boards A_t_b v2 v1 v1 v3 hq) [0, 1] rfl (cwV 1 hts gX1_save_X1_placeOf rfl rfl rfl hd_X1_placeOf ⟨Nat.le_of_ble_eq_true rfl, Nat.le_of_ble_eq_true rfl⟩) rfl rfl rfl hl.1 rfl (Nat.le_of_ble_eq_true rfl) dX1_save_37 ⟨Nat.zero_le _, Nat.zero_le _⟩ ?_
    by_cases hk : v3 < 0
    · replace hg := if_yes hg hk
      rw [plq_neg hk]
      refine lv_astore_nN (lv' := [(2, .null), (0, .ref A_t), (1, .ref A_p1)]) hx hb dX1_save_40 rfl hl (by decide) rfl (fun ls hl => ?_)
      refine lv_aload_nN hx hb dX1_save_41 rfl (lv_at hl 0 rfl) ?_
      refine lv_ifnullN (tgt := 60) hx hb dX1_save_42 (by decide) ?_
      exact fin _ (Option.some.inj hg) _ _ _ _ dX1_save_60 hP hD hS
    · replace hg := if_no hg hk
      by_cases hk0 : v3 = 0
      · replace hg := if_yes hg hk0
        rw [hk0, show va_rf (plq A_t_b 0) = .ref (A_t_b 0) from rfl]
        refine lv_astore_n (lv' := [(2, .ref (A_t_b 0)), (0, .ref A_t), (1, .ref A_p1)]) hx hb dX1_save_40 rfl hl (by decide) rfl (fun ls hl => ?_)
        refine lv_aload_n hx hb dX1_save_41 rfl (lv_at hl 0 rfl) ?_
        refine lv_ifnull hx hb dX1_save_42 ?_
        refine lv_aload_n hx hb dX1_save_45 rfl (lv_at hl 0 rfl) ?_
        refine lv_aload_n hx hb dX1_save_46 rfl (lv_at hl 2 rfl) ?_
        obtain ⟨f4, f5, f6, hq, hg⟩ := b3_ex hg
        refine callWVv (As := [.ref A_p1]) (rest := []) (wr := [(A_t, .inr (1, [.ref A_t_boards, .int v2, .int v1])), (A_t_boards, .inl (cB, 6, .inr (.inr (.inr (.inr (fun j => some (A_t_b j))))))), ((A_t_b 1), .inr (0, [.ref (A_t_bn 1), .ref (A_t_bo 1), .ref (A_t_bc 1)])), ((A_t_b 2), .inr (0, [.ref (A_t_bn 2), .ref (A_t_bo 2), .ref (A_t_bc 2)])), ((A_t_b 3), .inr (0, [.ref (A_t_bn 3), .ref (A_t_bo 3), .ref (A_t_bc 3)])), ((A_t_b 4), .inr (0, [.ref (A_t_bn 4), .ref (A_t_bo 4), .ref (A_t_bc 4)])), ((A_t_b 5), .inr (0, [.ref (A_t_bn 5), .ref (A_t_bo 5), .ref (A_t_bc 5)])), ((A_t_bn 1), .inl (cI, 10, .inl (V_t_bn 1))), ((A_t_bn 2), .inl (cI, 10, .inl (V_t_bn 2))), ((A_t_bn 3), .inl (cI, 10, .inl (V_t_bn 3))), ((A_t_bn 4), .inl (cI, 10, .inl (V_t_bn 4))), ((A_t_bn 5), .inl (cI, 10, .inl (V_t_bn 5))), ((A_t_bo 1), .inl (cI, 12, .inl (V_t_bo 1))), ((A_t_bo 2), .inl (cI, 12, .inl (V_t_bo 2))), ((A_t_bo 3), .inl (cI, 12, .inl (V_t_bo 3))), ((A_t_bo 4), .inl (cI, 12, .inl (V_t_bo 4))), ((A_t_bo 5), .inl (cI, 12, .inl (V_t_bo 5))), ((A_t_bc 1), .inl (cI, 63, .inl (V_t_bc 1))), ((A_t_bc 2), .inl (cI, 63, .inl (V_t_bc 2))), ((A_t_bc 3), .inl (cI, 63, .inl (V_t_bc 3))), ((A_t_bc 4), .inl (cI, 63, .inl (V_t_bc 4))), ((A_t_bc 5), .inl (cI, 63, .inl (V_t_bc 5)))]) S hK hP hD hS hA (c_X0_copyFrom l D cI cZ cB cJ (A_t_b 0) (A_t_bn 0) (A_t_bo 0) (A_t_bc 0) A_p1 A_p1_numbers A_p1_owners A_p1_cells _ V_p1_numbers (V_t_bn 0) V_p1_owners (V_t_bo 0) V_p1_cells (V_t_bc 0) f4 f5 f6 hq) [2, 26, 27, 8, 28, 14, 29, 20] [0, 1, 3, 4, 5, 6, 7, 9, 10, 11, 12, 13, 15, 16, 17, 18, 19, 21, 22, 23, 24, 25] rfl rfl (by decide +kernel) (by decide +kernel) (by decide +kernel) (cwV 1 hts gX1_save_X0_copyFrom rfl rfl rfl hd_X0_copyFrom ⟨Nat.le_of_ble_eq_true rfl, Nat.le_of_ble_eq_true rfl⟩) rfl rfl rfl hl.1 rfl (Nat.le_of_ble_eq_true rfl) dX1_save_47 ⟨Nat.zero_le _, Nat.zero_le _⟩ (fun H locs hP hD hS => ?_)
        replace hP : va_P D vwCl [(A_t, .inr (1, [.ref A_t_boards, .int v2, .int v1])), (A_t_boards, .inl (cB, 6, .inr (.inr (.inr (.inr (fun j => some (A_t_b j))))))), ((A_t_b 1), .inr (0, [.ref (A_t_bn 1), .ref (A_t_bo 1), .ref (A_t_bc 1)])), ((A_t_b 2), .inr (0, [.ref (A_t_bn 2), .ref (A_t_bo 2), .ref (A_t_bc 2)])), ((A_t_b 3), .inr (0, [.ref (A_t_bn 3), .ref (A_t_bo 3), .ref (A_t_bc 3)])), ((A_t_b 4), .inr (0, [.ref (A_t_bn 4), .ref (A_t_bo 4), .ref (A_t_bc 4)])), ((A_t_b 5), .inr (0, [.ref (A_t_bn 5), .ref (A_t_bo 5), .ref (A_t_bc 5)])), ((A_t_bn 1), .inl (cI, 10, .inl ((va_up V_t_bn 0 f4) 1))), ((A_t_bn 2), .inl (cI, 10, .inl ((va_up V_t_bn 0 f4) 2))), ((A_t_bn 3), .inl (cI, 10, .inl ((va_up V_t_bn 0 f4) 3))), ((A_t_bn 4), .inl (cI, 10, .inl ((va_up V_t_bn 0 f4) 4))), ((A_t_bn 5), .inl (cI, 10, .inl ((va_up V_t_bn 0 f4) 5))), ((A_t_bo 1), .inl (cI, 12, .inl ((va_up V_t_bo 0 f5) 1))), ((A_t_bo 2), .inl (cI, 12, .inl ((va_up V_t_bo 0 f5) 2))), ((A_t_bo 3), .inl (cI, 12, .inl ((va_up V_t_bo 0 f5) 3))), ((A_t_bo 4), .inl (cI, 12, .inl ((va_up V_t_bo 0 f5) 4))), ((A_t_bo 5), .inl (cI, 12, .inl ((va_up V_t_bo 0 f5) 5))), ((A_t_bc 1), .inl (cI, 63, .inl ((va_up V_t_bc 0 f6) 1))), ((A_t_bc 2), .inl (cI, 63, .inl ((va_up V_t_bc 0 f6) 2))), ((A_t_bc 3), .inl (cI, 63, .inl ((va_up V_t_bc 0 f6) 3))), ((A_t_bc 4), .inl (cI, 63, .inl ((va_up V_t_bc 0 f6) 4))), ((A_t_bc 5), .inl (cI, 63, .inl ((va_up V_t_bc 0 f6) 5))), ((A_t_b 0), .inr (0, [.ref (A_t_bn 0), .ref (A_t_bo 0), .ref (A_t_bc 0)])), (A_p1, .inr (0, [.ref A_p1_numbers, .ref A_p1_owners, .ref A_p1_cells])), (A_p1_numbers, .inl (cI, 10, .inl V_p1_numbers)), ((A_t_bn 0), .inl (cI, 10, .inl ((va_up V_t_bn 0 f4) 0))), (A_p1_owners, .inl (cI, 12, .inl V_p1_owners)), ((A_t_bo 0), .inl (cI, 12, .inl ((va_up V_t_bo 0 f5) 0))), (A_p1_cells, .inl (cI, 63, .inl V_p1_cells)), ((A_t_bc 0), .inl (cI, 63, .inl ((va_up V_t_bc 0 f6) 0)))] H := hP
        replace hD : va_D A [(A_t, .inr (1, [.ref A_t_boards, .int v2, .int v1])), (A_t_boards, .inl (cB, 6, .inr (.inr (.inr (.inr (fun j => some (A_t_b j))))))), ((A_t_b 1), .inr (0, [.ref (A_t_bn 1), .ref (A_t_bo 1), .ref (A_t_bc 1)])), ((A_t_b 2), .inr (0, [.ref (A_t_bn 2), .ref (A_t_bo 2), .ref (A_t_bc 2)])), ((A_t_b 3), .inr (0, [.ref (A_t_bn 3), .ref (A_t_bo 3), .ref (A_t_bc 3)])), ((A_t_b 4), .inr (0, [.ref (A_t_bn 4), .ref (A_t_bo 4), .ref (A_t_bc 4)])), ((A_t_b 5), .inr (0, [.ref (A_t_bn 5), .ref (A_t_bo 5), .ref (A_t_bc 5)])), ((A_t_bn 1), .inl (cI, 10, .inl ((va_up V_t_bn 0 f4) 1))), ((A_t_bn 2), .inl (cI, 10, .inl ((va_up V_t_bn 0 f4) 2))), ((A_t_bn 3), .inl (cI, 10, .inl ((va_up V_t_bn 0 f4) 3))), ((A_t_bn 4), .inl (cI, 10, .inl ((va_up V_t_bn 0 f4) 4))), ((A_t_bn 5), .inl (cI, 10, .inl ((va_up V_t_bn 0 f4) 5))), ((A_t_bo 1), .inl (cI, 12, .inl ((va_up V_t_bo 0 f5) 1))), ((A_t_bo 2), .inl (cI, 12, .inl ((va_up V_t_bo 0 f5) 2))), ((A_t_bo 3), .inl (cI, 12, .inl ((va_up V_t_bo 0 f5) 3))), ((A_t_bo 4), .inl (cI, 12, .inl ((va_up V_t_bo 0 f5) 4))), ((A_t_bo 5), .inl (cI, 12, .inl ((va_up V_t_bo 0 f5) 5))), ((A_t_bc 1), .inl (cI, 63, .inl ((va_up V_t_bc 0 f6) 1))), ((A_t_bc 2), .inl (cI, 63, .inl ((va_up V_t_bc 0 f6) 2))), ((A_t_bc 3), .inl (cI, 63, .inl ((va_up V_t_bc 0 f6) 3))), ((A_t_bc 4), .inl (cI, 63, .inl ((va_up V_t_bc 0 f6) 4))), ((A_t_bc 5), .inl (cI, 63, .inl ((va_up V_t_bc 0 f6) 5))), ((A_t_b 0), .inr (0, [.ref (A_t_bn 0), .ref (A_t_bo 0), .ref (A_t_bc 0)])), (A_p1, .inr (0, [.ref A_p1_numbers, .ref A_p1_owners, .ref A_p1_cells])), (A_p1_numbers, .inl (cI, 10, .inl V_p1_numbers)), ((A_t_bn 0), .inl (cI, 10, .inl ((va_up V_t_bn 0 f4) 0))), (A_p1_owners, .inl (cI, 12, .inl V_p1_owners)), ((A_t_bo 0), .inl (cI, 12, .inl ((va_up V_t_bo 0 f5) 0))), (A_p1_cells, .inl (cI, 63, .inl V_p1_cells)), ((A_t_bc 0), .inl (cI, 63, .inl ((va_up V_t_bc 0 f6) 0)))] := hD
        refine lv_aload_n hx hb dX1_save_50 rfl (lv_at hl 1 rfl) ?_
        refine lv_dup hx hb dX1_save_51 rfl ?_
        refine xget (ci := 1) (C := RX1) (T := TX1) (N := 3) (v := .int v1) hx hb hts in_X1_save_X1 hown hK hP 0 rfl rfl 2 (by decide) wd_X1_save_1 rfl dX1_save_52 ?_
        refine lv_iconst (v := 1) hx hb dX1_save_55 (by decide) ?_
        refine lv_iadd hx hb dX1_save_56 ?_
        refine xput (ci := 1) (C := RX1) (T := TX1) (N := 3) (ty := .int) (v := .int (v1 + 1)) (ws2 := [(A_t, .inr (1, [.ref A_t_boards, .int v2, .int (v1 + 1)])), (A_t_boards, .inl (cB, 6, .inr (.inr (.inr (.inr (fun j => some (A_t_b j))))))), ((A_t_b 1), .inr (0, [.ref (A_t_bn 1), .ref (A_t_bo 1), .ref (A_t_bc 1)])), ((A_t_b 2), .inr (0, [.ref (A_t_bn 2), .ref (A_t_bo 2), .ref (A_t_bc 2)])), ((A_t_b 3), .inr (0, [.ref (A_t_bn 3), .ref (A_t_bo 3), .ref (A_t_bc 3)])), ((A_t_b 4), .inr (0, [.ref (A_t_bn 4), .ref (A_t_bo 4), .ref (A_t_bc 4)])), ((A_t_b 5), .inr (0, [.ref (A_t_bn 5), .ref (A_t_bo 5), .ref (A_t_bc 5)])), ((A_t_bn 1), .inl (cI, 10, .inl ((va_up V_t_bn 0 f4) 1))), ((A_t_bn 2), .inl (cI, 10, .inl ((va_up V_t_bn 0 f4) 2))), ((A_t_bn 3), .inl (cI, 10, .inl ((va_up V_t_bn 0 f4) 3))), ((A_t_bn 4), .inl (cI, 10, .inl ((va_up V_t_bn 0 f4) 4))), ((A_t_bn 5), .inl (cI, 10, .inl ((va_up V_t_bn 0 f4) 5))), ((A_t_bo 1), .inl (cI, 12, .inl ((va_up V_t_bo 0 f5) 1))), ((A_t_bo 2), .inl (cI, 12, .inl ((va_up V_t_bo 0 f5) 2))), ((A_t_bo 3), .inl (cI, 12, .inl ((va_up V_t_bo 0 f5) 3))), ((A_t_bo 4), .inl (cI, 12, .inl ((va_up V_t_bo 0 f5) 4))), ((A_t_bo 5), .inl (cI, 12, .inl ((va_up V_t_bo 0 f5) 5))), ((A_t_bc 1), .inl (cI, 63, .inl ((va_up V_t_bc 0 f6) 1))), ((A_t_bc 2), .inl (cI, 63, .inl ((va_up V_t_bc 0 f6) 2))), ((A_t_bc 3), .inl (cI, 63, .inl ((va_up V_t_bc 0 f6) 3))), ((A_t_bc 4), .inl (cI, 63, .inl ((va_up V_t_bc 0 f6) 4))), ((A_t_bc 5), .inl (cI, 63, .inl ((va_up V_t_bc 0 f6) 5))), ((A_t_b 0), .inr (0, [.ref (A_t_bn 0), .ref (A_t_bo 0), .ref (A_t_bc 0)])), (A_p1, .inr (0, [.ref A_p1_numbers, .ref A_p1_owners, .ref A_p1_cells])), (A_p1_numbers, .inl (cI, 10, .inl V_p1_numbers)), ((A_t_bn 0), .inl (cI, 10, .inl ((va_up V_t_bn 0 f4) 0))), (A_p1_owners, .inl (cI, 12, .inl V_p1_owners)), ((A_t_bo 0), .inl (cI, 12, .inl ((va_up V_t_bo 0 f5) 0))), (A_p1_cells, .inl (cI, 63, .inl V_p1_cells)), ((A_t_bc 0), .inl (cI, 63, .inl ((va_up V_t_bc 0 f6) 0)))]) hx hb hts in_X1_save_X1 tyX1 tyX1_ok nmX1 hown hK hP hD hS 0 rfl rfl 2 (by decide) wd_X1_save_1 rfl (by decide +kernel) rfl rfl (Nat.le_of_ble_eq_true rfl) rfl dX1_save_57 (fun H locs hP hD hS => ?_)
        exact fin _ (Option.some.inj hg) _ _ _ _ dX1_save_60 (hP.sub [0, 1, 22, 2, 3, 4, 5, 6, 25, 7, 8, 9, 10, 11, 27, 12, 13, 14, 15, 16, 29, 17, 18, 19, 20, 21, 23, 24, 26, 28] rfl) (hD.sub [0, 1, 22, 2, 3, 4, 5, 6, 25, 7, 8, 9, 10, 11, 27, 12, 13, 14, 15, 16, 29, 17, 18, 19, 20, 21, 23, 24, 26, 28] (by decide) rfl) hS
      · replace hg := if_no hg hk0
        by_cases hk1 : v3 = 1
        · replace hg := if_yes hg hk1
          rw [hk1, show va_rf (plq A_t_b 1) = .ref (A_t_b 1) from rfl]
          refine lv_astore_n (lv' := [(2, .ref (A_t_b 1)), (0, .ref A_t), (1, .ref A_p1)]) hx hb dX1_save_40 rfl hl (by decide) rfl (fun ls hl => ?_)
          refine lv_aload_n hx hb dX1_save_41 rfl (lv_at hl 0 rfl) ?_
          refine lv_ifnull hx hb dX1_save_42 ?_
          refine lv_aload_n hx hb dX1_save_45 rfl (lv_at hl 0 rfl) ?_
          refine lv_aload_n hx hb dX1_save_46 rfl (lv_at hl 2 rfl) ?_
          obtain ⟨f7, f8, f9, hq, hg⟩ := b3_ex hg
          refine callWVv (As := [.ref A_p1]) (rest := []) (wr := [(A_t, .inr (1, [.ref A_t_boards, .int v2, .int v1])), (A_t_boards, .inl (cB, 6, .inr (.inr (.inr (.inr (fun j => some (A_t_b j))))))), ((A_t_b 0), .inr (0, [.ref (A_t_bn 0), .ref (A_t_bo 0), .ref (A_t_bc 0)])), ((A_t_b 2), .inr (0, [.ref (A_t_bn 2), .ref (A_t_bo 2), .ref (A_t_bc 2)])), ((A_t_b 3), .inr (0, [.ref (A_t_bn 3), .ref (A_t_bo 3), .ref (A_t_bc 3)])), ((A_t_b 4), .inr (0, [.ref (A_t_bn 4), .ref (A_t_bo 4), .ref (A_t_bc 4)])), ((A_t_b 5), .inr (0, [.ref (A_t_bn 5), .ref (A_t_bo 5), .ref (A_t_bc 5)])), ((A_t_bn 0), .inl (cI, 10, .inl (V_t_bn 0))), ((A_t_bn 2), .inl (cI, 10, .inl (V_t_bn 2))), ((A_t_bn 3), .inl (cI, 10, .inl (V_t_bn 3))), ((A_t_bn 4), .inl (cI, 10, .inl (V_t_bn 4))), ((A_t_bn 5), .inl (cI, 10, .inl (V_t_bn 5))), ((A_t_bo 0), .inl (cI, 12, .inl (V_t_bo 0))), ((A_t_bo 2), .inl (cI, 12, .inl (V_t_bo 2))), ((A_t_bo 3), .inl (cI, 12, .inl (V_t_bo 3))), ((A_t_bo 4), .inl (cI, 12, .inl (V_t_bo 4))), ((A_t_bo 5), .inl (cI, 12, .inl (V_t_bo 5))), ((A_t_bc 0), .inl (cI, 63, .inl (V_t_bc 0))), ((A_t_bc 2), .inl (cI, 63, .inl (V_t_bc 2))), ((A_t_bc 3), .inl (cI, 63, .inl (V_t_bc 3))), ((A_t_bc 4), .inl (cI, 63, .inl (V_t_bc 4))), ((A_t_bc 5), .inl (cI, 63, .inl (V_t_bc 5)))]) S hK hP hD hS hA (c_X0_copyFrom l D cI cZ cB cJ (A_t_b 1) (A_t_bn 1) (A_t_bo 1) (A_t_bc 1) A_p1 A_p1_numbers A_p1_owners A_p1_cells _ V_p1_numbers (V_t_bn 1) V_p1_owners (V_t_bo 1) V_p1_cells (V_t_bc 1) f7 f8 f9 hq) [3, 26, 27, 9, 28, 15, 29, 21] [0, 1, 2, 4, 5, 6, 7, 8, 10, 11, 12, 13, 14, 16, 17, 18, 19, 20, 22, 23, 24, 25] rfl rfl (by decide +kernel) (by decide +kernel) (by decide +kernel) (cwV 1 hts gX1_save_X0_copyFrom rfl rfl rfl hd_X0_copyFrom ⟨Nat.le_of_ble_eq_true rfl, Nat.le_of_ble_eq_true rfl⟩) rfl rfl rfl hl.1 rfl (Nat.le_of_ble_eq_true rfl) dX1_save_47 ⟨Nat.zero_le _, Nat.zero_le _⟩ (fun H locs hP hD hS => ?_)
          replace hP : va_P D vwCl [(A_t, .inr (1, [.ref A_t_boards, .int v2, .int v1])), (A_t_boards, .inl (cB, 6, .inr (.inr (.inr (.inr (fun j => some (A_t_b j))))))), ((A_t_b 0), .inr (0, [.ref (A_t_bn 0), .ref (A_t_bo 0), .ref (A_t_bc 0)])), ((A_t_b 2), .inr (0, [.ref (A_t_bn 2), .ref (A_t_bo 2), .ref (A_t_bc 2)])), ((A_t_b 3), .inr (0, [.ref (A_t_bn 3), .ref (A_t_bo 3), .ref (A_t_bc 3)])), ((A_t_b 4), .inr (0, [.ref (A_t_bn 4), .ref (A_t_bo 4), .ref (A_t_bc 4)])), ((A_t_b 5), .inr (0, [.ref (A_t_bn 5), .ref (A_t_bo 5), .ref (A_t_bc 5)])), ((A_t_bn 0), .inl (cI, 10, .inl ((va_up V_t_bn 1 f7) 0))), ((A_t_bn 2), .inl (cI, 10, .inl ((va_up V_t_bn 1 f7) 2))), ((A_t_bn 3), .inl (cI, 10, .inl ((va_up V_t_bn 1 f7) 3))), ((A_t_bn 4), .inl (cI, 10, .inl ((va_up V_t_bn 1 f7) 4))), ((A_t_bn 5), .inl (cI, 10, .inl ((va_up V_t_bn 1 f7) 5))), ((A_t_bo 0), .inl (cI, 12, .inl ((va_up V_t_bo 1 f8) 0))), ((A_t_bo 2), .inl (cI, 12, .inl ((va_up V_t_bo 1 f8) 2))), ((A_t_bo 3), .inl (cI, 12, .inl ((va_up V_t_bo 1 f8) 3))), ((A_t_bo 4), .inl (cI, 12, .inl ((va_up V_t_bo 1 f8) 4))), ((A_t_bo 5), .inl (cI, 12, .inl ((va_up V_t_bo 1 f8) 5))), ((A_t_bc 0), .inl (cI, 63, .inl ((va_up V_t_bc 1 f9) 0))), ((A_t_bc 2), .inl (cI, 63, .inl ((va_up V_t_bc 1 f9) 2))), ((A_t_bc 3), .inl (cI, 63, .inl ((va_up V_t_bc 1 f9) 3))), ((A_t_bc 4), .inl (cI, 63, .inl ((va_up V_t_bc 1 f9) 4))), ((A_t_bc 5), .inl (cI, 63, .inl ((va_up V_t_bc 1 f9) 5))), ((A_t_b 1), .inr (0, [.ref (A_t_bn 1), .ref (A_t_bo 1), .ref (A_t_bc 1)])), (A_p1, .inr (0, [.ref A_p1_numbers, .ref A_p1_owners, .ref A_p1_cells])), (A_p1_numbers, .inl (cI, 10, .inl V_p1_numbers)), ((A_t_bn 1), .inl (cI, 10, .inl ((va_up V_t_bn 1 f7) 1))), (A_p1_owners, .inl (cI, 12, .inl V_p1_owners)), ((A_t_bo 1), .inl (cI, 12, .inl ((va_up V_t_bo 1 f8) 1))), (A_p1_cells, .inl (cI, 63, .inl V_p1_cells)), ((A_t_bc 1), .inl (cI, 63, .inl ((va_up V_t_bc 1 f9) 1)))] H := hP
          replace hD : va_D A [(A_t, .inr (1, [.ref A_t_boards, .int v2, .int v1])), (A_t_boards, .inl (cB, 6, .inr (.inr (.inr (.inr (fun j => some (A_t_b j))))))), ((A_t_b 0), .inr (0, [.ref (A_t_bn 0), .ref (A_t_bo 0), .ref (A_t_bc 0)])), ((A_t_b 2), .inr (0, [.ref (A_t_bn 2), .ref (A_t_bo 2), .ref (A_t_bc 2)])), ((A_t_b 3), .inr (0, [.ref (A_t_bn 3), .ref (A_t_bo 3), .ref (A_t_bc 3)])), ((A_t_b 4), .inr (0, [.ref (A_t_bn 4), .ref (A_t_bo 4), .ref (A_t_bc 4)])), ((A_t_b 5), .inr (0, [.ref (A_t_bn 5), .ref (A_t_bo 5), .ref (A_t_bc 5)])), ((A_t_bn 0), .inl (cI, 10, .inl ((va_up V_t_bn 1 f7) 0))), ((A_t_bn 2), .inl (cI, 10, .inl ((va_up V_t_bn 1 f7) 2))), ((A_t_bn 3), .inl (cI, 10, .inl ((va_up V_t_bn 1 f7) 3))), ((A_t_bn 4), .inl (cI, 10, .inl ((va_up V_t_bn 1 f7) 4))), ((A_t_bn 5), .inl (cI, 10, .inl ((va_up V_t_bn 1 f7) 5))), ((A_t_bo 0), .inl (cI, 12, .inl ((va_up V_t_bo 1 f8) 0))), ((A_t_bo 2), .inl (cI, 12, .inl ((va_up V_t_bo 1 f8) 2))), ((A_t_bo 3), .inl (cI, 12, .inl ((va_up V_t_bo 1 f8) 3))), ((A_t_bo 4), .inl (cI, 12, .inl ((va_up V_t_bo 1 f8) 4))), ((A_t_bo 5), .inl (cI, 12, .inl ((va_up V_t_bo 1 f8) 5))), ((A_t_bc 0), .inl (cI, 63, .inl ((va_up V_t_bc 1 f9) 0))), ((A_t_bc 2), .inl (cI, 63, .inl ((va_up V_t_bc 1 f9) 2))), ((A_t_bc 3), .inl (cI, 63, .inl ((va_up V_t_bc 1 f9) 3))), ((A_t_bc 4), .inl (cI, 63, .inl ((va_up V_t_bc 1 f9) 4))), ((A_t_bc 5), .inl (cI, 63, .inl ((va_up V_t_bc 1 f9) 5))), ((A_t_b 1), .inr (0, [.ref (A_t_bn 1), .ref (A_t_bo 1), .ref (A_t_bc 1)])), (A_p1, .inr (0, [.ref A_p1_numbers, .ref A_p1_owners, .ref A_p1_cells])), (A_p1_numbers, .inl (cI, 10, .inl V_p1_numbers)), ((A_t_bn 1), .inl (cI, 10, .inl ((va_up V_t_bn 1 f7) 1))), (A_p1_owners, .inl (cI, 12, .inl V_p1_owners)), ((A_t_bo 1), .inl (cI, 12, .inl ((va_up V_t_bo 1 f8) 1))), (A_p1_cells, .inl (cI, 63, .inl V_p1_cells)), ((A_t_bc 1), .inl (cI, 63, .inl ((va_up V_t_bc 1 f9) 1)))] := hD
          refine lv_aload_n hx hb dX1_save_50 rfl (lv_at hl 1 rfl) ?_
          refine lv_dup hx hb dX1_save_51 rfl ?_
          refine xget (ci := 1) (C := RX1) (T := TX1) (N := 3) (v := .int v1) hx hb hts in_X1_save_X1 hown hK hP 0 rfl rfl 2 (by decide) wd_X1_save_1 rfl dX1_save_52 ?_
          refine lv_iconst (v := 1) hx hb dX1_save_55 (by decide) ?_
          refine lv_iadd hx hb dX1_save_56 ?_
          refine xput (ci := 1) (C := RX1) (T := TX1) (N := 3) (ty := .int) (v := .int (v1 + 1)) (ws2 := [(A_t, .inr (1, [.ref A_t_boards, .int v2, .int (v1 + 1)])), (A_t_boards, .inl (cB, 6, .inr (.inr (.inr (.inr (fun j => some (A_t_b j))))))), ((A_t_b 0), .inr (0, [.ref (A_t_bn 0), .ref (A_t_bo 0), .ref (A_t_bc 0)])), ((A_t_b 2), .inr (0, [.ref (A_t_bn 2), .ref (A_t_bo 2), .ref (A_t_bc 2)])), ((A_t_b 3), .inr (0, [.ref (A_t_bn 3), .ref (A_t_bo 3), .ref (A_t_bc 3)])), ((A_t_b 4), .inr (0, [.ref (A_t_bn 4), .ref (A_t_bo 4), .ref (A_t_bc 4)])), ((A_t_b 5), .inr (0, [.ref (A_t_bn 5), .ref (A_t_bo 5), .ref (A_t_bc 5)])), ((A_t_bn 0), .inl (cI, 10, .inl ((va_up V_t_bn 1 f7) 0))), ((A_t_bn 2), .inl (cI, 10, .inl ((va_up V_t_bn 1 f7) 2))), ((A_t_bn 3), .inl (cI, 10, .inl ((va_up V_t_bn 1 f7) 3))), ((A_t_bn 4), .inl (cI, 10, .inl ((va_up V_t_bn 1 f7) 4))), ((A_t_bn 5), .inl (cI, 10, .inl ((va_up V_t_bn 1 f7) 5))), ((A_t_bo 0), .inl (cI, 12, .inl ((va_up V_t_bo 1 f8) 0))), ((A_t_bo 2), .inl (cI, 12, .inl ((va_up V_t_bo 1 f8) 2))), ((A_t_bo 3), .inl (cI, 12, .inl ((va_up V_t_bo 1 f8) 3))), ((A_t_bo 4), .inl (cI, 12, .inl ((va_up V_t_bo 1 f8) 4))), ((A_t_bo 5), .inl (cI, 12, .inl ((va_up V_t_bo 1 f8) 5))), ((A_t_bc 0), .inl (cI, 63, .inl ((va_up V_t_bc 1 f9) 0))), ((A_t_bc 2), .inl (cI, 63, .inl ((va_up V_t_bc 1 f9) 2))), ((A_t_bc 3), .inl (cI, 63, .inl ((va_up V_t_bc 1 f9) 3))), ((A_t_bc 4), .inl (cI, 63, .inl ((va_up V_t_bc 1 f9) 4))), ((A_t_bc 5), .inl (cI, 63, .inl ((va_up V_t_bc 1 f9) 5))), ((A_t_b 1), .inr (0, [.ref (A_t_bn 1), .ref (A_t_bo 1), .ref (A_t_bc 1)])), (A_p1, .inr (0, [.ref A_p1_numbers, .ref A_p1_owners, .ref A_p1_cells])), (A_p1_numbers, .inl (cI, 10, .inl V_p1_numbers)), ((A_t_bn 1), .inl (cI, 10, .inl ((va_up V_t_bn 1 f7) 1))), (A_p1_owners, .inl (cI, 12, .inl V_p1_owners)), ((A_t_bo 1), .inl (cI, 12, .inl ((va_up V_t_bo 1 f8) 1))), (A_p1_cells, .inl (cI, 63, .inl V_p1_cells)), ((A_t_bc 1), .inl (cI, 63, .inl ((va_up V_t_bc 1 f9) 1)))]) hx hb hts in_X1_save_X1 tyX1 tyX1_ok nmX1 hown hK hP hD hS 0 rfl rfl 2 (by decide) wd_X1_save_1 rfl (by decide +kernel) rfl rfl (Nat.le_of_ble_eq_true rfl) rfl dX1_save_57 (fun H locs hP hD hS => ?_)
          exact fin _ (Option.some.inj hg) _ _ _ _ dX1_save_60 (hP.sub [0, 1, 2, 22, 3, 4, 5, 6, 7, 25, 8, 9, 10, 11, 12, 27, 13, 14, 15, 16, 17, 29, 18, 19, 20, 21, 23, 24, 26, 28] rfl) (hD.sub [0, 1, 2, 22, 3, 4, 5, 6, 7, 25, 8, 9, 10, 11, 12, 27, 13, 14, 15, 16, 17, 29, 18, 19, 20, 21, 23, 24, 26, 28] (by decide) rfl) hS
        · replace hg := if_no hg hk1
          by_cases hk2 : v3 = 2
          · replace hg := if_yes hg hk2
            rw [hk2, show va_rf (plq A_t_b 2) = .ref (A_t_b 2) from rfl]
            refine lv_astore_n (lv' := [(2, .ref (A_t_b 2)), (0, .ref A_t), (1, .ref A_p1)]) hx hb dX1_save_40 rfl hl (by decide) rfl (fun ls hl => ?_)
            refine lv_aload_n hx hb dX1_save_41 rfl (lv_at hl 0 rfl) ?_
            refine lv_ifnull hx hb dX1_save_42 ?_
            refine lv_aload_n hx hb dX1_save_45 rfl (lv_at hl 0 rfl) ?_
            refine lv_aload_n hx hb dX1_save_46 rfl (lv_at hl 2 rfl) ?_
            obtain ⟨f10, f11, f12, hq, hg⟩ := b3_ex hg
            refine callWVv (As := [.ref A_p1]) (rest := []) (wr := [(A_t, .inr (1, [.ref A_t_boards, .int v2, .int v1])), (A_t_boards, .inl (cB, 6, .inr (.inr (.inr (.inr (fun j => some (A_t_b j))))))), ((A_t_b 0), .inr (0, [.ref (A_t_bn 0), .ref (A_t_bo 0), .ref (A_t_bc 0)])), ((A_t_b 1), .inr (0, [.ref (A_t_bn 1), .ref (A_t_bo 1), .ref (A_t_bc 1)])), ((A_t_b 3), .inr (0, [.ref (A_t_bn 3), .ref (A_t_bo 3), .ref (A_t_bc 3)])), ((A_t_b 4), .inr (0, [.ref (A_t_bn 4), .ref (A_t_bo 4), .ref (A_t_bc 4)])), ((A_t_b 5), .inr (0, [.ref (A_t_bn 5), .ref (A_t_bo 5), .ref (A_t_bc 5)])), ((A_t_bn 0), .inl (cI, 10, .inl (V_t_bn 0))), ((A_t_bn 1), .inl (cI, 10, .inl (V_t_bn 1))), ((A_t_bn 3), .inl (cI, 10, .inl (V_t_bn 3))), ((A_t_bn 4), .inl (cI, 10, .inl (V_t_bn 4))), ((A_t_bn 5), .inl (cI, 10, .inl (V_t_bn 5))), ((A_t_bo 0), .inl (cI, 12, .inl (V_t_bo 0))), ((A_t_bo 1), .inl (cI, 12, .inl (V_t_bo 1))), ((A_t_bo 3), .inl (cI, 12, .inl (V_t_bo 3))), ((A_t_bo 4), .inl (cI, 12, .inl (V_t_bo 4))), ((A_t_bo 5), .inl (cI, 12, .inl (V_t_bo 5))), ((A_t_bc 0), .inl (cI, 63, .inl (V_t_bc 0))), ((A_t_bc 1), .inl (cI, 63, .inl (V_t_bc 1))), ((A_t_bc 3), .inl (cI, 63, .inl (V_t_bc 3))), ((A_t_bc 4), .inl (cI, 63, .inl (V_t_bc 4))), ((A_t_bc 5), .inl (cI, 63, .inl (V_t_bc 5)))]) S hK hP hD hS hA (c_X0_copyFrom l D cI cZ cB cJ (A_t_b 2) (A_t_bn 2) (A_t_bo 2) (A_t_bc 2) A_p1 A_p1_numbers A_p1_owners A_p1_cells _ V_p1_numbers (V_t_bn 2) V_p1_owners (V_t_bo 2) V_p1_cells (V_t_bc 2) f10 f11 f12 hq) [4, 26, 27, 10, 28, 16, 29, 22] [0, 1, 2, 3, 5, 6, 7, 8, 9, 11, 12, 13, 14, 15, 17, 18, 19, 20, 21, 23, 24, 25] rfl rfl (by decide +kernel) (by decide +kernel) (by decide +kernel) (cwV 1 hts gX1_save_X0_copyFrom rfl rfl rfl hd_X0_copyFrom ⟨Nat.le_of_ble_eq_true rfl, Nat.le_of_ble_eq_true rfl⟩) rfl rfl rfl hl.1 rfl (Nat.le_of_ble_eq_true rfl) dX1_save_47 ⟨Nat.zero_le _, Nat.zero_le _⟩ (fun H locs hP hD hS => ?_)
            replace hP : va_P D vwCl [(A_t, .inr (1, [.ref A_t_boards, .int v2, .int v1])), (A_t_boards, .inl (cB, 6, .inr (.inr (.inr (.inr (fun j => some (A_t_b j))))))), ((A_t_b 0), .inr (0, [.ref (A_t_bn 0), .ref (A_t_bo 0), .ref (A_t_bc 0)])), ((A_t_b 1), .inr (0, [.ref (A_t_bn 1), .ref (A_t_bo 1), .ref (A_t_bc 1)])), ((A_t_b 3), .inr (0, [.ref (A_t_bn 3), .ref (A_t_bo 3), .ref (A_t_bc 3)])), ((A_t_b 4), .inr (0, [.ref (A_t_bn 4), .ref (A_t_bo 4), .ref (A_t_bc 4)])), ((A_t_b 5), .inr (0, [.ref (A_t_bn 5), .ref (A_t_bo 5), .ref (A_t_bc 5)])), ((A_t_bn 0), .inl (cI, 10, .inl ((va_up V_t_bn 2 f10) 0))), ((A_t_bn 1), .inl (cI, 10, .inl ((va_up V_t_bn 2 f10) 1))), ((A_t_bn 3), .inl (cI, 10, .inl ((va_up V_t_bn 2 f10) 3))), ((A_t_bn 4), .inl (cI, 10, .inl ((va_up V_t_bn 2 f10) 4))), ((A_t_bn 5), .inl (cI, 10, .inl ((va_up V_t_bn 2 f10) 5))), ((A_t_bo 0), .inl (cI, 12, .inl ((va_up V_t_bo 2 f11) 0))), ((A_t_bo 1), .inl (cI, 12, .inl ((va_up V_t_bo 2 f11) 1))), ((A_t_bo 3), .inl (cI, 12, .inl ((va_up V_t_bo 2 f11) 3))), ((A_t_bo 4), .inl (cI, 12, .inl ((va_up V_t_bo 2 f11) 4))), ((A_t_bo 5), .inl (cI, 12, .inl ((va_up V_t_bo 2 f11) 5))), ((A_t_bc 0), .inl (cI, 63, .inl ((va_up V_t_bc 2 f12) 0))), ((A_t_bc 1), .inl (cI, 63, .inl ((va_up V_t_bc 2 f12) 1))), ((A_t_bc 3), .inl (cI, 63, .inl ((va_up V_t_bc 2 f12) 3))), ((A_t_bc 4), .inl (cI, 63, .inl ((va_up V_t_bc 2 f12) 4))), ((A_t_bc 5), .inl (cI, 63, .inl ((va_up V_t_bc 2 f12) 5))), ((A_t_b 2), .inr (0, [.ref (A_t_bn 2), .ref (A_t_bo 2), .ref (A_t_bc 2)])), (A_p1, .inr (0, [.ref A_p1_numbers, .ref A_p1_owners, .ref A_p1_cells])), (A_p1_numbers, .inl (cI, 10, .inl V_p1_numbers)), ((A_t_bn 2), .inl (cI, 10, .inl ((va_up V_t_bn 2 f10) 2))), (A_p1_owners, .inl (cI, 12, .inl V_p1_owners)), ((A_t_bo 2), .inl (cI, 12, .inl ((va_up V_t_bo 2 f11) 2))), (A_p1_cells, .inl (cI, 63, .inl V_p1_cells)), ((A_t_bc 2), .inl (cI, 63, .inl ((va_up V_t_bc 2 f12) 2)))] H := hP
            replace hD : va_D A [(A_t, .inr (1, [.ref A_t_boards, .int v2, .int v1])), (A_t_boards, .inl (cB, 6, .inr (.inr (.inr (.inr (fun j => some (A_t_b j))))))), ((A_t_b 0), .inr (0, [.ref (A_t_bn 0), .ref (A_t_bo 0), .ref (A_t_bc 0)])), ((A_t_b 1), .inr (0, [.ref (A_t_bn 1), .ref (A_t_bo 1), .ref (A_t_bc 1)])), ((A_t_b 3), .inr (0, [.ref (A_t_bn 3), .ref (A_t_bo 3), .ref (A_t_bc 3)])), ((A_t_b 4), .inr (0, [.ref (A_t_bn 4), .ref (A_t_bo 4), .ref (A_t_bc 4)])), ((A_t_b 5), .inr (0, [.ref (A_t_bn 5), .ref (A_t_bo 5), .ref (A_t_bc 5)])), ((A_t_bn 0), .inl (cI, 10, .inl ((va_up V_t_bn 2 f10) 0))), ((A_t_bn 1), .inl (cI, 10, .inl ((va_up V_t_bn 2 f10) 1))), ((A_t_bn 3), .inl (cI, 10, .inl ((va_up V_t_bn 2 f10) 3))), ((A_t_bn 4), .inl (cI, 10, .inl ((va_up V_t_bn 2 f10) 4))), ((A_t_bn 5), .inl (cI, 10, .inl ((va_up V_t_bn 2 f10) 5))), ((A_t_bo 0), .inl (cI, 12, .inl ((va_up V_t_bo 2 f11) 0))), ((A_t_bo 1), .inl (cI, 12, .inl ((va_up V_t_bo 2 f11) 1))), ((A_t_bo 3), .inl (cI, 12, .inl ((va_up V_t_bo 2 f11) 3))), ((A_t_bo 4), .inl (cI, 12, .inl ((va_up V_t_bo 2 f11) 4))), ((A_t_bo 5), .inl (cI, 12, .inl ((va_up V_t_bo 2 f11) 5))), ((A_t_bc 0), .inl (cI, 63, .inl ((va_up V_t_bc 2 f12) 0))), ((A_t_bc 1), .inl (cI, 63, .inl ((va_up V_t_bc 2 f12) 1))), ((A_t_bc 3), .inl (cI, 63, .inl ((va_up V_t_bc 2 f12) 3))), ((A_t_bc 4), .inl (cI, 63, .inl ((va_up V_t_bc 2 f12) 4))), ((A_t_bc 5), .inl (cI, 63, .inl ((va_up V_t_bc 2 f12) 5))), ((A_t_b 2), .inr (0, [.ref (A_t_bn 2), .ref (A_t_bo 2), .ref (A_t_bc 2)])), (A_p1, .inr (0, [.ref A_p1_numbers, .ref A_p1_owners, .ref A_p1_cells])), (A_p1_numbers, .inl (cI, 10, .inl V_p1_numbers)), ((A_t_bn 2), .inl (cI, 10, .inl ((va_up V_t_bn 2 f10) 2))), (A_p1_owners, .inl (cI, 12, .inl V_p1_owners)), ((A_t_bo 2), .inl (cI, 12, .inl ((va_up V_t_bo 2 f11) 2))), (A_p1_cells, .inl (cI, 63, .inl V_p1_cells)), ((A_t_bc 2), .inl (cI, 63, .inl ((va_up V_t_bc 2 f12) 2)))] := hD
            refine lv_aload_n hx hb dX1_save_50 rfl (lv_at hl 1 rfl) ?_
            refine lv_dup hx hb dX1_save_51 rfl ?_
            refine xget (ci := 1) (C := RX1) (T := TX1) (N := 3) (v := .int v1) hx hb hts in_X1_save_X1 hown hK hP 0 rfl rfl 2 (by decide) wd_X1_save_1 rfl dX1_save_52 ?_
            refine lv_iconst (v := 1) hx hb dX1_save_55 (by decide) ?_
            refine lv_iadd hx hb dX1_save_56 ?_
            refine xput (ci := 1) (C := RX1) (T := TX1) (N := 3) (ty := .int) (v := .int (v1 + 1)) (ws2 := [(A_t, .inr (1, [.ref A_t_boards, .int v2, .int (v1 + 1)])), (A_t_boards, .inl (cB, 6, .inr (.inr (.inr (.inr (fun j => some (A_t_b j))))))), ((A_t_b 0), .inr (0, [.ref (A_t_bn 0), .ref (A_t_bo 0), .ref (A_t_bc 0)])), ((A_t_b 1), .inr (0, [.ref (A_t_bn 1), .ref (A_t_bo 1), .ref (A_t_bc 1)])), ((A_t_b 3), .inr (0, [.ref (A_t_bn 3), .ref (A_t_bo 3), .ref (A_t_bc 3)])), ((A_t_b 4), .inr (0, [.ref (A_t_bn 4), .ref (A_t_bo 4), .ref (A_t_bc 4)])), ((A_t_b 5), .inr (0, [.ref (A_t_bn 5), .ref (A_t_bo 5), .ref (A_t_bc 5)])), ((A_t_bn 0), .inl (cI, 10, .inl ((va_up V_t_bn 2 f10) 0))), ((A_t_bn 1), .inl (cI, 10, .inl ((va_up V_t_bn 2 f10) 1))), ((A_t_bn 3), .inl (cI, 10, .inl ((va_up V_t_bn 2 f10) 3))), ((A_t_bn 4), .inl (cI, 10, .inl ((va_up V_t_bn 2 f10) 4))), ((A_t_bn 5), .inl (cI, 10, .inl ((va_up V_t_bn 2 f10) 5))), ((A_t_bo 0), .inl (cI, 12, .inl ((va_up V_t_bo 2 f11) 0))), ((A_t_bo 1), .inl (cI, 12, .inl ((va_up V_t_bo 2 f11) 1))), ((A_t_bo 3), .inl (cI, 12, .inl ((va_up V_t_bo 2 f11) 3))), ((A_t_bo 4), .inl (cI, 12, .inl ((va_up V_t_bo 2 f11) 4))), ((A_t_bo 5), .inl (cI, 12, .inl ((va_up V_t_bo 2 f11) 5))), ((A_t_bc 0), .inl (cI, 63, .inl ((va_up V_t_bc 2 f12) 0))), ((A_t_bc 1), .inl (cI, 63, .inl ((va_up V_t_bc 2 f12) 1))), ((A_t_bc 3), .inl (cI, 63, .inl ((va_up V_t_bc 2 f12) 3))), ((A_t_bc 4), .inl (cI, 63, .inl ((va_up V_t_bc 2 f12) 4))), ((A_t_bc 5), .inl (cI, 63, .inl ((va_up V_t_bc 2 f12) 5))), ((A_t_b 2), .inr (0, [.ref (A_t_bn 2), .ref (A_t_bo 2), .ref (A_t_bc 2)])), (A_p1, .inr (0, [.ref A_p1_numbers, .ref A_p1_owners, .ref A_p1_cells])), (A_p1_numbers, .inl (cI, 10, .inl V_p1_numbers)), ((A_t_bn 2), .inl (cI, 10, .inl ((va_up V_t_bn 2 f10) 2))), (A_p1_owners, .inl (cI, 12, .inl V_p1_owners)), ((A_t_bo 2), .inl (cI, 12, .inl ((va_up V_t_bo 2 f11) 2))), (A_p1_cells, .inl (cI, 63, .inl V_p1_cells)), ((A_t_bc 2), .inl (cI, 63, .inl ((va_up V_t_bc 2 f12) 2)))]) hx hb hts in_X1_save_X1 tyX1 tyX1_ok nmX1 hown hK hP hD hS 0 rfl rfl 2 (by decide) wd_X1_save_1 rfl (by decide +kernel) rfl rfl (Nat.le_of_ble_eq_true rfl) rfl dX1_save_57 (fun H locs hP hD hS => ?_)
            exact fin _ (Option.some.inj hg) _ _ _ _ dX1_save_60 (hP.sub [0, 1, 2, 3, 22, 4, 5, 6, 7, 8, 25, 9, 10, 11, 12, 13, 27, 14, 15, 16, 17, 18, 29, 19, 20, 21, 23, 24, 26, 28] rfl) (hD.sub [0, 1, 2, 3, 22, 4, 5, 6, 7, 8, 25, 9, 10, 11, 12, 13, 27, 14, 15, 16, 17, 18, 29, 19, 20, 21, 23, 24, 26, 28] (by decide) rfl) hS
          · replace hg := if_no hg hk2
            by_cases hk3 : v3 = 3
            · replace hg := if_yes hg hk3
              rw [hk3, show va_rf (plq A_t_b 3) = .ref (A_t_b 3) from rfl]
              refine lv_astore_n (lv' := [(2, .ref (A_t_b 3)), (0, .ref A_t), (1, .ref A_p1)]) hx hb dX1_save_40 rfl hl (by decide) rfl (fun ls hl => ?_)
              refine lv_aload_n hx hb dX1_save_41 rfl (lv_at hl 0 rfl) ?_
              refine lv_ifnull hx hb dX1_save_42 ?_
              refine lv_aload_n hx hb dX1_save_45 rfl (lv_at hl 0 rfl) ?_
              refine lv_aload_n hx hb dX1_save_46 rfl (lv_at hl 2 rfl) ?_
              obtain ⟨f13, f14, f15, hq, hg⟩ := b3_ex hg
              refine callWVv (As := [.ref A_p1]) (rest := []) (wr := [(A_t, .inr (1, [.ref A_t_boards, .int v2, .int v1])), (A_t_boards, .inl (cB, 6, .inr (.inr (.inr (.inr (fun j => some (A_t_b j))))))), ((A_t_b 0), .inr (0, [.ref (A_t_bn 0), .ref (A_t_bo 0), .ref (A_t_bc 0)])), ((A_t_b 1), .inr (0, [.ref (A_t_bn 1), .ref (A_t_bo 1), .ref (A_t_bc 1)])), ((A_t_b 2), .inr (0, [.ref (A_t_bn 2), .ref (A_t_bo 2), .ref (A_t_bc 2)])), ((A_t_b 4), .inr (0, [.ref (A_t_bn 4), .ref (A_t_bo 4), .ref (A_t_bc 4)])), ((A_t_b 5), .inr (0, [.ref (A_t_bn 5), .ref (A_t_bo 5), .ref (A_t_bc 5)])), ((A_t_bn 0), .inl (cI, 10, .inl (V_t_bn 0))), ((A_t_bn 1), .inl (cI, 10, .inl (V_t_bn 1))), ((A_t_bn 2), .inl (cI, 10, .inl (V_t_bn 2))), ((A_t_bn 4), .inl (cI, 10, .inl (V_t_bn 4))), ((A_t_bn 5), .inl (cI, 10, .inl (V_t_bn 5))), ((A_t_bo 0), .inl (cI, 12, .inl (V_t_bo 0))), ((A_t_bo 1), .inl (cI, 12, .inl (V_t_bo 1))), ((A_t_bo 2), .inl (cI, 12, .inl (V_t_bo 2))), ((A_t_bo 4), .inl (cI, 12, .inl (V_t_bo 4))), ((A_t_bo 5), .inl (cI, 12, .inl (V_t_bo 5))), ((A_t_bc 0), .inl (cI, 63, .inl (V_t_bc 0))), ((A_t_bc 1), .inl (cI, 63, .inl (V_t_bc 1))), ((A_t_bc 2), .inl (cI, 63, .inl (V_t_bc 2))), ((A_t_bc 4), .inl (cI, 63, .inl (V_t_bc 4))), ((A_t_bc 5), .inl (cI, 63, .inl (V_t_bc 5)))]) S hK hP hD hS hA (c_X0_copyFrom l D cI cZ cB cJ (A_t_b 3) (A_t_bn 3) (A_t_bo 3) (A_t_bc 3) A_p1 A_p1_numbers A_p1_owners A_p1_cells _ V_p1_numbers (V_t_bn 3) V_p1_owners (V_t_bo 3) V_p1_cells (V_t_bc 3) f13 f14 f15 hq) [5, 26, 27, 11, 28, 17, 29, 23] [0, 1, 2, 3, 4, 6, 7, 8, 9, 10, 12, 13, 14, 15, 16, 18, 19, 20, 21, 22, 24, 25] rfl rfl (by decide +kernel) (by decide +kernel) (by decide +kernel) (cwV 1 hts gX1_save_X0_copyFrom rfl rfl rfl hd_X0_copyFrom ⟨Nat.le_of_ble_eq_true rfl, Nat.le_of_ble_eq_true rfl⟩) rfl rfl rfl hl.1 rfl (Nat.le_of_ble_eq_true rfl) dX1_save_47 ⟨Nat.zero_le _, Nat.zero_le _⟩ (fun H locs hP hD hS => ?_)
              replace hP : va_P D vwCl [(A_t, .inr (1, [.ref A_t_boards, .int v2, .int v1])), (A_t_boards, .inl (cB, 6, .inr (.inr (.inr (.inr (fun j => some (A_t_b j))))))), ((A_t_b 0), .inr (0, [.ref (A_t_bn 0), .ref (A_t_bo 0), .ref (A_t_bc 0)])), ((A_t_b 1), .inr (0, [.ref (A_t_bn 1), .ref (A_t_bo 1), .ref (A_t_bc 1)])), ((A_t_b 2), .inr (0, [.ref (A_t_bn 2), .ref (A_t_bo 2), .ref (A_t_bc 2)])), ((A_t_b 4), .inr (0, [.ref (A_t_bn 4), .ref (A_t_bo 4), .ref (A_t_bc 4)])), ((A_t_b 5), .inr (0, [.ref (A_t_bn 5), .ref (A_t_bo 5), .ref (A_t_bc 5)])), ((A_t_bn 0), .inl (cI, 10, .inl ((va_up V_t_bn 3 f13) 0))), ((A_t_bn 1), .inl (cI, 10, .inl ((va_up V_t_bn 3 f13) 1))), ((A_t_bn 2), .inl (cI, 10, .inl ((va_up V_t_bn 3 f13) 2))), ((A_t_bn 4), .inl (cI, 10, .inl ((va_up V_t_bn 3 f13) 4))), ((A_t_bn 5), .inl (cI, 10, .inl ((va_up V_t_bn 3 f13) 5))), ((A_t_bo 0), .inl (cI, 12, .inl ((va_up V_t_bo 3 f14) 0))), ((A_t_bo 1), .inl (cI, 12, .inl ((va_up V_t_bo 3 f14) 1))), ((A_t_bo 2), .inl (cI, 12, .inl ((va_up V_t_bo 3 f14) 2))), ((A_t_bo 4), .inl (cI, 12, .inl ((va_up V_t_bo 3 f14) 4))), ((A_t_bo 5), .inl (cI, 12, .inl ((va_up V_t_bo 3 f14) 5))), ((A_t_bc 0), .inl (cI, 63, .inl ((va_up V_t_bc 3 f15) 0))), ((A_t_bc 1), .inl (cI, 63, .inl ((va_up V_t_bc 3 f15) 1))), ((A_t_bc 2), .inl (cI, 63, .inl ((va_up V_t_bc 3 f15) 2))), ((A_t_bc 4), .inl (cI, 63, .inl ((va_up V_t_bc 3 f15) 4))), ((A_t_bc 5), .inl (cI, 63, .inl ((va_up V_t_bc 3 f15) 5))), ((A_t_b 3), .inr (0, [.ref (A_t_bn 3), .ref (A_t_bo 3), .ref (A_t_bc 3)])), (A_p1, .inr (0, [.ref A_p1_numbers, .ref A_p1_owners, .ref A_p1_cells])), (A_p1_numbers, .inl (cI, 10, .inl V_p1_numbers)), ((A_t_bn 3), .inl (cI, 10, .inl ((va_up V_t_bn 3 f13) 3))), (A_p1_owners, .inl (cI, 12, .inl V_p1_owners)), ((A_t_bo 3), .inl (cI, 12, .inl ((va_up V_t_bo 3 f14) 3))), (A_p1_cells, .inl (cI, 63, .inl V_p1_cells)), ((A_t_bc 3), .inl (cI, 63, .inl ((va_up V_t_bc 3 f15) 3)))] H := hP
              replace hD : va_D A [(A_t, .inr (1, [.ref A_t_boards, .int v2, .int v1])), (A_t_boards, .inl (cB, 6, .inr (.inr (.inr (.inr (fun j => some (A_t_b j))))))), ((A_t_b 0), .inr (0, [.ref (A_t_bn 0), .ref (A_t_bo 0), .ref (A_t_bc 0)])), ((A_t_b 1), .inr (0, [.ref (A_t_bn 1), .ref (A_t_bo 1), .ref (A_t_bc 1)])), ((A_t_b 2), .inr (0, [.ref (A_t_bn 2), .ref (A_t_bo 2), .ref (A_t_bc 2)])), ((A_t_b 4), .inr (0, [.ref (A_t_bn 4), .ref (A_t_bo 4), .ref (A_t_bc 4)])), ((A_t_b 5), .inr (0, [.ref (A_t_bn 5), .ref (A_t_bo 5), .ref (A_t_bc 5)])), ((A_t_bn 0), .inl (cI, 10, .inl ((va_up V_t_bn 3 f13) 0))), ((A_t_bn 1), .inl (cI, 10, .inl ((va_up V_t_bn 3 f13) 1))), ((A_t_bn 2), .inl (cI, 10, .inl ((va_up V_t_bn 3 f13) 2))), ((A_t_bn 4), .inl (cI, 10, .inl ((va_up V_t_bn 3 f13) 4))), ((A_t_bn 5), .inl (cI, 10, .inl ((va_up V_t_bn 3 f13) 5))), ((A_t_bo 0), .inl (cI, 12, .inl ((va_up V_t_bo 3 f14) 0))), ((A_t_bo 1), .inl (cI, 12, .inl ((va_up V_t_bo 3 f14) 1))), ((A_t_bo 2), .inl (cI, 12, .inl ((va_up V_t_bo 3 f14) 2))), ((A_t_bo 4), .inl (cI, 12, .inl ((va_up V_t_bo 3 f14) 4))), ((A_t_bo 5), .inl (cI, 12, .inl ((va_up V_t_bo 3 f14) 5))), ((A_t_bc 0), .inl (cI, 63, .inl ((va_up V_t_bc 3 f15) 0))), ((A_t_bc 1), .inl (cI, 63, .inl ((va_up V_t_bc 3 f15) 1))), ((A_t_bc 2), .inl (cI, 63, .inl ((va_up V_t_bc 3 f15) 2))), ((A_t_bc 4), .inl (cI, 63, .inl ((va_up V_t_bc 3 f15) 4))), ((A_t_bc 5), .inl (cI, 63, .inl ((va_up V_t_bc 3 f15) 5))), ((A_t_b 3), .inr (0, [.ref (A_t_bn 3), .ref (A_t_bo 3), .ref (A_t_bc 3)])), (A_p1, .inr (0, [.ref A_p1_numbers, .ref A_p1_owners, .ref A_p1_cells])), (A_p1_numbers, .inl (cI, 10, .inl V_p1_numbers)), ((A_t_bn 3), .inl (cI, 10, .inl ((va_up V_t_bn 3 f13) 3))), (A_p1_owners, .inl (cI, 12, .inl V_p1_owners)), ((A_t_bo 3), .inl (cI, 12, .inl ((va_up V_t_bo 3 f14) 3))), (A_p1_cells, .inl (cI, 63, .inl V_p1_cells)), ((A_t_bc 3), .inl (cI, 63, .inl ((va_up V_t_bc 3 f15) 3)))] := hD
              refine lv_aload_n hx hb dX1_save_50 rfl (lv_at hl 1 rfl) ?_
              refine lv_dup hx hb dX1_save_51 rfl ?_
              refine xget (ci := 1) (C := RX1) (T := TX1) (N := 3) (v := .int v1) hx hb hts in_X1_save_X1 hown hK hP 0 rfl rfl 2 (by decide) wd_X1_save_1 rfl dX1_save_52 ?_
              refine lv_iconst (v := 1) hx hb dX1_save_55 (by decide) ?_
              refine lv_iadd hx hb dX1_save_56 ?_
              refine xput (ci := 1) (C := RX1) (T := TX1) (N := 3) (ty := .int) (v := .int (v1 + 1)) (ws2 := [(A_t, .inr (1, [.ref A_t_boards, .int v2, .int (v1 + 1)])), (A_t_boards, .inl (cB, 6, .inr (.inr (.inr (.inr (fun j => some (A_t_b j))))))), ((A_t_b 0), .inr (0, [.ref (A_t_bn 0), .ref (A_t_bo 0), .ref (A_t_bc 0)])), ((A_t_b 1), .inr (0, [.ref (A_t_bn 1), .ref (A_t_bo 1), .ref (A_t_bc 1)])), ((A_t_b 2), .inr (0, [.ref (A_t_bn 2), .ref (A_t_bo 2), .ref (A_t_bc 2)])), ((A_t_b 4), .inr (0, [.ref (A_t_bn 4), .ref (A_t_bo 4), .ref (A_t_bc 4)])), ((A_t_b 5), .inr (0, [.ref (A_t_bn 5), .ref (A_t_bo 5), .ref (A_t_bc 5)])), ((A_t_bn 0), .inl (cI, 10, .inl ((va_up V_t_bn 3 f13) 0))), ((A_t_bn 1), .inl (cI, 10, .inl ((va_up V_t_bn 3 f13) 1))), ((A_t_bn 2), .inl (cI, 10, .inl ((va_up V_t_bn 3 f13) 2))), ((A_t_bn 4), .inl (cI, 10, .inl ((va_up V_t_bn 3 f13) 4))), ((A_t_bn 5), .inl (cI, 10, .inl ((va_up V_t_bn 3 f13) 5))), ((A_t_bo 0), .inl (cI, 12, .inl ((va_up V_t_bo 3 f14) 0))), ((A_t_bo 1), .inl (cI, 12, .inl ((va_up V_t_bo 3 f14) 1))), ((A_t_bo 2), .inl (cI, 12, .inl ((va_up V_t_bo 3 f14) 2))), ((A_t_bo 4), .inl (cI, 12, .inl ((va_up V_t_bo 3 f14) 4))), ((A_t_bo 5), .inl (cI, 12, .inl ((va_up V_t_bo 3 f14) 5))), ((A_t_bc 0), .inl (cI, 63, .inl ((va_up V_t_bc 3 f15) 0))), ((A_t_bc 1), .inl (cI, 63, .inl ((va_up V_t_bc 3 f15) 1))), ((A_t_bc 2), .inl (cI, 63, .inl ((va_up V_t_bc 3 f15) 2))), ((A_t_bc 4), .inl (cI, 63, .inl ((va_up V_t_bc 3 f15) 4))), ((A_t_bc 5), .inl (cI, 63, .inl ((va_up V_t_bc 3 f15) 5))), ((A_t_b 3), .inr (0, [.ref (A_t_bn 3), .ref (A_t_bo 3), .ref (A_t_bc 3)])), (A_p1, .inr (0, [.ref A_p1_numbers, .ref A_p1_owners, .ref A_p1_cells])), (A_p1_numbers, .inl (cI, 10, .inl V_p1_numbers)), ((A_t_bn 3), .inl (cI, 10, .inl ((va_up V_t_bn 3 f13) 3))), (A_p1_owners, .inl (cI, 12, .inl V_p1_owners)), ((A_t_bo 3), .inl (cI, 12, .inl ((va_up V_t_bo 3 f14) 3))), (A_p1_cells, .inl (cI, 63, .inl V_p1_cells)), ((A_t_bc 3), .inl (cI, 63, .inl ((va_up V_t_bc 3 f15) 3)))]) hx hb hts in_X1_save_X1 tyX1 tyX1_ok nmX1 hown hK hP hD hS 0 rfl rfl 2 (by decide) wd_X1_save_1 rfl (by decide +kernel) rfl rfl (Nat.le_of_ble_eq_true rfl) rfl dX1_save_57 (fun H locs hP hD hS => ?_)
              exact fin _ (Option.some.inj hg) _ _ _ _ dX1_save_60 (hP.sub [0, 1, 2, 3, 4, 22, 5, 6, 7, 8, 9, 25, 10, 11, 12, 13, 14, 27, 15, 16, 17, 18, 19, 29, 20, 21, 23, 24, 26, 28] rfl) (hD.sub [0, 1, 2, 3, 4, 22, 5, 6, 7, 8, 9, 25, 10, 11, 12, 13, 14, 27, 15, 16, 17, 18, 19, 29, 20, 21, 23, 24, 26, 28] (by decide) rfl) hS
            · replace hg := if_no hg hk3
              by_cases hk4 : v3 = 4
              · replace hg := if_yes hg hk4
                rw [hk4, show va_rf (plq A_t_b 4) = .ref (A_t_b 4) from rfl]
                refine lv_astore_n (lv' := [(2, .ref (A_t_b 4)), (0, .ref A_t), (1, .ref A_p1)]) hx hb dX1_save_40 rfl hl (by decide) rfl (fun ls hl => ?_)
                refine lv_aload_n hx hb dX1_save_41 rfl (lv_at hl 0 rfl) ?_
                refine lv_ifnull hx hb dX1_save_42 ?_
                refine lv_aload_n hx hb dX1_save_45 rfl (lv_at hl 0 rfl) ?_
                refine lv_aload_n hx hb dX1_save_46 rfl (lv_at hl 2 rfl) ?_
                obtain ⟨f16, f17, f18, hq, hg⟩ := b3_ex hg
                refine callWVv (As := [.ref A_p1]) (rest := []) (wr := [(A_t, .inr (1, [.ref A_t_boards, .int v2, .int v1])), (A_t_boards, .inl (cB, 6, .inr (.inr (.inr (.inr (fun j => some (A_t_b j))))))), ((A_t_b 0), .inr (0, [.ref (A_t_bn 0), .ref (A_t_bo 0), .ref (A_t_bc 0)])), ((A_t_b 1), .inr (0, [.ref (A_t_bn 1), .ref (A_t_bo 1), .ref (A_t_bc 1)])), ((A_t_b 2), .inr (0, [.ref (A_t_bn 2), .ref (A_t_bo 2), .ref (A_t_bc 2)])), ((A_t_b 3), .inr (0, [.ref (A_t_bn 3), .ref (A_t_bo 3), .ref (A_t_bc 3)])), ((A_t_b 5), .inr (0, [.ref (A_t_bn 5), .ref (A_t_bo 5), .ref (A_t_bc 5)])), ((A_t_bn 0), .inl (cI, 10, .inl (V_t_bn 0))), ((A_t_bn 1), .inl (cI, 10, .inl (V_t_bn 1))), ((A_t_bn 2), .inl (cI, 10, .inl (V_t_bn 2))), ((A_t_bn 3), .inl (cI, 10, .inl (V_t_bn 3))), ((A_t_bn 5), .inl (cI, 10, .inl (V_t_bn 5))), ((A_t_bo 0), .inl (cI, 12, .inl (V_t_bo 0))), ((A_t_bo 1), .inl (cI, 12, .inl (V_t_bo 1))), ((A_t_bo 2), .inl (cI, 12, .inl (V_t_bo 2))), ((A_t_bo 3), .inl (cI, 12, .inl (V_t_bo 3))), ((A_t_bo 5), .inl (cI, 12, .inl (V_t_bo 5))), ((A_t_bc 0), .inl (cI, 63, .inl (V_t_bc 0))), ((A_t_bc 1), .inl (cI, 63, .inl (V_t_bc 1))), ((A_t_bc 2), .inl (cI, 63, .inl (V_t_bc 2))), ((A_t_bc 3), .inl (cI, 63, .inl (V_t_bc 3))), ((A_t_bc 5), .inl (cI, 63, .inl (V_t_bc 5)))]) S hK hP hD hS hA (c_X0_copyFrom l D cI cZ cB cJ (A_t_b 4) (A_t_bn 4) (A_t_bo 4) (A_t_bc 4) A_p1 A_p1_numbers A_p1_owners A_p1_cells _ V_p1_numbers (V_t_bn 4) V_p1_owners (V_t_bo 4) V_p1_cells (V_t_bc 4) f16 f17 f18 hq) [6, 26, 27, 12, 28, 18, 29, 24] [0, 1, 2, 3, 4, 5, 7, 8, 9, 10, 11, 13, 14, 15, 16, 17, 19, 20, 21, 22, 23, 25] rfl rfl (by decide +kernel) (by decide +kernel) (by decide +kernel) (cwV 1 hts gX1_save_X0_copyFrom rfl rfl rfl hd_X0_copyFrom ⟨Nat.le_of_ble_eq_true rfl, Nat.le_of_ble_eq_true rfl⟩) rfl rfl rfl hl.1 rfl (Nat.le_of_ble_eq_true rfl) dX1_save_47 ⟨Nat.zero_le _, Nat.zero_le _⟩ (fun H locs hP hD hS => ?_)
                replace hP : va_P D vwCl [(A_t, .inr (1, [.ref A_t_boards, .int v2, .int v1])), (A_t_boards, .inl (cB, 6, .inr (.inr (.inr (.inr (fun j => some (A_t_b j))))))), ((A_t_b 0), .inr (0, [.ref (A_t_bn 0), .ref (A_t_bo 0), .ref (A_t_bc 0)])), ((A_t_b 1), .inr (0, [.ref (A_t_bn 1), .ref (A_t_bo 1), .ref (A_t_bc 1)])), ((A_t_b 2), .inr (0, [.ref (A_t_bn 2), .ref (A_t_bo 2), .ref (A_t_bc 2)])), ((A_t_b 3), .inr (0, [.ref (A_t_bn 3), .ref (A_t_bo 3), .ref (A_t_bc 3)])), ((A_t_b 5), .inr (0, [.ref (A_t_bn 5), .ref (A_t_bo 5), .ref (A_t_bc 5)])), ((A_t_bn 0), .inl (cI, 10, .inl ((va_up V_t_bn 4 f16) 0))), ((A_t_bn 1), .inl (cI, 10, .inl ((va_up V_t_bn 4 f16) 1))), ((A_t_bn 2), .inl (cI, 10, .inl ((va_up V_t_bn 4 f16) 2))), ((A_t_bn 3), .inl (cI, 10, .inl ((va_up V_t_bn 4 f16) 3))), ((A_t_bn 5), .inl (cI, 10, .inl ((va_up V_t_bn 4 f16) 5))), ((A_t_bo 0), .inl (cI, 12, .inl ((va_up V_t_bo 4 f17) 0))), ((A_t_bo 1), .inl (cI, 12, .inl ((va_up V_t_bo 4 f17) 1))), ((A_t_bo 2), .inl (cI, 12, .inl ((va_up V_t_bo 4 f17) 2))), ((A_t_bo 3), .inl (cI, 12, .inl ((va_up V_t_bo 4 f17) 3))), ((A_t_bo 5), .inl (cI, 12, .inl ((va_up V_t_bo 4 f17) 5))), ((A_t_bc 0), .inl (cI, 63, .inl ((va_up V_t_bc 4 f18) 0))), ((A_t_bc 1), .inl (cI, 63, .inl ((va_up V_t_bc 4 f18) 1))), ((A_t_bc 2), .inl (cI, 63, .inl ((va_up V_t_bc 4 f18) 2))), ((A_t_bc 3), .inl (cI, 63, .inl ((va_up V_t_bc 4 f18) 3))), ((A_t_bc 5), .inl (cI, 63, .inl ((va_up V_t_bc 4 f18) 5))), ((A_t_b 4), .inr (0, [.ref (A_t_bn 4), .ref (A_t_bo 4), .ref (A_t_bc 4)])), (A_p1, .inr (0, [.ref A_p1_numbers, .ref A_p1_owners, .ref A_p1_cells])), (A_p1_numbers, .inl (cI, 10, .inl V_p1_numbers)), ((A_t_bn 4), .inl (cI, 10, .inl ((va_up V_t_bn 4 f16) 4))), (A_p1_owners, .inl (cI, 12, .inl V_p1_owners)), ((A_t_bo 4), .inl (cI, 12, .inl ((va_up V_t_bo 4 f17) 4))), (A_p1_cells, .inl (cI, 63, .inl V_p1_cells)), ((A_t_bc 4), .inl (cI, 63, .inl ((va_up V_t_bc 4 f18) 4)))] H := hP
                replace hD : va_D A [(A_t, .inr (1, [.ref A_t_boards, .int v2, .int v1])), (A_t_boards, .inl (cB, 6, .inr (.inr (.inr (.inr (fun j => some (A_t_b j))))))), ((A_t_b 0), .inr (0, [.ref (A_t_bn 0), .ref (A_t_bo 0), .ref (A_t_bc 0)])), ((A_t_b 1), .inr (0, [.ref (A_t_bn 1), .ref (A_t_bo 1), .ref (A_t_bc 1)])), ((A_t_b 2), .inr (0, [.ref (A_t_bn 2), .ref (A_t_bo 2), .ref (A_t_bc 2)])), ((A_t_b 3), .inr (0, [.ref (A_t_bn 3), .ref (A_t_bo 3), .ref (A_t_bc 3)])), ((A_t_b 5), .inr (0, [.ref (A_t_bn 5), .ref (A_t_bo 5), .ref (A_t_bc 5)])), ((A_t_bn 0), .inl (cI, 10, .inl ((va_up V_t_bn 4 f16) 0))), ((A_t_bn 1), .inl (cI, 10, .inl ((va_up V_t_bn 4 f16) 1))), ((A_t_bn 2), .inl (cI, 10, .inl ((va_up V_t_bn 4 f16) 2))), ((A_t_bn 3), .inl (cI, 10, .inl ((va_up V_t_bn 4 f16) 3))), ((A_t_bn 5), .inl (cI, 10, .inl ((va_up V_t_bn 4 f16) 5))), ((A_t_bo 0), .inl (cI, 12, .inl ((va_up V_t_bo 4 f17) 0))), ((A_t_bo 1), .inl (cI, 12, .inl ((va_up V_t_bo 4 f17) 1))), ((A_t_bo 2), .inl (cI, 12, .inl ((va_up V_t_bo 4 f17) 2))), ((A_t_bo 3), .inl (cI, 12, .inl ((va_up V_t_bo 4 f17) 3))), ((A_t_bo 5), .inl (cI, 12, .inl ((va_up V_t_bo 4 f17) 5))), ((A_t_bc 0), .inl (cI, 63, .inl ((va_up V_t_bc 4 f18) 0))), ((A_t_bc 1), .inl (cI, 63, .inl ((va_up V_t_bc 4 f18) 1))), ((A_t_bc 2), .inl (cI, 63, .inl ((va_up V_t_bc 4 f18) 2))), ((A_t_bc 3), .inl (cI, 63, .inl ((va_up V_t_bc 4 f18) 3))), ((A_t_bc 5), .inl (cI, 63, .inl ((va_up V_t_bc 4 f18) 5))), ((A_t_b 4), .inr (0, [.ref (A_t_bn 4), .ref (A_t_bo 4), .ref (A_t_bc 4)])), (A_p1, .inr (0, [.ref A_p1_numbers, .ref A_p1_owners, .ref A_p1_cells])), (A_p1_numbers, .inl (cI, 10, .inl V_p1_numbers)), ((A_t_bn 4), .inl (cI, 10, .inl ((va_up V_t_bn 4 f16) 4))), (A_p1_owners, .inl (cI, 12, .inl V_p1_owners)), ((A_t_bo 4), .inl (cI, 12, .inl ((va_up V_t_bo 4 f17) 4))), (A_p1_cells, .inl (cI, 63, .inl V_p1_cells)), ((A_t_bc 4), .inl (cI, 63, .inl ((va_up V_t_bc 4 f18) 4)))] := hD
                refine lv_aload_n hx hb dX1_save_50 rfl (lv_at hl 1 rfl) ?_
                refine lv_dup hx hb dX1_save_51 rfl ?_
                refine xget (ci := 1) (C := RX1) (T := TX1) (N := 3) (v := .int v1) hx hb hts in_X1_save_X1 hown hK hP 0 rfl rfl 2 (by decide) wd_X1_save_1 rfl dX1_save_52 ?_
                refine lv_iconst (v := 1) hx hb dX1_save_55 (by decide) ?_
                refine lv_iadd hx hb dX1_save_56 ?_
                refine xput (ci := 1) (C := RX1) (T := TX1) (N := 3) (ty := .int) (v := .int (v1 + 1)) (ws2 := [(A_t, .inr (1, [.ref A_t_boards, .int v2, .int (v1 + 1)])), (A_t_boards, .inl (cB, 6, .inr (.inr (.inr (.inr (fun j => some (A_t_b j))))))), ((A_t_b 0), .inr (0, [.ref (A_t_bn 0), .ref (A_t_bo 0), .ref (A_t_bc 0)])), ((A_t_b 1), .inr (0, [.ref (A_t_bn 1), .ref (A_t_bo 1), .ref (A_t_bc 1)])), ((A_t_b 2), .inr (0, [.ref (A_t_bn 2), .ref (A_t_bo 2), .ref (A_t_bc 2)])), ((A_t_b 3), .inr (0, [.ref (A_t_bn 3), .ref (A_t_bo 3), .ref (A_t_bc 3)])), ((A_t_b 5), .inr (0, [.ref (A_t_bn 5), .ref (A_t_bo 5), .ref (A_t_bc 5)])), ((A_t_bn 0), .inl (cI, 10, .inl ((va_up V_t_bn 4 f16) 0))), ((A_t_bn 1), .inl (cI, 10, .inl ((va_up V_t_bn 4 f16) 1))), ((A_t_bn 2), .inl (cI, 10, .inl ((va_up V_t_bn 4 f16) 2))), ((A_t_bn 3), .inl (cI, 10, .inl ((va_up V_t_bn 4 f16) 3))), ((A_t_bn 5), .inl (cI, 10, .inl ((va_up V_t_bn 4 f16) 5))), ((A_t_bo 0), .inl (cI, 12, .inl ((va_up V_t_bo 4 f17) 0))), ((A_t_bo 1), .inl (cI, 12, .inl ((va_up V_t_bo 4 f17) 1))), ((A_t_bo 2), .inl (cI, 12, .inl ((va_up V_t_bo 4 f17) 2))), ((A_t_bo 3), .inl (cI, 12, .inl ((va_up V_t_bo 4 f17) 3))), ((A_t_bo 5), .inl (cI, 12, .inl ((va_up V_t_bo 4 f17) 5))), ((A_t_bc 0), .inl (cI, 63, .inl ((va_up V_t_bc 4 f18) 0))), ((A_t_bc 1), .inl (cI, 63, .inl ((va_up V_t_bc 4 f18) 1))), ((A_t_bc 2), .inl (cI, 63, .inl ((va_up V_t_bc 4 f18) 2))), ((A_t_bc 3), .inl (cI, 63, .inl ((va_up V_t_bc 4 f18) 3))), ((A_t_bc 5), .inl (cI, 63, .inl ((va_up V_t_bc 4 f18) 5))), ((A_t_b 4), .inr (0, [.ref (A_t_bn 4), .ref (A_t_bo 4), .ref (A_t_bc 4)])), (A_p1, .inr (0, [.ref A_p1_numbers, .ref A_p1_owners, .ref A_p1_cells])), (A_p1_numbers, .inl (cI, 10, .inl V_p1_numbers)), ((A_t_bn 4), .inl (cI, 10, .inl ((va_up V_t_bn 4 f16) 4))), (A_p1_owners, .inl (cI, 12, .inl V_p1_owners)), ((A_t_bo 4), .inl (cI, 12, .inl ((va_up V_t_bo 4 f17) 4))), (A_p1_cells, .inl (cI, 63, .inl V_p1_cells)), ((A_t_bc 4), .inl (cI, 63, .inl ((va_up V_t_bc 4 f18) 4)))]) hx hb hts in_X1_save_X1 tyX1 tyX1_ok nmX1 hown hK hP hD hS 0 rfl rfl 2 (by decide) wd_X1_save_1 rfl (by decide +kernel) rfl rfl (Nat.le_of_ble_eq_true rfl) rfl dX1_save_57 (fun H locs hP hD hS => ?_)
                exact fin _ (Option.some.inj hg) _ _ _ _ dX1_save_60 (hP.sub [0, 1, 2, 3, 4, 5, 22, 6, 7, 8, 9, 10, 25, 11, 12, 13, 14, 15, 27, 16, 17, 18, 19, 20, 29, 21, 23, 24, 26, 28] rfl) (hD.sub [0, 1, 2, 3, 4, 5, 22, 6, 7, 8, 9, 10, 25, 11, 12, 13, 14, 15, 27, 16, 17, 18, 19, 20, 29, 21, 23, 24, 26, 28] (by decide) rfl) hS
              · replace hg := if_no hg hk4
                by_cases hk5 : v3 = 5
                · replace hg := if_yes hg hk5
                  rw [hk5, show va_rf (plq A_t_b 5) = .ref (A_t_b 5) from rfl]
                  refine lv_astore_n (lv' := [(2, .ref (A_t_b 5)), (0, .ref A_t), (1, .ref A_p1)]) hx hb dX1_save_40 rfl hl (by decide) rfl (fun ls hl => ?_)
                  refine lv_aload_n hx hb dX1_save_41 rfl (lv_at hl 0 rfl) ?_
                  refine lv_ifnull hx hb dX1_save_42 ?_
                  refine lv_aload_n hx hb dX1_save_45 rfl (lv_at hl 0 rfl) ?_
                  refine lv_aload_n hx hb dX1_save_46 rfl (lv_at hl 2 rfl) ?_
                  obtain ⟨f19, f20, f21, hq, hg⟩ := b3_ex hg
                  refine callWVv (As := [.ref A_p1]) (rest := []) (wr := [(A_t, .inr (1, [.ref A_t_boards, .int v2, .int v1])), (A_t_boards, .inl (cB, 6, .inr (.inr (.inr (.inr (fun j => some (A_t_b j))))))), ((A_t_b 0), .inr (0, [.ref (A_t_bn 0), .ref (A_t_bo 0), .ref (A_t_bc 0)])), ((A_t_b 1), .inr (0, [.ref (A_t_bn 1), .ref (A_t_bo 1), .ref (A_t_bc 1)])), ((A_t_b 2), .inr (0, [.ref (A_t_bn 2), .ref (A_t_bo 2), .ref (A_t_bc 2)])), ((A_t_b 3), .inr (0, [.ref (A_t_bn 3), .ref (A_t_bo 3), .ref (A_t_bc 3)])), ((A_t_b 4), .inr (0, [.ref (A_t_bn 4), .ref (A_t_bo 4), .ref (A_t_bc 4)])), ((A_t_bn 0), .inl (cI, 10, .inl (V_t_bn 0))), ((A_t_bn 1), .inl (cI, 10, .inl (V_t_bn 1))), ((A_t_bn 2), .inl (cI, 10, .inl (V_t_bn 2))), ((A_t_bn 3), .inl (cI, 10, .inl (V_t_bn 3))), ((A_t_bn 4), .inl (cI, 10, .inl (V_t_bn 4))), ((A_t_bo 0), .inl (cI, 12, .inl (V_t_bo 0))), ((A_t_bo 1), .inl (cI, 12, .inl (V_t_bo 1))), ((A_t_bo 2), .inl (cI, 12, .inl (V_t_bo 2))), ((A_t_bo 3), .inl (cI, 12, .inl (V_t_bo 3))), ((A_t_bo 4), .inl (cI, 12, .inl (V_t_bo 4))), ((A_t_bc 0), .inl (cI, 63, .inl (V_t_bc 0))), ((A_t_bc 1), .inl (cI, 63, .inl (V_t_bc 1))), ((A_t_bc 2), .inl (cI, 63, .inl (V_t_bc 2))), ((A_t_bc 3), .inl (cI, 63, .inl (V_t_bc 3))), ((A_t_bc 4), .inl (cI, 63, .inl (V_t_bc 4)))]) S hK hP hD hS hA (c_X0_copyFrom l D cI cZ cB cJ (A_t_b 5) (A_t_bn 5) (A_t_bo 5) (A_t_bc 5) A_p1 A_p1_numbers A_p1_owners A_p1_cells _ V_p1_numbers (V_t_bn 5) V_p1_owners (V_t_bo 5) V_p1_cells (V_t_bc 5) f19 f20 f21 hq) [7, 26, 27, 13, 28, 19, 29, 25] [0, 1, 2, 3, 4, 5, 6, 8, 9, 10, 11, 12, 14, 15, 16, 17, 18, 20, 21, 22, 23, 24] rfl rfl (by decide +kernel) (by decide +kernel) (by decide +kernel) (cwV 1 hts gX1_save_X0_copyFrom rfl rfl rfl hd_X0_copyFrom ⟨Nat.le_of_ble_eq_true rfl, Nat.le_of_ble_eq_true rfl⟩) rfl rfl rfl hl.1 rfl (Nat.le_of_ble_eq_true rfl) dX1_save_47 ⟨Nat.zero_le _, Nat.zero_le _⟩ (fun H locs hP hD hS => ?_)
                  replace hP : va_P D vwCl [(A_t, .inr (1, [.ref A_t_boards, .int v2, .int v1])), (A_t_boards, .inl (cB, 6, .inr (.inr (.inr (.inr (fun j => some (A_t_b j))))))), ((A_t_b 0), .inr (0, [.ref (A_t_bn 0), .ref (A_t_bo 0), .ref (A_t_bc 0)])), ((A_t_b 1), .inr (0, [.ref (A_t_bn 1), .ref (A_t_bo 1), .ref (A_t_bc 1)])), ((A_t_b 2), .inr (0, [.ref (A_t_bn 2), .ref (A_t_bo 2), .ref (A_t_bc 2)])), ((A_t_b 3), .inr (0, [.ref (A_t_bn 3), .ref (A_t_bo 3), .ref (A_t_bc 3)])), ((A_t_b 4), .inr (0, [.ref (A_t_bn 4), .ref (A_t_bo 4), .ref (A_t_bc 4)])), ((A_t_bn 0), .inl (cI, 10, .inl ((va_up V_t_bn 5 f19) 0))), ((A_t_bn 1), .inl (cI, 10, .inl ((va_up V_t_bn 5 f19) 1))), ((A_t_bn 2), .inl (cI, 10, .inl ((va_up V_t_bn 5 f19) 2))), ((A_t_bn 3), .inl (cI, 10, .inl ((va_up V_t_bn 5 f19) 3))), ((A_t_bn 4), .inl (cI, 10, .inl ((va_up V_t_bn 5 f19) 4))), ((A_t_bo 0), .inl (cI, 12, .inl ((va_up V_t_bo 5 f20) 0))), ((A_t_bo 1), .inl (cI, 12, .inl ((va_up V_t_bo 5 f20) 1))), ((A_t_bo 2), .inl (cI, 12, .inl ((va_up V_t_bo 5 f20) 2))), ((A_t_bo 3), .inl (cI, 12, .inl ((va_up V_t_bo 5 f20) 3))), ((A_t_bo 4), .inl (cI, 12, .inl ((va_up V_t_bo 5 f20) 4))), ((A_t_bc 0), .inl (cI, 63, .inl ((va_up V_t_bc 5 f21) 0))), ((A_t_bc 1), .inl (cI, 63, .inl ((va_up V_t_bc 5 f21) 1))), ((A_t_bc 2), .inl (cI, 63, .inl ((va_up V_t_bc 5 f21) 2))), ((A_t_bc 3), .inl (cI, 63, .inl ((va_up V_t_bc 5 f21) 3))), ((A_t_bc 4), .inl (cI, 63, .inl ((va_up V_t_bc 5 f21) 4))), ((A_t_b 5), .inr (0, [.ref (A_t_bn 5), .ref (A_t_bo 5), .ref (A_t_bc 5)])), (A_p1, .inr (0, [.ref A_p1_numbers, .ref A_p1_owners, .ref A_p1_cells])), (A_p1_numbers, .inl (cI, 10, .inl V_p1_numbers)), ((A_t_bn 5), .inl (cI, 10, .inl ((va_up V_t_bn 5 f19) 5))), (A_p1_owners, .inl (cI, 12, .inl V_p1_owners)), ((A_t_bo 5), .inl (cI, 12, .inl ((va_up V_t_bo 5 f20) 5))), (A_p1_cells, .inl (cI, 63, .inl V_p1_cells)), ((A_t_bc 5), .inl (cI, 63, .inl ((va_up V_t_bc 5 f21) 5)))] H := hP
                  replace hD : va_D A [(A_t, .inr (1, [.ref A_t_boards, .int v2, .int v1])), (A_t_boards, .inl (cB, 6, .inr (.inr (.inr (.inr (fun j => some (A_t_b j))))))), ((A_t_b 0), .inr (0, [.ref (A_t_bn 0), .ref (A_t_bo 0), .ref (A_t_bc 0)])), ((A_t_b 1), .inr (0, [.ref (A_t_bn 1), .ref (A_t_bo 1), .ref (A_t_bc 1)])), ((A_t_b 2), .inr (0, [.ref (A_t_bn 2), .ref (A_t_bo 2), .ref (A_t_bc 2)])), ((A_t_b 3), .inr (0, [.ref (A_t_bn 3), .ref (A_t_bo 3), .ref (A_t_bc 3)])), ((A_t_b 4), .inr (0, [.ref (A_t_bn 4), .ref (A_t_bo 4), .ref (A_t_bc 4)])), ((A_t_bn 0), .inl (cI, 10, .inl ((va_up V_t_bn 5 f19) 0))), ((A_t_bn 1), .inl (cI, 10, .inl ((va_up V_t_bn 5 f19) 1))), ((A_t_bn 2), .inl (cI, 10, .inl ((va_up V_t_bn 5 f19) 2))), ((A_t_bn 3), .inl (cI, 10, .inl ((va_up V_t_bn 5 f19) 3))), ((A_t_bn 4), .inl (cI, 10, .inl ((va_up V_t_bn 5 f19) 4))), ((A_t_bo 0), .inl (cI, 12, .inl ((va_up V_t_bo 5 f20) 0))), ((A_t_bo 1), .inl (cI, 12, .inl ((va_up V_t_bo 5 f20) 1))), ((A_t_bo 2), .inl (cI, 12, .inl ((va_up V_t_bo 5 f20) 2))), ((A_t_bo 3), .inl (cI, 12, .inl ((va_up V_t_bo 5 f20) 3))), ((A_t_bo 4), .inl (cI, 12, .inl ((va_up V_t_bo 5 f20) 4))), ((A_t_bc 0), .inl (cI, 63, .inl ((va_up V_t_bc 5 f21) 0))), ((A_t_bc 1), .inl (cI, 63, .inl ((va_up V_t_bc 5 f21) 1))), ((A_t_bc 2), .inl (cI, 63, .inl ((va_up V_t_bc 5 f21) 2))), ((A_t_bc 3), .inl (cI, 63, .inl ((va_up V_t_bc 5 f21) 3))), ((A_t_bc 4), .inl (cI, 63, .inl ((va_up V_t_bc 5 f21) 4))), ((A_t_b 5), .inr (0, [.ref (A_t_bn 5), .ref (A_t_bo 5), .ref (A_t_bc 5)])), (A_p1, .inr (0, [.ref A_p1_numbers, .ref A_p1_owners, .ref A_p1_cells])), (A_p1_numbers, .inl (cI, 10, .inl V_p1_numbers)), ((A_t_bn 5), .inl (cI, 10, .inl ((va_up V_t_bn 5 f19) 5))), (A_p1_owners, .inl (cI, 12, .inl V_p1_owners)), ((A_t_bo 5), .inl (cI, 12, .inl ((va_up V_t_bo 5 f20) 5))), (A_p1_cells, .inl (cI, 63, .inl V_p1_cells)), ((A_t_bc 5), .inl (cI, 63, .inl ((va_up V_t_bc 5 f21) 5)))] := hD
                  refine lv_aload_n hx hb dX1_save_50 rfl (lv_at hl 1 rfl) ?_
                  refine lv_dup hx hb dX1_save_51 rfl ?_
                  refine xget (ci := 1) (C := RX1) (T := TX1) (N := 3) (v := .int v1) hx hb hts in_X1_save_X1 hown hK hP 0 rfl rfl 2 (by decide) wd_X1_save_1 rfl dX1_save_52 ?_
                  refine lv_iconst (v := 1) hx hb dX1_save_55 (by decide) ?_
                  refine lv_iadd hx hb dX1_save_56 ?_
                  refine xput (ci := 1) (C := RX1) (T := TX1) (N := 3) (ty := .int) (v := .int (v1 + 1)) (ws2 := [(A_t, .inr (1, [.ref A_t_boards, .int v2, .int (v1 + 1)])), (A_t_boards, .inl (cB, 6, .inr (.inr (.inr (.inr (fun j => some (A_t_b j))))))), ((A_t_b 0), .inr (0, [.ref (A_t_bn 0), .ref (A_t_bo 0), .ref (A_t_bc 0)])), ((A_t_b 1), .inr (0, [.ref (A_t_bn 1), .ref (A_t_bo 1), .ref (A_t_bc 1)])), ((A_t_b 2), .inr (0, [.ref (A_t_bn 2), .ref (A_t_bo 2), .ref (A_t_bc 2)])), ((A_t_b 3), .inr (0, [.ref (A_t_bn 3), .ref (A_t_bo 3), .ref (A_t_bc 3)])), ((A_t_b 4), .inr (0, [.ref (A_t_bn 4), .ref (A_t_bo 4), .ref (A_t_bc 4)])), ((A_t_bn 0), .inl (cI, 10, .inl ((va_up V_t_bn 5 f19) 0))), ((A_t_bn 1), .inl (cI, 10, .inl ((va_up V_t_bn 5 f19) 1))), ((A_t_bn 2), .inl (cI, 10, .inl ((va_up V_t_bn 5 f19) 2))), ((A_t_bn 3), .inl (cI, 10, .inl ((va_up V_t_bn 5 f19) 3))), ((A_t_bn 4), .inl (cI, 10, .inl ((va_up V_t_bn 5 f19) 4))), ((A_t_bo 0), .inl (cI, 12, .inl ((va_up V_t_bo 5 f20) 0))), ((A_t_bo 1), .inl (cI, 12, .inl ((va_up V_t_bo 5 f20) 1))), ((A_t_bo 2), .inl (cI, 12, .inl ((va_up V_t_bo 5 f20) 2))), ((A_t_bo 3), .inl (cI, 12, .inl ((va_up V_t_bo 5 f20) 3))), ((A_t_bo 4), .inl (cI, 12, .inl ((va_up V_t_bo 5 f20) 4))), ((A_t_bc 0), .inl (cI, 63, .inl ((va_up V_t_bc 5 f21) 0))), ((A_t_bc 1), .inl (cI, 63, .inl ((va_up V_t_bc 5 f21) 1))), ((A_t_bc 2), .inl (cI, 63, .inl ((va_up V_t_bc 5 f21) 2))), ((A_t_bc 3), .inl (cI, 63, .inl ((va_up V_t_bc 5 f21) 3))), ((A_t_bc 4), .inl (cI, 63, .inl ((va_up V_t_bc 5 f21) 4))), ((A_t_b 5), .inr (0, [.ref (A_t_bn 5), .ref (A_t_bo 5), .ref (A_t_bc 5)])), (A_p1, .inr (0, [.ref A_p1_numbers, .ref A_p1_owners, .ref A_p1_cells])), (A_p1_numbers, .inl (cI, 10, .inl V_p1_numbers)), ((A_t_bn 5), .inl (cI, 10, .inl ((va_up V_t_bn 5 f19) 5))), (A_p1_owners, .inl (cI, 12, .inl V_p1_owners)), ((A_t_bo 5), .inl (cI, 12, .inl ((va_up V_t_bo 5 f20) 5))), (A_p1_cells, .inl (cI, 63, .inl V_p1_cells)), ((A_t_bc 5), .inl (cI, 63, .inl ((va_up V_t_bc 5 f21) 5)))]) hx hb hts in_X1_save_X1 tyX1 tyX1_ok nmX1 hown hK hP hD hS 0 rfl rfl 2 (by decide) wd_X1_save_1 rfl (by decide +kernel) rfl rfl (Nat.le_of_ble_eq_true rfl) rfl dX1_save_57 (fun H locs hP hD hS => ?_)
                  exact fin _ (Option.some.inj hg) _ _ _ _ dX1_save_60 (hP.sub [0, 1, 2, 3, 4, 5, 6, 22, 7, 8, 9, 10, 11, 25, 12, 13, 14, 15, 16, 27, 17, 18, 19, 20, 21, 29, 23, 24, 26, 28] rfl) (hD.sub [0, 1, 2, 3, 4, 5, 6, 22, 7, 8, 9, 10, 11, 25, 12, 13, 14, 15, 16, 27, 17, 18, 19, 20, 21, 29, 23, 24, 26, 28] (by decide) rfl) hS
                · replace hg := if_no hg hk5
                  exact no_some hg
  refine lv_icmp_ne (tgt := 32) hx hb dX1_save_6 (by decide) (fun hc => ?_) (fun hc => ?_)
  · replace hg := if_no hg hc
    exact hJ1 _ _ _ _ hP hD hS _ (lv_sub hl [0, 1] rfl) hg
  · replace hg := if_yes hg hc
    refine lv_aload_n hx hb dX1_save_9 rfl (lv_at hl 0 rfl) ?_
    refine lv_aload_n hx hb dX1_save_10 rfl (lv_at hl 0 rfl) ?_
    refine xget (ci := 1) (C := RX1) (T := TX1) (N := 3) (v := .int V_t_oldest) hx hb hts in_X1_save_X1 hown hK hP 0 rfl rfl 1 (by decide) wd_X1_save_2 rfl dX1_save_11 ?_
    refine lv_iconst (v := 1) hx hb dX1_save_14 (by decide) ?_
    refine lv_iadd hx hb dX1_save_15 ?_
    refine lv_bipush (v := 6) hx hb dX1_save_16 (by decide) ?_
    refine lv_irem hx hb dX1_save_18 (by decide) ?_
    refine xput (ci := 1) (C := RX1) (T := TX1) (N := 3) (ty := .int) (v := .int ((V_t_oldest + 1) - (V_t_oldest + 1) / 6 * 6)) (ws2 := [(A_t, .inr (1, [.ref A_t_boards, .int ((V_t_oldest + 1) - (V_t_oldest + 1) / 6 * 6), .int V_t_saved])), (A_t_boards, .inl (cB, 6, .inr (.inr (.inr (.inr (fun j => some (A_t_b j))))))), ((A_t_b 0), .inr (0, [.ref (A_t_bn 0), .ref (A_t_bo 0), .ref (A_t_bc 0)])), ((A_t_b 1), .inr (0, [.ref (A_t_bn 1), .ref (A_t_bo 1), .ref (A_t_bc 1)])), ((A_t_b 2), .inr (0, [.ref (A_t_bn 2), .ref (A_t_bo 2), .ref (A_t_bc 2)])), ((A_t_b 3), .inr (0, [.ref (A_t_bn 3), .ref (A_t_bo 3), .ref (A_t_bc 3)])), ((A_t_b 4), .inr (0, [.ref (A_t_bn 4), .ref (A_t_bo 4), .ref (A_t_bc 4)])), ((A_t_b 5), .inr (0, [.ref (A_t_bn 5), .ref (A_t_bo 5), .ref (A_t_bc 5)])), ((A_t_bn 0), .inl (cI, 10, .inl (V_t_bn 0))), ((A_t_bn 1), .inl (cI, 10, .inl (V_t_bn 1))), ((A_t_bn 2), .inl (cI, 10, .inl (V_t_bn 2))), ((A_t_bn 3), .inl (cI, 10, .inl (V_t_bn 3))), ((A_t_bn 4), .inl (cI, 10, .inl (V_t_bn 4))), ((A_t_bn 5), .inl (cI, 10, .inl (V_t_bn 5))), ((A_t_bo 0), .inl (cI, 12, .inl (V_t_bo 0))), ((A_t_bo 1), .inl (cI, 12, .inl (V_t_bo 1))), ((A_t_bo 2), .inl (cI, 12, .inl (V_t_bo 2))), ((A_t_bo 3), .inl (cI, 12, .inl (V_t_bo 3))), ((A_t_bo 4), .inl (cI, 12, .inl (V_t_bo 4))), ((A_t_bo 5), .inl (cI, 12, .inl (V_t_bo 5))), ((A_t_bc 0), .inl (cI, 63, .inl (V_t_bc 0))), ((A_t_bc 1), .inl (cI, 63, .inl (V_t_bc 1))), ((A_t_bc 2), .inl (cI, 63, .inl (V_t_bc 2))), ((A_t_bc 3), .inl (cI, 63, .inl (V_t_bc 3))), ((A_t_bc 4), .inl (cI, 63, .inl (V_t_bc 4))), ((A_t_bc 5), .inl (cI, 63, .inl (V_t_bc 5))), (A_p1, .inr (0, [.ref A_p1_numbers, .ref A_p1_owners, .ref A_p1_cells])), (A_p1_numbers, .inl (cI, 10, .inl V_p1_numbers)), (A_p1_owners, .inl (cI, 12, .inl V_p1_owners)), (A_p1_cells, .inl (cI, 63, .inl V_p1_cells))]) hx hb hts in_X1_save_X1 tyX1 tyX1_ok nmX1 hown hK hP hD hS 0 rfl rfl 1 (by decide) wd_X1_save_2 rfl (by decide +kernel) rfl rfl (Nat.le_of_ble_eq_true rfl) rfl dX1_save_19 (fun H locs hP hD hS => ?_)
    refine lv_aload_n hx hb dX1_save_22 rfl (lv_at hl 0 rfl) ?_
    refine lv_dup hx hb dX1_save_23 rfl ?_
    refine xget (ci := 1) (C := RX1) (T := TX1) (N := 3) (v := .int V_t_saved) hx hb hts in_X1_save_X1 hown hK hP 0 rfl rfl 2 (by decide) wd_X1_save_1 rfl dX1_save_24 ?_
    refine lv_iconst (v := 1) hx hb dX1_save_27 (by decide) ?_
    refine lv_isub hx hb dX1_save_28 ?_
    refine xput (ci := 1) (C := RX1) (T := TX1) (N := 3) (ty := .int) (v := .int (V_t_saved - 1)) (ws2 := [(A_t, .inr (1, [.ref A_t_boards, .int ((V_t_oldest + 1) - (V_t_oldest + 1) / 6 * 6), .int (V_t_saved - 1)])), (A_t_boards, .inl (cB, 6, .inr (.inr (.inr (.inr (fun j => some (A_t_b j))))))), ((A_t_b 0), .inr (0, [.ref (A_t_bn 0), .ref (A_t_bo 0), .ref (A_t_bc 0)])), ((A_t_b 1), .inr (0, [.ref (A_t_bn 1), .ref (A_t_bo 1), .ref (A_t_bc 1)])), ((A_t_b 2), .inr (0, [.ref (A_t_bn 2), .ref (A_t_bo 2), .ref (A_t_bc 2)])), ((A_t_b 3), .inr (0, [.ref (A_t_bn 3), .ref (A_t_bo 3), .ref (A_t_bc 3)])), ((A_t_b 4), .inr (0, [.ref (A_t_bn 4), .ref (A_t_bo 4), .ref (A_t_bc 4)])), ((A_t_b 5), .inr (0, [.ref (A_t_bn 5), .ref (A_t_bo 5), .ref (A_t_bc 5)])), ((A_t_bn 0), .inl (cI, 10, .inl (V_t_bn 0))), ((A_t_bn 1), .inl (cI, 10, .inl (V_t_bn 1))), ((A_t_bn 2), .inl (cI, 10, .inl (V_t_bn 2))), ((A_t_bn 3), .inl (cI, 10, .inl (V_t_bn 3))), ((A_t_bn 4), .inl (cI, 10, .inl (V_t_bn 4))), ((A_t_bn 5), .inl (cI, 10, .inl (V_t_bn 5))), ((A_t_bo 0), .inl (cI, 12, .inl (V_t_bo 0))), ((A_t_bo 1), .inl (cI, 12, .inl (V_t_bo 1))), ((A_t_bo 2), .inl (cI, 12, .inl (V_t_bo 2))), ((A_t_bo 3), .inl (cI, 12, .inl (V_t_bo 3))), ((A_t_bo 4), .inl (cI, 12, .inl (V_t_bo 4))), ((A_t_bo 5), .inl (cI, 12, .inl (V_t_bo 5))), ((A_t_bc 0), .inl (cI, 63, .inl (V_t_bc 0))), ((A_t_bc 1), .inl (cI, 63, .inl (V_t_bc 1))), ((A_t_bc 2), .inl (cI, 63, .inl (V_t_bc 2))), ((A_t_bc 3), .inl (cI, 63, .inl (V_t_bc 3))), ((A_t_bc 4), .inl (cI, 63, .inl (V_t_bc 4))), ((A_t_bc 5), .inl (cI, 63, .inl (V_t_bc 5))), (A_p1, .inr (0, [.ref A_p1_numbers, .ref A_p1_owners, .ref A_p1_cells])), (A_p1_numbers, .inl (cI, 10, .inl V_p1_numbers)), (A_p1_owners, .inl (cI, 12, .inl V_p1_owners)), (A_p1_cells, .inl (cI, 63, .inl V_p1_cells))]) hx hb hts in_X1_save_X1 tyX1 tyX1_ok nmX1 hown hK hP hD hS 0 rfl rfl 2 (by decide) wd_X1_save_1 rfl (by decide +kernel) rfl rfl (Nat.le_of_ble_eq_true rfl) rfl dX1_save_29 (fun H locs hP hD hS => ?_)
    exact hJ1 _ _ _ _ hP hD hS _ (lv_sub hl [0, 1] rfl) hg
