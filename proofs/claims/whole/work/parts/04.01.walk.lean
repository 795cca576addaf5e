theorem hd_X2_weighOrders : yX2_weighOrders.cls = RX2 ∧ yX2_weighOrders.cls ≠ "java/lang/invoke/MethodHandle" ∧ yX2_weighOrders.cls ≠ "java/lang/invoke/VarHandle" ∧ (parseMethodDescriptor yX2_weighOrders.desc).map (fun d => d.parameters.length) = some 0 := by decide +kernel
theorem in_X2_weighOrders_X2 : ∀ w ∈ u_ws RX2 TX2 8, w ∈ wsX2_weighOrders := fun _ h => List.mem_cons_of_mem _ (List.mem_append_left _ (List.mem_append_right _ h))
theorem wd_X2_weighOrders_1 : Cond.fieldLink RX2 12 "FogOrders$Opening" "board" "LFogOrders$Board;" ∈ wsX2_weighOrders := List.mem_of_getElem? (i := 1) rfl
theorem wd_X2_weighOrders_2 : Cond.fieldLink RX2 25 "FogOrders$Opening" "strength" "[I" ∈ wsX2_weighOrders := List.mem_of_getElem? (i := 2) rfl
theorem wd_X2_weighOrders_25 : Cond.initialized RX4 ∈ wsX2_weighOrders := List.mem_of_getElem? (i := 25) rfl
theorem wd_X2_weighOrders_27 : Cond.static yX4_enter ∈ wsX2_weighOrders := List.mem_of_getElem? (i := 27) rfl
abbrev rX2_weighOrders : Room := { frames := 2, cells := 0, slots := 0, locals := 48 }
set_option maxHeartbeats 4000000 in
set_option maxRecDepth 100000 in
theorem c_X2_weighOrders (l : Launch) (D : va_G) (cI cZ cB cJ : ClassId) (A_t : Nat) (A_t_board : Nat) (A_t_cut : Nat) (A_t_counts : Nat) (A_t_strength : Nat) (A_t_reason : Nat) (A_t_driver : Nat) (A_t_waits : Nat) (A_t_stands : Nat) (A_t_board_numbers : Nat) (A_t_board_owners : Nat) (A_t_board_cells : Nat) (sz : Nat) (V_t_board_numbers : Nat → Int32) (V_t_board_cells : Nat → Int32) (V_t_counts : Nat → Int32) (V_t_strength : Nat → Int32) (w1 : Nat → Int32) (hg : g_X2_weighOrders V_t_board_numbers V_t_board_cells V_t_counts V_t_strength = some w1) : Met l yX2_weighOrders wsX2_weighOrders rX2_weighOrders (PcW D cI cZ cB cJ sz [(A_t, .inr (2, [.ref A_t_board, .ref A_t_cut, .ref A_t_counts, .ref A_t_strength, .ref A_t_reason, .ref A_t_driver, .ref A_t_waits, .ref A_t_stands])), (A_t_board, .inr (0, [.ref A_t_board_numbers, .ref A_t_board_owners, .ref A_t_board_cells])), (A_t_board_numbers, .inl (cI, 10, .inl V_t_board_numbers)), (A_t_board_cells, .inl (cI, 63, .inl V_t_board_cells)), (A_t_counts, .inl (cI, 9, .inl V_t_counts)), (A_t_strength, .inl (cI, 9, .inl V_t_strength))] [.ref A_t]) (QWv D cI cZ cB cJ sz [(A_t, .inr (2, [.ref A_t_board, .ref A_t_cut, .ref A_t_counts, .ref A_t_strength, .ref A_t_reason, .ref A_t_driver, .ref A_t_waits, .ref A_t_stands])), (A_t_board, .inr (0, [.ref A_t_board_numbers, .ref A_t_board_owners, .ref A_t_board_cells])), (A_t_board_numbers, .inl (cI, 10, .inl V_t_board_numbers)), (A_t_board_cells, .inl (cI, 63, .inl V_t_board_cells)), (A_t_counts, .inl (cI, 9, .inl V_t_counts)), (A_t_strength, .inl (cI, 9, .inl V_t_strength))] [(A_t, .inr (2, [.ref A_t_board, .ref A_t_cut, .ref A_t_counts, .ref A_t_strength, .ref A_t_reason, .ref A_t_driver, .ref A_t_waits, .ref A_t_stands])), (A_t_board, .inr (0, [.ref A_t_board_numbers, .ref A_t_board_owners, .ref A_t_board_cells])), (A_t_board_numbers, .inl (cI, 10, .inl V_t_board_numbers)), (A_t_board_cells, .inl (cI, 63, .inl V_t_board_cells)), (A_t_counts, .inl (cI, 9, .inl V_t_counts)), (A_t_strength, .inl (cI, 9, .inl w1))]) 0 0 (va_A [(A_t, .inr (2, [.ref A_t_board, .ref A_t_cut, .ref A_t_counts, .ref A_t_strength, .ref A_t_reason, .ref A_t_driver, .ref A_t_waits, .ref A_t_stands])), (A_t_board, .inr (0, [.ref A_t_board_numbers, .ref A_t_board_owners, .ref A_t_board_cells])), (A_t_board_numbers, .inl (cI, 10, .inl V_t_board_numbers)), (A_t_board_cells, .inl (cI, 63, .inl V_t_board_cells)), (A_t_counts, .inl (cI, 9, .inl V_t_counts)), (A_t_strength, .inl (cI, 9, .inl V_t_strength))] sz) := by
  refine bodyWv (cc := cX2_weighOrders) (maxL := 4) (lv := [(0, .ref A_t)]) (by decide) rfl (Nat.le_of_ble_eq_true rfl) rfl ?_
  intro p e s m args below meth c Q hx hb hml hown hts A hP hK hD hA hS fin ls hl
  replace hown : s.vm.findClass RX2 = some m.cls := hown
  have S : CallFix p m c cX2_weighOrders 4 s args wsX2_weighOrders RX2 := ⟨hx, hb, hml, hown, hts⟩
  unfold g_X2_weighOrders at hg
  refine lv_iconst (v := 0) hx hb dX2_weighOrders_0 (by decide) ?_
  refine lv_istore_n (lv' := [(1, .int 0), (0, .ref A_t)]) hx hb dX2_weighOrders_1 rfl hl (by decide) rfl (fun ls hl => ?_)
  obtain ⟨f10, hL, hg⟩ := bind_ex hg
  have kx : ∀ (H : Heap) (locs : List Loc), va_P D vwCl [(A_t, .inr (2, [.ref A_t_board, .ref A_t_cut, .ref A_t_counts, .ref A_t_strength, .ref A_t_reason, .ref A_t_driver, .ref A_t_waits, .ref A_t_stands])), (A_t_board, .inr (0, [.ref A_t_board_numbers, .ref A_t_board_owners, .ref A_t_board_cells])), (A_t_board_numbers, .inl (cI, 10, .inl V_t_board_numbers)), (A_t_board_cells, .inl (cI, 63, .inl V_t_board_cells)), (A_t_counts, .inl (cI, 9, .inl V_t_counts)), (A_t_strength, .inl (cI, 9, .inl f10))] H → va_D A [(A_t, .inr (2, [.ref A_t_board, .ref A_t_cut, .ref A_t_counts, .ref A_t_strength, .ref A_t_reason, .ref A_t_driver, .ref A_t_waits, .ref A_t_stands])), (A_t_board, .inr (0, [.ref A_t_board_numbers, .ref A_t_board_owners, .ref A_t_board_cells])), (A_t_board_numbers, .inl (cI, 10, .inl V_t_board_numbers)), (A_t_board_cells, .inl (cI, 63, .inl V_t_board_cells)), (A_t_counts, .inl (cI, 9, .inl V_t_counts)), (A_t_strength, .inl (cI, 9, .inl f10))] → va_S A s.heap H locs → ∀ ls : Array Slot, lv_has ls 4 [] → W p l e rX2_weighOrders s m args below meth c H locs 0 0 Q (F0 m 68 ls []) := by
    intro H locs hP hD hS ls hl
    cases hg
    exact fin _ _ _ _ dX2_weighOrders_68 hP hD hS
  have L : ∀ (nf : Nat) (v1 : Int32) (f2 : Nat → Int32), ∀ (H : Heap) (locs : List Loc), va_P D vwCl [(A_t, .inr (2, [.ref A_t_board, .ref A_t_cut, .ref A_t_counts, .ref A_t_strength, .ref A_t_reason, .ref A_t_driver, .ref A_t_waits, .ref A_t_stands])), (A_t_board, .inr (0, [.ref A_t_board_numbers, .ref A_t_board_owners, .ref A_t_board_cells])), (A_t_board_numbers, .inl (cI, 10, .inl V_t_board_numbers)), (A_t_board_cells, .inl (cI, 63, .inl V_t_board_cells)), (A_t_counts, .inl (cI, 9, .inl V_t_counts)), (A_t_strength, .inl (cI, 9, .inl f2))] H → va_D A [(A_t, .inr (2, [.ref A_t_board, .ref A_t_cut, .ref A_t_counts, .ref A_t_strength, .ref A_t_reason, .ref A_t_driver, .ref A_t_waits, .ref A_t_stands])), (A_t_board, .inr (0, [.ref A_t_board_numbers, .ref A_t_board_owners, .ref A_t_board_cells])), (A_t_board_numbers, .inl (cI, 10, .inl V_t_board_numbers)), (A_t_board_cells, .inl (cI, 63, .inl V_t_board_cells)), (A_t_counts, .inl (cI, 9, .inl V_t_counts)), (A_t_strength, .inl (cI, 9, .inl f2))] → va_S A s.heap H locs → ∀ ls : Array Slot, lv_has ls 4 [(1, .int v1), (0, .ref A_t)] → g_X2_weighOrders_L1 V_t_board_numbers V_t_board_cells V_t_counts nf v1 f2 = some f10 → W p l e rX2_weighOrders s m args below meth c H locs 0 0 Q (F0 m 2 ls []) := by
    intro nf
    induction nf with
    | zero =>
      intro v1 f2 H locs hP hD hS ls hl hg
      exact no_some hg
    | succ nf ih =>
      intro v1 f2 H locs hP hD hS ls hl hg
      rw [g_X2_weighOrders_L1] at hg
      refine lv_iload_n hx hb dX2_weighOrders_2 rfl (lv_at hl 0 rfl) ?_
      refine lv_aload_n hx hb dX2_weighOrders_3 rfl (lv_at hl 1 rfl) ?_
      refine xget (ci := 2) (C := RX2) (T := TX2) (N := 8) (v := .ref A_t_board) hx hb hts in_X2_weighOrders_X2 hown hK hP 0 rfl rfl 0 (by decide) wd_X2_weighOrders_1 rfl dX2_weighOrders_4 ?_
      refine lv_iconst (v := 0) hx hb dX2_weighOrders_7 (by decide) ?_
      obtain ⟨v3, hq, hg⟩ := bind_ex hg
      refine callRVi (As := [.int 0]) (rest := [.int v1]) S hK hP (c_X0_number l D cI cZ cB cJ A_t_board A_t_board_numbers A_t_board_owners A_t_board_cells V_t_board_numbers 0 v3 hq) [1, 2] rfl (cwV 1 hts gX2_weighOrders_X0_number rfl rfl rfl hd_X0_number ⟨Nat.le_of_ble_eq_true rfl, Nat.le_of_ble_eq_true rfl⟩) rfl rfl rfl hl.1 rfl (Nat.le_of_ble_eq_true rfl) dX2_weighOrders_8 ⟨Nat.zero_le _, Nat.zero_le _⟩ ?_
      refine lv_icmp_ge (tgt := 68) hx hb dX2_weighOrders_11 (by decide) (fun hc => ?_) (fun hc => ?_)
      · replace hg := if_yes hg hc
        cases hg
        exact kx _ _ hP hD hS _ (lv_sub hl [] rfl)
      · replace hg := if_no hg hc
        refine lv_aload_n hx hb dX2_weighOrders_14 rfl (lv_at hl 1 rfl) ?_
        refine xget (ci := 2) (C := RX2) (T := TX2) (N := 8) (v := .ref A_t_board) hx hb hts in_X2_weighOrders_X2 hown hK hP 0 rfl rfl 0 (by decide) wd_X2_weighOrders_1 rfl dX2_weighOrders_15 ?_
        refine lv_iload_n hx hb dX2_weighOrders_18 rfl (lv_at hl 0 rfl) ?_
        refine lv_iconst (v := 1) hx hb dX2_weighOrders_19 (by decide) ?_
        obtain ⟨v4, hq, hg⟩ := bind_ex hg
        refine callRVi (As := [.int v1, .int 1]) (rest := []) S hK hP (c_X0_of l D cI cZ cB cJ A_t_board A_t_board_numbers A_t_board_owners A_t_board_cells V_t_board_cells v1 1 v4 hq) [1, 3] rfl (cwV 2 hts gX2_weighOrders_X0_of rfl rfl rfl hd_X0_of ⟨Nat.le_of_ble_eq_true rfl, Nat.le_of_ble_eq_true rfl⟩) rfl rfl rfl hl.1 rfl (Nat.le_of_ble_eq_true rfl) dX2_weighOrders_20 ⟨Nat.zero_le _, Nat.zero_le _⟩ ?_
        refine lv_istore_n (lv' := [(2, .int v4), (1, .int v1), (0, .ref A_t)]) hx hb dX2_weighOrders_23 rfl hl (by decide) rfl (fun ls hl => ?_)
        refine lv_aload_n hx hb dX2_weighOrders_24 rfl (lv_at hl 2 rfl) ?_
        refine lv_iload_n hx hb dX2_weighOrders_25 rfl (lv_at hl 1 rfl) ?_
        obtain ⟨v5, hq, hg⟩ := bind_ex hg
        refine callRVz (As := [.int v1]) (rest := []) S hK hP (c_X2_moves l D cI cZ cB cJ A_t A_t_board A_t_cut A_t_counts A_t_strength A_t_reason A_t_driver A_t_waits A_t_stands A_t_board_numbers A_t_board_owners A_t_board_cells V_t_board_cells v1 v5 hq) [0, 1, 3] rfl (cwV 1 hts gX2_weighOrders_X2_moves rfl rfl rfl hd_X2_moves ⟨Nat.le_of_ble_eq_true rfl, Nat.le_of_ble_eq_true rfl⟩) rfl rfl rfl hl.1 rfl (Nat.le_of_ble_eq_true rfl) dX2_weighOrders_26 ⟨Nat.zero_le _, Nat.zero_le _⟩ (fun hz_v5 => ?_)
        have hJ1 : ∀ (v7 : Int32), ∀ (H : Heap) (locs : List Loc), va_P D vwCl [(A_t, .inr (2, [.ref A_t_board, .ref A_t_cut, .ref A_t_counts, .ref A_t_strength, .ref A_t_reason, .ref A_t_driver, .ref A_t_waits, .ref A_t_stands])), (A_t_board, .inr (0, [.ref A_t_board_numbers, .ref A_t_board_owners, .ref A_t_board_cells])), (A_t_board_numbers, .inl (cI, 10, .inl V_t_board_numbers)), (A_t_board_cells, .inl (cI, 63, .inl V_t_board_cells)), (A_t_counts, .inl (cI, 9, .inl V_t_counts)), (A_t_strength, .inl (cI, 9, .inl f2))] H → va_D A [(A_t, .inr (2, [.ref A_t_board, .ref A_t_cut, .ref A_t_counts, .ref A_t_strength, .ref A_t_reason, .ref A_t_driver, .ref A_t_waits, .ref A_t_stands])), (A_t_board, .inr (0, [.ref A_t_board_numbers, .ref A_t_board_owners, .ref A_t_board_cells])), (A_t_board_numbers, .inl (cI, 10, .inl V_t_board_numbers)), (A_t_board_cells, .inl (cI, 63, .inl V_t_board_cells)), (A_t_counts, .inl (cI, 9, .inl V_t_counts)), (A_t_strength, .inl (cI, 9, .inl f2))] → va_S A s.heap H locs → ∀ ls : Array Slot, lv_has ls 4 [(2, .int v4), (1, .int v1), (0, .ref A_t)] → g_X2_weighOrders_J1 V_t_board_numbers V_t_board_cells V_t_counts v4 f2 v1 (g_X2_weighOrders_L1 V_t_board_numbers V_t_board_cells V_t_counts nf) v7 = some f10 → W p l e rX2_weighOrders s m args below meth c H locs 0 0 Q (F0 m 45 ls [.int v7]) := by
          intro v7 H locs hP hD hS ls hl hg
          unfold g_X2_weighOrders_J1 at hg
          refine lv_istore_n (lv' := [(3, .int v7), (2, .int v4), (1, .int v1), (0, .ref A_t)]) hx hb dX2_weighOrders_45 rfl hl (by decide) rfl (fun ls hl => ?_)
          refine lv_aload_n hx hb dX2_weighOrders_46 rfl (lv_at hl 3 rfl) ?_
          refine xget (ci := 2) (C := RX2) (T := TX2) (N := 8) (v := .ref A_t_strength) hx hb hts in_X2_weighOrders_X2 hown hK hP 0 rfl rfl 3 (by decide) wd_X2_weighOrders_2 rfl dX2_weighOrders_47 ?_
          refine lv_iload_n hx hb dX2_weighOrders_50 rfl (lv_at hl 2 rfl) ?_
          refine lv_iconst (v := 1) hx hb dX2_weighOrders_51 (by decide) ?_
          refine lv_aload_n hx hb dX2_weighOrders_52 rfl (lv_at hl 3 rfl) ?_
          refine lv_iload_n hx hb dX2_weighOrders_53 rfl (lv_at hl 1 rfl) ?_
          refine lv_iload_n hx hb dX2_weighOrders_54 rfl (lv_at hl 0 rfl) ?_
          obtain ⟨v8, hq, hg⟩ := bind_ex hg
          refine callRVi (As := [.int v4, .int v7]) (rest := [.int 1, .int v1, .ref A_t_strength]) S hK hP (c_X2_supportsOf l D cI cZ cB cJ A_t A_t_board A_t_cut A_t_counts A_t_strength A_t_reason A_t_driver A_t_waits A_t_stands A_t_board_numbers A_t_board_owners A_t_board_cells V_t_board_numbers V_t_board_cells V_t_counts v4 v7 v8 hq) [0, 1, 2, 3, 4] rfl (cwV 2 hts gX2_weighOrders_X2_supportsOf rfl rfl rfl hd_X2_supportsOf ⟨Nat.le_of_ble_eq_true rfl, Nat.le_of_ble_eq_true rfl⟩) rfl rfl rfl hl.1 rfl (Nat.le_of_ble_eq_true rfl) dX2_weighOrders_55 ⟨Nat.zero_le _, Nat.zero_le _⟩ ?_
          refine lv_iadd hx hb dX2_weighOrders_58 ?_
          obtain ⟨f9, hq, hg⟩ := bind_ex hg
          refine callWNv (As := [.ref A_t_strength, .int v1, .int (1 + v8)]) (rest := []) (wr := [(A_t, .inr (2, [.ref A_t_board, .ref A_t_cut, .ref A_t_counts, .ref A_t_strength, .ref A_t_reason, .ref A_t_driver, .ref A_t_waits, .ref A_t_stands])), (A_t_board, .inr (0, [.ref A_t_board_numbers, .ref A_t_board_owners, .ref A_t_board_cells])), (A_t_board_numbers, .inl (cI, 10, .inl V_t_board_numbers)), (A_t_board_cells, .inl (cI, 63, .inl V_t_board_cells)), (A_t_counts, .inl (cI, 9, .inl V_t_counts))]) S hK hP hD hS hA (c_X4_enter l D cI cZ cB cJ A_t_strength 9 _ f2 v1 (1 + v8) f9 hq) [5] [0, 1, 2, 3, 4] rfl rfl (by decide +kernel) (by decide +kernel) (by decide +kernel) ⟨va_cnB 3 hts gX2_weighOrders_X4_enter_n76 rfl rfl rfl (hK.2 _ (List.mem_of_getElem? (i := 7) rfl)) (hts _ wd_X2_weighOrders_25) hd_X4_enter ⟨Nat.le_of_ble_eq_true rfl, Nat.le_of_ble_eq_true rfl⟩, hts _ wd_X2_weighOrders_27, trivial⟩ rfl hl.1 rfl (Nat.le_of_ble_eq_true rfl) dX2_weighOrders_59 ⟨Nat.zero_le _, Nat.zero_le _⟩ (fun H locs hP hD hS => ?_)
          replace hP : va_P D vwCl [(A_t, .inr (2, [.ref A_t_board, .ref A_t_cut, .ref A_t_counts, .ref A_t_strength, .ref A_t_reason, .ref A_t_driver, .ref A_t_waits, .ref A_t_stands])), (A_t_board, .inr (0, [.ref A_t_board_numbers, .ref A_t_board_owners, .ref A_t_board_cells])), (A_t_board_numbers, .inl (cI, 10, .inl V_t_board_numbers)), (A_t_board_cells, .inl (cI, 63, .inl V_t_board_cells)), (A_t_counts, .inl (cI, 9, .inl V_t_counts)), (A_t_strength, .inl (cI, 9, .inl f9))] H := hP
          replace hD : va_D A [(A_t, .inr (2, [.ref A_t_board, .ref A_t_cut, .ref A_t_counts, .ref A_t_strength, .ref A_t_reason, .ref A_t_driver, .ref A_t_waits, .ref A_t_stands])), (A_t_board, .inr (0, [.ref A_t_board_numbers, .ref A_t_board_owners, .ref A_t_board_cells])), (A_t_board_numbers, .inl (cI, 10, .inl V_t_board_numbers)), (A_t_board_cells, .inl (cI, 63, .inl V_t_board_cells)), (A_t_counts, .inl (cI, 9, .inl V_t_counts)), (A_t_strength, .inl (cI, 9, .inl f9))] := hD
          refine lv_iinc (v := (v1 + 1)) (lv' := [(1, .int (v1 + 1)), (3, .int v7), (2, .int v4), (0, .ref A_t)]) hx hb dX2_weighOrders_62 hl (k := 2) rfl rfl (by decide) rfl (fun ls hl => ?_)
          refine lv_goto (tgt := 2) hx hb dX2_weighOrders_65 (by decide) ?_
          exact ih _ _ _ _ hP hD hS _ (lv_sub hl [0, 3] rfl) hg
        refine lv_if_eq (tgt := 44) hx hb dX2_weighOrders_29 (by decide) (fun hc => ?_) (fun hc => ?_)
        · replace hg := if_yes hg hc
          refine lv_iload_n hx hb dX2_weighOrders_44 rfl (lv_at hl 0 rfl) ?_
          exact hJ1 _ _ _ hP hD hS _ (lv_sub hl [0, 1, 2] rfl) hg
        · replace hg := if_no hg hc
          refine lv_aload_n hx hb dX2_weighOrders_32 rfl (lv_at hl 2 rfl) ?_
          refine xget (ci := 2) (C := RX2) (T := TX2) (N := 8) (v := .ref A_t_board) hx hb hts in_X2_weighOrders_X2 hown hK hP 0 rfl rfl 0 (by decide) wd_X2_weighOrders_1 rfl dX2_weighOrders_33 ?_
          refine lv_iload_n hx hb dX2_weighOrders_36 rfl (lv_at hl 1 rfl) ?_
          refine lv_iconst (v := 3) hx hb dX2_weighOrders_37 (by decide) ?_
          obtain ⟨v6, hq, hg⟩ := bind_ex hg
          refine callRVi (As := [.int v1, .int 3]) (rest := []) S hK hP (c_X0_of l D cI cZ cB cJ A_t_board A_t_board_numbers A_t_board_owners A_t_board_cells V_t_board_cells v1 3 v6 hq) [1, 3] rfl (cwV 2 hts gX2_weighOrders_X0_of rfl rfl rfl hd_X0_of ⟨Nat.le_of_ble_eq_true rfl, Nat.le_of_ble_eq_true rfl⟩) rfl rfl rfl hl.1 rfl (Nat.le_of_ble_eq_true rfl) dX2_weighOrders_38 ⟨Nat.zero_le _, Nat.zero_le _⟩ ?_
          refine lv_goto (tgt := 45) hx hb dX2_weighOrders_41 (by decide) ?_
          exact hJ1 _ _ _ hP hD hS _ (lv_sub hl [0, 1, 2] rfl) hg
  exact L FU _ _ _ _ hP hD hS _ (lv_sub hl [0, 1] rfl) hL
theorem hd_X2_hasRival : yX2_hasRival.cls = RX2 ∧ yX2_hasRival.cls ≠ "java/lang/invoke/MethodHandle" ∧ yX2_hasRival.cls ≠ "java/lang/invoke/VarHandle" ∧ (parseMethodDescriptor yX2_hasRival.desc).map (fun d => d.parameters.length) = some 1 := by decide +kernel
theorem in_X2_hasRival_X2 : ∀ w ∈ u_ws RX2 TX2 8, w ∈ wsX2_hasRival := fun _ h => List.mem_cons_of_mem _ (List.mem_append_left _ (List.mem_append_right _ h))
theorem wd_X2_hasRival_1 : Cond.fieldLink RX2 12 "FogOrders$Opening" "board" "LFogOrders$Board;" ∈ wsX2_hasRival := List.mem_of_getElem? (i := 1) rfl
theorem wd_X2_hasRival_2 : Cond.fieldLink RX2 25 "FogOrders$Opening" "strength" "[I" ∈ wsX2_hasRival := List.mem_of_getElem? (i := 2) rfl
theorem wd_X2_hasRival_20 : Cond.initialized RX4 ∈ wsX2_hasRival := List.mem_of_getElem? (i := 20) rfl
theorem wd_X2_hasRival_19 : Cond.static yX4_entry ∈ wsX2_hasRival := List.mem_of_getElem? (i := 19) rfl
abbrev rX2_hasRival : Room := { frames := 2, cells := 0, slots := 0, locals := 44 }
set_option maxHeartbeats 4000000 in
set_option maxRecDepth 100000 in
theorem c_X2_hasRival (l : Launch) (D : va_G) (cI cZ cB cJ : ClassId) (A_t : Nat) (A_t_board : Nat) (A_t_cut : Nat) (A_t_counts : Nat) (A_t_strength : Nat) (A_t_reason : Nat) (A_t_driver : Nat) (A_t_waits : Nat) (A_t_stands : Nat) (A_t_board_numbers : Nat) (A_t_board_owners : Nat) (A_t_board_cells : Nat) (V_t_board_numbers : Nat → Int32) (V_t_board_cells : Nat → Int32) (V_t_strength : Nat → Int32) (x1 : Int32) (r0 : Int32) (hg : g_X2_hasRival V_t_board_numbers V_t_board_cells V_t_strength x1 = some r0) : Met l yX2_hasRival wsX2_hasRival rX2_hasRival (PcR D cI cZ cB cJ [(A_t, .inr (2, [.ref A_t_board, .ref A_t_cut, .ref A_t_counts, .ref A_t_strength, .ref A_t_reason, .ref A_t_driver, .ref A_t_waits, .ref A_t_stands])), (A_t_board, .inr (0, [.ref A_t_board_numbers, .ref A_t_board_owners, .ref A_t_board_cells])), (A_t_board_numbers, .inl (cI, 10, .inl V_t_board_numbers)), (A_t_board_cells, .inl (cI, 63, .inl V_t_board_cells)), (A_t_strength, .inl (cI, 9, .inl V_t_strength))] [.ref A_t, .int x1]) (vp_Si (fun r' => r' = r0 ∧ bo r0)) 0 0 (fun _ => False) := by
  refine bodyRz (cc := cX2_hasRival) (maxL := 3) (lv := [(0, .ref A_t), (1, .int x1)]) (by decide) rfl (Nat.le_of_ble_eq_true rfl) rfl ?_
  intro p e s m args below meth c Q hx hb hml hown hts hP hK fin ls hl
  replace hown : s.vm.findClass RX2 = some m.cls := hown
  have S : CallFix p m c cX2_hasRival 3 s args wsX2_hasRival RX2 := ⟨hx, hb, hml, hown, hts⟩
  unfold g_X2_hasRival at hg
  refine lv_iconst (v := 0) hx hb dX2_hasRival_0 (by decide) ?_
  refine lv_istore_n (lv' := [(2, .int 0), (0, .ref A_t), (1, .int x1)]) hx hb dX2_hasRival_1 rfl hl (by decide) rfl (fun ls hl => ?_)
  have L : ∀ (nf : Nat) (v1 : Int32), ∀ ls : Array Slot, lv_has ls 3 [(2, .int v1), (0, .ref A_t), (1, .int x1)] → g_X2_hasRival_L1 V_t_board_numbers x1 V_t_board_cells V_t_strength nf v1 = some r0 → W p l e rX2_hasRival s m args below meth c s.heap [] 0 0 Q (F0 m 2 ls []) := by
    intro nf
    induction nf with
    | zero =>
      intro v1 ls hl hg
      exact no_some hg
    | succ nf ih =>
      intro v1 ls hl hg
      rw [g_X2_hasRival_L1] at hg
      refine lv_iload_n hx hb dX2_hasRival_2 rfl (lv_at hl 0 rfl) ?_
      refine lv_aload_n hx hb dX2_hasRival_3 rfl (lv_at hl 1 rfl) ?_
      refine xget (ci := 2) (C := RX2) (T := TX2) (N := 8) (v := .ref A_t_board) hx hb hts in_X2_hasRival_X2 hown hK hP 0 rfl rfl 0 (by decide) wd_X2_hasRival_1 rfl dX2_hasRival_4 ?_
      refine lv_iconst (v := 0) hx hb dX2_hasRival_7 (by decide) ?_
      obtain ⟨v2, hq, hg⟩ := bind_ex hg
      refine callRVi (As := [.int 0]) (rest := [.int v1]) S hK hP (c_X0_number l D cI cZ cB cJ A_t_board A_t_board_numbers A_t_board_owners A_t_board_cells V_t_board_numbers 0 v2 hq) [1, 2] rfl (cwV 1 hts gX2_hasRival_X0_number rfl rfl rfl hd_X0_number ⟨Nat.le_of_ble_eq_true rfl, Nat.le_of_ble_eq_true rfl⟩) rfl rfl rfl hl.1 rfl (Nat.le_of_ble_eq_true rfl) dX2_hasRival_8 ⟨Nat.zero_le _, Nat.zero_le _⟩ ?_
      refine lv_icmp_ge (tgt := 75) hx hb dX2_hasRival_11 (by decide) (fun hc => ?_) (fun hc => ?_)
      · replace hg := if_yes hg hc
        refine lv_iconst (v := 0) hx hb dX2_hasRival_75 (by decide) ?_
        cases hg
        exact fin _ _ bo_0 dX2_hasRival_76
      · replace hg := if_no hg hc
        refine lv_iload_n hx hb dX2_hasRival_14 rfl (lv_at hl 0 rfl) ?_
        refine lv_iload_n hx hb dX2_hasRival_15 rfl (lv_at hl 2 rfl) ?_
        refine lv_icmp_eq (tgt := 69) hx hb dX2_hasRival_16 (by decide) (fun hc => ?_) (fun hc => ?_)
        · replace hg := if_yes hg hc
          refine lv_iinc (v := (v1 + 1)) (lv' := [(2, .int (v1 + 1)), (0, .ref A_t), (1, .int x1)]) hx hb dX2_hasRival_69 hl (k := 0) rfl rfl (by decide) rfl (fun ls hl => ?_)
          refine lv_goto (tgt := 2) hx hb dX2_hasRival_72 (by decide) ?_
          exact ih _ _ (lv_sub hl [0, 1, 2] rfl) hg
        · replace hg := if_no hg hc
          refine lv_aload_n hx hb dX2_hasRival_19 rfl (lv_at hl 1 rfl) ?_
          refine lv_iload_n hx hb dX2_hasRival_20 rfl (lv_at hl 0 rfl) ?_
          obtain ⟨v3, hq, hg⟩ := bind_ex hg
          refine callRVz (As := [.int v1]) (rest := []) S hK hP (c_X2_moves l D cI cZ cB cJ A_t A_t_board A_t_cut A_t_counts A_t_strength A_t_reason A_t_driver A_t_waits A_t_stands A_t_board_numbers A_t_board_owners A_t_board_cells V_t_board_cells v1 v3 hq) [0, 1, 3] rfl (cwV 1 hts gX2_hasRival_X2_moves rfl rfl rfl hd_X2_moves ⟨Nat.le_of_ble_eq_true rfl, Nat.le_of_ble_eq_true rfl⟩) rfl rfl rfl hl.1 rfl (Nat.le_of_ble_eq_true rfl) dX2_hasRival_21 ⟨Nat.zero_le _, Nat.zero_le _⟩ (fun hz_v3 => ?_)
          refine lv_if_eq (tgt := 69) hx hb dX2_hasRival_24 (by decide) (fun hc => ?_) (fun hc => ?_)
          · replace hg := if_yes hg hc
            refine lv_iinc (v := (v1 + 1)) (lv' := [(2, .int (v1 + 1)), (0, .ref A_t), (1, .int x1)]) hx hb dX2_hasRival_69 hl (k := 0) rfl rfl (by decide) rfl (fun ls hl => ?_)
            refine lv_goto (tgt := 2) hx hb dX2_hasRival_72 (by decide) ?_
            exact ih _ _ (lv_sub hl [0, 1, 2] rfl) hg
          · replace hg := if_no hg hc
            refine lv_aload_n hx hb dX2_hasRival_27 rfl (lv_at hl 1 rfl) ?_
            refine xget (ci := 2) (C := RX2) (T := TX2) (N := 8) (v := .ref A_t_board) hx hb hts in_X2_hasRival_X2 hown hK hP 0 rfl rfl 0 (by decide) wd_X2_hasRival_1 rfl dX2_hasRival_28 ?_
            refine lv_iload_n hx hb dX2_hasRival_31 rfl (lv_at hl 0 rfl) ?_
            refine lv_iconst (v := 3) hx hb dX2_hasRival_32 (by decide) ?_
            obtain ⟨v4, hq, hg⟩ := bind_ex hg
            refine callRVi (As := [.int v1, .int 3]) (rest := []) S hK hP (c_X0_of l D cI cZ cB cJ A_t_board A_t_board_numbers A_t_board_owners A_t_board_cells V_t_board_cells v1 3 v4 hq) [1, 3] rfl (cwV 2 hts gX2_hasRival_X0_of rfl rfl rfl hd_X0_of ⟨Nat.le_of_ble_eq_true rfl, Nat.le_of_ble_eq_true rfl⟩) rfl rfl rfl hl.1 rfl (Nat.le_of_ble_eq_true rfl) dX2_hasRival_33 ⟨Nat.zero_le _, Nat.zero_le _⟩ ?_
            refine lv_aload_n hx hb dX2_hasRival_36 rfl (lv_at hl 1 rfl) ?_
            refine xget (ci := 2) (C := RX2) (T := TX2) (N := 8) (v := .ref A_t_board) hx hb hts in_X2_hasRival_X2 hown hK hP 0 rfl rfl 0 (by decide) wd_X2_hasRival_1 rfl dX2_hasRival_37 ?_
            refine lv_iload_n hx hb dX2_hasRival_40 rfl (lv_at hl 2 rfl) ?_
            refine lv_iconst (v := 3) hx hb dX2_hasRival_41 (by decide) ?_
            obtain ⟨v5, hq, hg⟩ := bind_ex hg
            refine callRVi (As := [.int x1, .int 3]) (rest := [.int v4]) S hK hP (c_X0_of l D cI cZ cB cJ A_t_board A_t_board_numbers A_t_board_owners A_t_board_cells V_t_board_cells x1 3 v5 hq) [1, 3] rfl (cwV 2 hts gX2_hasRival_X0_of rfl rfl rfl hd_X0_of ⟨Nat.le_of_ble_eq_true rfl, Nat.le_of_ble_eq_true rfl⟩) rfl rfl rfl hl.1 rfl (Nat.le_of_ble_eq_true rfl) dX2_hasRival_42 ⟨Nat.zero_le _, Nat.zero_le _⟩ ?_
            refine lv_icmp_ne (tgt := 69) hx hb dX2_hasRival_45 (by decide) (fun hc => ?_) (fun hc => ?_)
            · replace hg := if_no hg hc
              refine lv_iinc (v := (v1 + 1)) (lv' := [(2, .int (v1 + 1)), (0, .ref A_t), (1, .int x1)]) hx hb dX2_hasRival_69 hl (k := 0) rfl rfl (by decide) rfl (fun ls hl => ?_)
              refine lv_goto (tgt := 2) hx hb dX2_hasRival_72 (by decide) ?_
              exact ih _ _ (lv_sub hl [0, 1, 2] rfl) hg
            · replace hg := if_yes hg hc
              refine lv_aload_n hx hb dX2_hasRival_48 rfl (lv_at hl 1 rfl) ?_
              refine xget (ci := 2) (C := RX2) (T := TX2) (N := 8) (v := .ref A_t_strength) hx hb hts in_X2_hasRival_X2 hown hK hP 0 rfl rfl 3 (by decide) wd_X2_hasRival_2 rfl dX2_hasRival_49 ?_
              refine lv_iload_n hx hb dX2_hasRival_52 rfl (lv_at hl 0 rfl) ?_
              obtain ⟨v6, hq, hg⟩ := bind_ex hg
              refine callRNi (As := [.ref A_t_strength, .int v1]) (rest := []) S hK hP (c_X4_entry l D cI cZ cB cJ A_t_strength 9 V_t_strength v1 v6 hq) [4] rfl ⟨va_cnB 2 hts gX2_hasRival_X4_entry_n89 rfl rfl rfl (hK.2 _ (List.mem_of_getElem? (i := 8) rfl)) (hts _ wd_X2_hasRival_20) hd_X4_entry ⟨Nat.le_of_ble_eq_true rfl, Nat.le_of_ble_eq_true rfl⟩, hts _ wd_X2_hasRival_19, trivial⟩ rfl hl.1 rfl (Nat.le_of_ble_eq_true rfl) dX2_hasRival_53 ⟨Nat.zero_le _, Nat.zero_le _⟩ ?_
              refine lv_aload_n hx hb dX2_hasRival_56 rfl (lv_at hl 1 rfl) ?_
              refine xget (ci := 2) (C := RX2) (T := TX2) (N := 8) (v := .ref A_t_strength) hx hb hts in_X2_hasRival_X2 hown hK hP 0 rfl rfl 3 (by decide) wd_X2_hasRival_2 rfl dX2_hasRival_57 ?_
              refine lv_iload_n hx hb dX2_hasRival_60 rfl (lv_at hl 2 rfl) ?_
              obtain ⟨v7, hq, hg⟩ := bind_ex hg
              refine callRNi (As := [.ref A_t_strength, .int x1]) (rest := [.int v6]) S hK hP (c_X4_entry l D cI cZ cB cJ A_t_strength 9 V_t_strength x1 v7 hq) [4] rfl ⟨va_cnB 2 hts gX2_hasRival_X4_entry_n89 rfl rfl rfl (hK.2 _ (List.mem_of_getElem? (i := 8) rfl)) (hts _ wd_X2_hasRival_20) hd_X4_entry ⟨Nat.le_of_ble_eq_true rfl, Nat.le_of_ble_eq_true rfl⟩, hts _ wd_X2_hasRival_19, trivial⟩ rfl hl.1 rfl (Nat.le_of_ble_eq_true rfl) dX2_hasRival_61 ⟨Nat.zero_le _, Nat.zero_le _⟩ ?_
              refine lv_icmp_lt (tgt := 69) hx hb dX2_hasRival_64 (by decide) (fun hc => ?_) (fun hc => ?_)
              · replace hg := if_yes hg hc
                refine lv_iinc (v := (v1 + 1)) (lv' := [(2, .int (v1 + 1)), (0, .ref A_t), (1, .int x1)]) hx hb dX2_hasRival_69 hl (k := 0) rfl rfl (by decide) rfl (fun ls hl => ?_)
                refine lv_goto (tgt := 2) hx hb dX2_hasRival_72 (by decide) ?_
                exact ih _ _ (lv_sub hl [0, 1, 2] rfl) hg
              · replace hg := if_no hg hc
                refine lv_iconst (v := 1) hx hb dX2_hasRival_67 (by decide) ?_
                cases hg
                exact fin _ _ bo_1 dX2_hasRival_68
  exact L FU _ _ (lv_sub hl [0, 1, 2] rfl) hg
theorem hd_X2_losesSwap : yX2_losesSwap.cls = RX2 ∧ yX2_losesSwap.cls ≠ "java/lang/invoke/MethodHandle" ∧ yX2_losesSwap.cls ≠ "java/lang/invoke/VarHandle" ∧ (parseMethodDescriptor yX2_losesSwap.desc).map (fun d => d.parameters.length) = some 1 := by decide +kernel
theorem in_X2_losesSwap_X2 : ∀ w ∈ u_ws RX2 TX2 8, w ∈ wsX2_losesSwap := fun _ h => List.mem_cons_of_mem _ (List.mem_append_left _ (List.mem_append_right _ h))
theorem wd_X2_losesSwap_1 : Cond.fieldLink RX2 12 "FogOrders$Opening" "board" "LFogOrders$Board;" ∈ wsX2_losesSwap := List.mem_of_getElem? (i := 1) rfl
theorem wd_X2_losesSwap_2 : Cond.fieldLink RX2 25 "FogOrders$Opening" "strength" "[I" ∈ wsX2_losesSwap := List.mem_of_getElem? (i := 2) rfl
theorem wd_X2_losesSwap_25 : Cond.initialized RX4 ∈ wsX2_losesSwap := List.mem_of_getElem? (i := 25) rfl
theorem wd_X2_losesSwap_24 : Cond.static yX4_entry ∈ wsX2_losesSwap := List.mem_of_getElem? (i := 24) rfl
abbrev rX2_losesSwap : Room := { frames := 2, cells := 0, slots := 0, locals := 45 }
set_option maxHeartbeats 4000000 in
set_option maxRecDepth 100000 in
theorem c_X2_losesSwap (l : Launch) (D : va_G) (cI cZ cB cJ : ClassId) (A_t : Nat) (A_t_board : Nat) (A_t_cut : Nat) (A_t_counts : Nat) (A_t_strength : Nat) (A_t_reason : Nat) (A_t_driver : Nat) (A_t_waits : Nat) (A_t_stands : Nat) (A_t_board_numbers : Nat) (A_t_board_owners : Nat) (A_t_board_cells : Nat) (V_t_board_cells : Nat → Int32) (V_t_board_numbers : Nat → Int32) (V_t_strength : Nat → Int32) (x1 : Int32) (r0 : Int32) (hg : g_X2_losesSwap V_t_board_cells V_t_board_numbers V_t_strength x1 = some r0) : Met l yX2_losesSwap wsX2_losesSwap rX2_losesSwap (PcR D cI cZ cB cJ [(A_t, .inr (2, [.ref A_t_board, .ref A_t_cut, .ref A_t_counts, .ref A_t_strength, .ref A_t_reason, .ref A_t_driver, .ref A_t_waits, .ref A_t_stands])), (A_t_board, .inr (0, [.ref A_t_board_numbers, .ref A_t_board_owners, .ref A_t_board_cells])), (A_t_board_cells, .inl (cI, 63, .inl V_t_board_cells)), (A_t_board_numbers, .inl (cI, 10, .inl V_t_board_numbers)), (A_t_strength, .inl (cI, 9, .inl V_t_strength))] [.ref A_t, .int x1]) (vp_Si (fun r' => r' = r0 ∧ bo r0)) 0 0 (fun _ => False) := by
  refine bodyRz (cc := cX2_losesSwap) (maxL := 3) (lv := [(0, .ref A_t), (1, .int x1)]) (by decide) rfl (Nat.le_of_ble_eq_true rfl) rfl ?_
  intro p e s m args below meth c Q hx hb hml hown hts hP hK fin ls hl
  replace hown : s.vm.findClass RX2 = some m.cls := hown
  have S : CallFix p m c cX2_losesSwap 3 s args wsX2_losesSwap RX2 := ⟨hx, hb, hml, hown, hts⟩
  unfold g_X2_losesSwap at hg
  refine lv_aload_n hx hb dX2_losesSwap_0 rfl (lv_at hl 0 rfl) ?_
  refine xget (ci := 2) (C := RX2) (T := TX2) (N := 8) (v := .ref A_t_board) hx hb hts in_X2_losesSwap_X2 hown hK hP 0 rfl rfl 0 (by decide) wd_X2_losesSwap_1 rfl dX2_losesSwap_1 ?_
  refine lv_aload_n hx hb dX2_losesSwap_4 rfl (lv_at hl 0 rfl) ?_
  refine xget (ci := 2) (C := RX2) (T := TX2) (N := 8) (v := .ref A_t_board) hx hb hts in_X2_losesSwap_X2 hown hK hP 0 rfl rfl 0 (by decide) wd_X2_losesSwap_1 rfl dX2_losesSwap_5 ?_
  refine lv_iload_n hx hb dX2_losesSwap_8 rfl (lv_at hl 1 rfl) ?_
  refine lv_iconst (v := 3) hx hb dX2_losesSwap_9 (by decide) ?_
  obtain ⟨v1, hq, hg⟩ := bind_ex hg
  refine callRVi (As := [.int x1, .int 3]) (rest := [.ref A_t_board]) S hK hP (c_X0_of l D cI cZ cB cJ A_t_board A_t_board_numbers A_t_board_owners A_t_board_cells V_t_board_cells x1 3 v1 hq) [1, 2] rfl (cwV 2 hts gX2_losesSwap_X0_of rfl rfl rfl hd_X0_of ⟨Nat.le_of_ble_eq_true rfl, Nat.le_of_ble_eq_true rfl⟩) rfl rfl rfl hl.1 rfl (Nat.le_of_ble_eq_true rfl) dX2_losesSwap_10 ⟨Nat.zero_le _, Nat.zero_le _⟩ ?_
  obtain ⟨v2, hq, hg⟩ := bind_ex hg
  refine callRVi (As := [.int v1]) (rest := []) S hK hP (c_X0_armyOn l D cI cZ cB cJ A_t_board A_t_board_numbers A_t_board_owners A_t_board_cells V_t_board_numbers V_t_board_cells v1 v2 hq) [1, 3, 2] rfl (cwV 1 hts gX2_losesSwap_X0_armyOn rfl rfl rfl hd_X0_armyOn ⟨Nat.le_of_ble_eq_true rfl, Nat.le_of_ble_eq_true rfl⟩) rfl rfl rfl hl.1 rfl (Nat.le_of_ble_eq_true rfl) dX2_losesSwap_13 ⟨Nat.zero_le _, Nat.zero_le _⟩ ?_
  refine lv_istore_n (lv' := [(2, .int v2), (0, .ref A_t), (1, .int x1)]) hx hb dX2_losesSwap_16 rfl hl (by decide) rfl (fun ls hl => ?_)
  refine lv_iload_n hx hb dX2_losesSwap_17 rfl (lv_at hl 0 rfl) ?_
  refine lv_iconst (v := (-1)) hx hb dX2_losesSwap_18 (by decide) ?_
  refine lv_icmp_eq (tgt := 74) hx hb dX2_losesSwap_19 (by decide) (fun hc => ?_) (fun hc => ?_)
  · replace hg := if_yes hg hc
    refine lv_iconst (v := 0) hx hb dX2_losesSwap_74 (by decide) ?_
    cases hg
    exact fin _ _ bo_0 dX2_losesSwap_75
  · replace hg := if_no hg hc
    refine lv_aload_n hx hb dX2_losesSwap_22 rfl (lv_at hl 1 rfl) ?_
    refine lv_iload_n hx hb dX2_losesSwap_23 rfl (lv_at hl 0 rfl) ?_
    obtain ⟨v3, hq, hg⟩ := bind_ex hg
    refine callRVz (As := [.int v2]) (rest := []) S hK hP (c_X2_moves l D cI cZ cB cJ A_t A_t_board A_t_cut A_t_counts A_t_strength A_t_reason A_t_driver A_t_waits A_t_stands A_t_board_numbers A_t_board_owners A_t_board_cells V_t_board_cells v2 v3 hq) [0, 1, 2] rfl (cwV 1 hts gX2_losesSwap_X2_moves rfl rfl rfl hd_X2_moves ⟨Nat.le_of_ble_eq_true rfl, Nat.le_of_ble_eq_true rfl⟩) rfl rfl rfl hl.1 rfl (Nat.le_of_ble_eq_true rfl) dX2_losesSwap_24 ⟨Nat.zero_le _, Nat.zero_le _⟩ (fun hz_v3 => ?_)
    refine lv_if_eq (tgt := 74) hx hb dX2_losesSwap_27 (by decide) (fun hc => ?_) (fun hc => ?_)
    · replace hg := if_yes hg hc
      refine lv_iconst (v := 0) hx hb dX2_losesSwap_74 (by decide) ?_
      cases hg
      exact fin _ _ bo_0 dX2_losesSwap_75
    · replace hg := if_no hg hc
      refine lv_aload_n hx hb dX2_losesSwap_30 rfl (lv_at hl 1 rfl) ?_
      refine xget (ci := 2) (C := RX2) (T := TX2) (N := 8) (v := .ref A_t_board) hx hb hts in_X2_losesSwap_X2 hown hK hP 0 rfl rfl 0 (by decide) wd_X2_losesSwap_1 rfl dX2_losesSwap_31 ?_
      refine lv_iload_n hx hb dX2_losesSwap_34 rfl (lv_at hl 0 rfl) ?_
      refine lv_iconst (v := 3) hx hb dX2_losesSwap_35 (by decide) ?_
      obtain ⟨v4, hq, hg⟩ := bind_ex hg
      refine callRVi (As := [.int v2, .int 3]) (rest := []) S hK hP (c_X0_of l D cI cZ cB cJ A_t_board A_t_board_numbers A_t_board_owners A_t_board_cells V_t_board_cells v2 3 v4 hq) [1, 2] rfl (cwV 2 hts gX2_losesSwap_X0_of rfl rfl rfl hd_X0_of ⟨Nat.le_of_ble_eq_true rfl, Nat.le_of_ble_eq_true rfl⟩) rfl rfl rfl hl.1 rfl (Nat.le_of_ble_eq_true rfl) dX2_losesSwap_36 ⟨Nat.zero_le _, Nat.zero_le _⟩ ?_
      refine lv_aload_n hx hb dX2_losesSwap_39 rfl (lv_at hl 1 rfl) ?_
      refine xget (ci := 2) (C := RX2) (T := TX2) (N := 8) (v := .ref A_t_board) hx hb hts in_X2_losesSwap_X2 hown hK hP 0 rfl rfl 0 (by decide) wd_X2_losesSwap_1 rfl dX2_losesSwap_40 ?_
      refine lv_iload_n hx hb dX2_losesSwap_43 rfl (lv_at hl 2 rfl) ?_
      refine lv_iconst (v := 1) hx hb dX2_losesSwap_44 (by decide) ?_
      obtain ⟨v5, hq, hg⟩ := bind_ex hg
      refine callRVi (As := [.int x1, .int 1]) (rest := [.int v4]) S hK hP (c_X0_of l D cI cZ cB cJ A_t_board A_t_board_numbers A_t_board_owners A_t_board_cells V_t_board_cells x1 1 v5 hq) [1, 2] rfl (cwV 2 hts gX2_losesSwap_X0_of rfl rfl rfl hd_X0_of ⟨Nat.le_of_ble_eq_true rfl, Nat.le_of_ble_eq_true rfl⟩) rfl rfl rfl hl.1 rfl (Nat.le_of_ble_eq_true rfl) dX2_losesSwap_45 ⟨Nat.zero_le _, Nat.zero_le _⟩ ?_
      refine lv_icmp_ne (tgt := 74) hx hb dX2_losesSwap_48 (by decide) (fun hc => ?_) (fun hc => ?_)
      · replace hg := if_no hg hc
        refine lv_iconst (v := 0) hx hb dX2_losesSwap_74 (by decide) ?_
        cases hg
        exact fin _ _ bo_0 dX2_losesSwap_75
      · replace hg := if_yes hg hc
        refine lv_aload_n hx hb dX2_losesSwap_51 rfl (lv_at hl 1 rfl) ?_
        refine xget (ci := 2) (C := RX2) (T := TX2) (N := 8) (v := .ref A_t_strength) hx hb hts in_X2_losesSwap_X2 hown hK hP 0 rfl rfl 3 (by decide) wd_X2_losesSwap_2 rfl dX2_losesSwap_52 ?_
        refine lv_iload_n hx hb dX2_losesSwap_55 rfl (lv_at hl 0 rfl) ?_
        obtain ⟨v6, hq, hg⟩ := bind_ex hg
        refine callRNi (As := [.ref A_t_strength, .int v2]) (rest := []) S hK hP (c_X4_entry l D cI cZ cB cJ A_t_strength 9 V_t_strength v2 v6 hq) [4] rfl ⟨va_cnB 2 hts gX2_losesSwap_X4_entry_n89 rfl rfl rfl (hK.2 _ (List.mem_of_getElem? (i := 8) rfl)) (hts _ wd_X2_losesSwap_25) hd_X4_entry ⟨Nat.le_of_ble_eq_true rfl, Nat.le_of_ble_eq_true rfl⟩, hts _ wd_X2_losesSwap_24, trivial⟩ rfl hl.1 rfl (Nat.le_of_ble_eq_true rfl) dX2_losesSwap_56 ⟨Nat.zero_le _, Nat.zero_le _⟩ ?_
        refine lv_aload_n hx hb dX2_losesSwap_59 rfl (lv_at hl 1 rfl) ?_
        refine xget (ci := 2) (C := RX2) (T := TX2) (N := 8) (v := .ref A_t_strength) hx hb hts in_X2_losesSwap_X2 hown hK hP 0 rfl rfl 3 (by decide) wd_X2_losesSwap_2 rfl dX2_losesSwap_60 ?_
        refine lv_iload_n hx hb dX2_losesSwap_63 rfl (lv_at hl 2 rfl) ?_
        obtain ⟨v7, hq, hg⟩ := bind_ex hg
        refine callRNi (As := [.ref A_t_strength, .int x1]) (rest := [.int v6]) S hK hP (c_X4_entry l D cI cZ cB cJ A_t_strength 9 V_t_strength x1 v7 hq) [4] rfl ⟨va_cnB 2 hts gX2_losesSwap_X4_entry_n89 rfl rfl rfl (hK.2 _ (List.mem_of_getElem? (i := 8) rfl)) (hts _ wd_X2_losesSwap_25) hd_X4_entry ⟨Nat.le_of_ble_eq_true rfl, Nat.le_of_ble_eq_true rfl⟩, hts _ wd_X2_losesSwap_24, trivial⟩ rfl hl.1 rfl (Nat.le_of_ble_eq_true rfl) dX2_losesSwap_64 ⟨Nat.zero_le _, Nat.zero_le _⟩ ?_
        refine lv_icmp_lt (tgt := 74) hx hb dX2_losesSwap_67 (by decide) (fun hc => ?_) (fun hc => ?_)
        · replace hg := if_yes hg hc
          refine lv_iconst (v := 0) hx hb dX2_losesSwap_74 (by decide) ?_
          cases hg
          exact fin _ _ bo_0 dX2_losesSwap_75
        · replace hg := if_no hg hc
          refine lv_iconst (v := 1) hx hb dX2_losesSwap_70 (by decide) ?_
          refine lv_goto (tgt := 75) hx hb dX2_losesSwap_71 (by decide) ?_
          cases hg
          exact fin _ _ bo_1 dX2_losesSwap_75
theorem hd_X2_failAgainstMoves : yX2_failAgainstMoves.cls = RX2 ∧ yX2_failAgainstMoves.cls ≠ "java/lang/invoke/MethodHandle" ∧ yX2_failAgainstMoves.cls ≠ "java/lang/invoke/VarHandle" ∧ (parseMethodDescriptor yX2_failAgainstMoves.desc).map (fun d => d.parameters.length) = some 0 := by decide +kernel
theorem in_X2_failAgainstMoves_X2 : ∀ w ∈ u_ws RX2 TX2 8, w ∈ wsX2_failAgainstMoves := fun _ h => List.mem_cons_of_mem _ (List.mem_append_left _ (List.mem_append_right _ h))
theorem wd_X2_failAgainstMoves_1 : Cond.fieldLink RX2 12 "FogOrders$Opening" "board" "LFogOrders$Board;" ∈ wsX2_failAgainstMoves := List.mem_of_getElem? (i := 1) rfl
theorem wd_X2_failAgainstMoves_2 : Cond.fieldLink RX2 28 "FogOrders$Opening" "reason" "[I" ∈ wsX2_failAgainstMoves := List.mem_of_getElem? (i := 2) rfl
theorem wd_X2_failAgainstMoves_25 : Cond.initialized RX4 ∈ wsX2_failAgainstMoves := List.mem_of_getElem? (i := 25) rfl
theorem wd_X2_failAgainstMoves_37 : Cond.static yX4_enter ∈ wsX2_failAgainstMoves := List.mem_of_getElem? (i := 37) rfl
abbrev rX2_failAgainstMoves : Room := { frames := 3, cells := 0, slots := 0, locals := 67 }
set_option maxHeartbeats 4000000 in
set_option maxRecDepth 100000 in
theorem c_X2_failAgainstMoves (l : Launch) (D : va_G) (cI cZ cB cJ : ClassId) (A_t : Nat) (A_t_board : Nat) (A_t_cut : Nat) (A_t_counts : Nat) (A_t_strength : Nat) (A_t_reason : Nat) (A_t_driver : Nat) (A_t_waits : Nat) (A_t_stands : Nat) (A_t_board_numbers : Nat) (A_t_board_owners : Nat) (A_t_board_cells : Nat) (sz : Nat) (V_t_board_numbers : Nat → Int32) (V_t_board_cells : Nat → Int32) (V_t_strength : Nat → Int32) (V_t_reason : Nat → Int32) (w1 : Nat → Int32) (hg : g_X2_failAgainstMoves V_t_board_numbers V_t_board_cells V_t_strength V_t_reason = some w1) : Met l yX2_failAgainstMoves wsX2_failAgainstMoves rX2_failAgainstMoves (PcW D cI cZ cB cJ sz [(A_t, .inr (2, [.ref A_t_board, .ref A_t_cut, .ref A_t_counts, .ref A_t_strength, .ref A_t_reason, .ref A_t_driver, .ref A_t_waits, .ref A_t_stands])), (A_t_board, .inr (0, [.ref A_t_board_numbers, .ref A_t_board_owners, .ref A_t_board_cells])), (A_t_board_numbers, .inl (cI, 10, .inl V_t_board_numbers)), (A_t_board_cells, .inl (cI, 63, .inl V_t_board_cells)), (A_t_strength, .inl (cI, 9, .inl V_t_strength)), (A_t_reason, .inl (cI, 9, .inl V_t_reason))] [.ref A_t]) (QWv D cI cZ cB cJ sz [(A_t, .inr (2, [.ref A_t_board, .ref A_t_cut, .ref A_t_counts, .ref A_t_strength, .ref A_t_reason, .ref A_t_driver, .ref A_t_waits, .ref A_t_stands])), (A_t_board, .inr (0, [.ref A_t_board_numbers, .ref A_t_board_owners, .ref A_t_board_cells])), (A_t_board_numbers, .inl (cI, 10, .inl V_t_board_numbers)), (A_t_board_cells, .inl (cI, 63, .inl V_t_board_cells)), (A_t_strength, .inl (cI, 9, .inl V_t_strength)), (A_t_reason, .inl (cI, 9, .inl V_t_reason))] [(A_t, .inr (2, [.ref A_t_board, .ref A_t_cut, .ref A_t_counts, .ref A_t_strength, .ref A_t_reason, .ref A_t_driver, .ref A_t_waits, .ref A_t_stands])), (A_t_board, .inr (0, [.ref A_t_board_numbers, .ref A_t_board_owners, .ref A_t_board_cells])), (A_t_board_numbers, .inl (cI, 10, .inl V_t_board_numbers)), (A_t_board_cells, .inl (cI, 63, .inl V_t_board_cells)), (A_t_strength, .inl (cI, 9, .inl V_t_strength)), (A_t_reason, .inl (cI, 9, .inl w1))]) 0 0 (va_A [(A_t, .inr (2, [.ref A_t_board, .ref A_t_cut, .ref A_t_counts, .ref A_t_strength, .ref A_t_reason, .ref A_t_driver, .ref A_t_waits, .ref A_t_stands])), (A_t_board, .inr (0, [.ref A_t_board_numbers, .ref A_t_board_owners, .ref A_t_board_cells])), (A_t_board_numbers, .inl (cI, 10, .inl V_t_board_numbers)), (A_t_board_cells, .inl (cI, 63, .inl V_t_board_cells)), (A_t_strength, .inl (cI, 9, .inl V_t_strength)), (A_t_reason, .inl (cI, 9, .inl V_t_reason))] sz) := by
  refine bodyWv (cc := cX2_failAgainstMoves) (maxL := 3) (lv := [(0, .ref A_t)]) (by decide) rfl (Nat.le_of_ble_eq_true rfl) rfl ?_
  intro p e s m args below meth c Q hx hb hml hown hts A hP hK hD hA hS fin ls hl
  replace hown : s.vm.findClass RX2 = some m.cls := hown
  have S : CallFix p m c cX2_failAgainstMoves 3 s args wsX2_failAgainstMoves RX2 := ⟨hx, hb, hml, hown, hts⟩
  unfold g_X2_failAgainstMoves at hg
  refine lv_iconst (v := 0) hx hb dX2_failAgainstMoves_0 (by decide) ?_
  refine lv_istore_n (lv' := [(1, .int 0), (0, .ref A_t)]) hx hb dX2_failAgainstMoves_1 rfl hl (by decide) rfl (fun ls hl => ?_)
  obtain ⟨f9, hL, hg⟩ := bind_ex hg
  have kx : ∀ (H : Heap) (locs : List Loc), va_P D vwCl [(A_t, .inr (2, [.ref A_t_board, .ref A_t_cut, .ref A_t_counts, .ref A_t_strength, .ref A_t_reason, .ref A_t_driver, .ref A_t_waits, .ref A_t_stands])), (A_t_board, .inr (0, [.ref A_t_board_numbers, .ref A_t_board_owners, .ref A_t_board_cells])), (A_t_board_numbers, .inl (cI, 10, .inl V_t_board_numbers)), (A_t_board_cells, .inl (cI, 63, .inl V_t_board_cells)), (A_t_strength, .inl (cI, 9, .inl V_t_strength)), (A_t_reason, .inl (cI, 9, .inl f9))] H → va_D A [(A_t, .inr (2, [.ref A_t_board, .ref A_t_cut, .ref A_t_counts, .ref A_t_strength, .ref A_t_reason, .ref A_t_driver, .ref A_t_waits, .ref A_t_stands])), (A_t_board, .inr (0, [.ref A_t_board_numbers, .ref A_t_board_owners, .ref A_t_board_cells])), (A_t_board_numbers, .inl (cI, 10, .inl V_t_board_numbers)), (A_t_board_cells, .inl (cI, 63, .inl V_t_board_cells)), (A_t_strength, .inl (cI, 9, .inl V_t_strength)), (A_t_reason, .inl (cI, 9, .inl f9))] → va_S A s.heap H locs → ∀ ls : Array Slot, lv_has ls 3 [] → W p l e rX2_failAgainstMoves s m args below meth c H locs 0 0 Q (F0 m 65 ls []) := by
    intro H locs hP hD hS ls hl
    cases hg
    exact fin _ _ _ _ dX2_failAgainstMoves_65 hP hD hS
  have L : ∀ (nf : Nat) (v1 : Int32) (f2 : Nat → Int32), ∀ (H : Heap) (locs : List Loc), va_P D vwCl [(A_t, .inr (2, [.ref A_t_board, .ref A_t_cut, .ref A_t_counts, .ref A_t_strength, .ref A_t_reason, .ref A_t_driver, .ref A_t_waits, .ref A_t_stands])), (A_t_board, .inr (0, [.ref A_t_board_numbers, .ref A_t_board_owners, .ref A_t_board_cells])), (A_t_board_numbers, .inl (cI, 10, .inl V_t_board_numbers)), (A_t_board_cells, .inl (cI, 63, .inl V_t_board_cells)), (A_t_strength, .inl (cI, 9, .inl V_t_strength)), (A_t_reason, .inl (cI, 9, .inl f2))] H → va_D A [(A_t, .inr (2, [.ref A_t_board, .ref A_t_cut, .ref A_t_counts, .ref A_t_strength, .ref A_t_reason, .ref A_t_driver, .ref A_t_waits, .ref A_t_stands])), (A_t_board, .inr (0, [.ref A_t_board_numbers, .ref A_t_board_owners, .ref A_t_board_cells])), (A_t_board_numbers, .inl (cI, 10, .inl V_t_board_numbers)), (A_t_board_cells, .inl (cI, 63, .inl V_t_board_cells)), (A_t_strength, .inl (cI, 9, .inl V_t_strength)), (A_t_reason, .inl (cI, 9, .inl f2))] → va_S A s.heap H locs → ∀ ls : Array Slot, lv_has ls 3 [(1, .int v1), (0, .ref A_t)] → g_X2_failAgainstMoves_L1 V_t_board_numbers V_t_board_cells V_t_strength nf v1 f2 = some f9 → W p l e rX2_failAgainstMoves s m args below meth c H locs 0 0 Q (F0 m 2 ls []) := by
    intro nf
    induction nf with
    | zero =>
      intro v1 f2 H locs hP hD hS ls hl hg
      exact no_some hg
    | succ nf ih =>
      intro v1 f2 H locs hP hD hS ls hl hg
      rw [g_X2_failAgainstMoves_L1] at hg
      refine lv_iload_n hx hb dX2_failAgainstMoves_2 rfl (lv_at hl 0 rfl) ?_
      refine lv_aload_n hx hb dX2_failAgainstMoves_3 rfl (lv_at hl 1 rfl) ?_
      refine xget (ci := 2) (C := RX2) (T := TX2) (N := 8) (v := .ref A_t_board) hx hb hts in_X2_failAgainstMoves_X2 hown hK hP 0 rfl rfl 0 (by decide) wd_X2_failAgainstMoves_1 rfl dX2_failAgainstMoves_4 ?_
      refine lv_iconst (v := 0) hx hb dX2_failAgainstMoves_7 (by decide) ?_
      obtain ⟨v3, hq, hg⟩ := bind_ex hg
      refine callRVi (As := [.int 0]) (rest := [.int v1]) S hK hP (c_X0_number l D cI cZ cB cJ A_t_board A_t_board_numbers A_t_board_owners A_t_board_cells V_t_board_numbers 0 v3 hq) [1, 2] rfl (cwV 1 hts gX2_failAgainstMoves_X0_number rfl rfl rfl hd_X0_number ⟨Nat.le_of_ble_eq_true rfl, Nat.le_of_ble_eq_true rfl⟩) rfl rfl rfl hl.1 rfl (Nat.le_of_ble_eq_true rfl) dX2_failAgainstMoves_8 ⟨Nat.zero_le _, Nat.zero_le _⟩ ?_
      refine lv_icmp_ge (tgt := 65) hx hb dX2_failAgainstMoves_11 (by decide) (fun hc => ?_) (fun hc => ?_)
      · replace hg := if_yes hg hc
        cases hg
        exact kx _ _ hP hD hS _ (lv_sub hl [] rfl)
      · replace hg := if_no hg hc
        refine lv_iconst (v := 0) hx hb dX2_failAgainstMoves_14 (by decide) ?_
        refine lv_istore_n (lv' := [(2, .int 0), (1, .int v1), (0, .ref A_t)]) hx hb dX2_failAgainstMoves_15 rfl hl (by decide) rfl (fun ls hl => ?_)
        refine lv_aload_n hx hb dX2_failAgainstMoves_16 rfl (lv_at hl 2 rfl) ?_
        refine lv_iload_n hx hb dX2_failAgainstMoves_17 rfl (lv_at hl 1 rfl) ?_
        obtain ⟨v4, hq, hg⟩ := bind_ex hg
        refine callRVz (As := [.int v1]) (rest := []) S hK hP (c_X2_moves l D cI cZ cB cJ A_t A_t_board A_t_cut A_t_counts A_t_strength A_t_reason A_t_driver A_t_waits A_t_stands A_t_board_numbers A_t_board_owners A_t_board_cells V_t_board_cells v1 v4 hq) [0, 1, 3] rfl (cwV 1 hts gX2_failAgainstMoves_X2_moves rfl rfl rfl hd_X2_moves ⟨Nat.le_of_ble_eq_true rfl, Nat.le_of_ble_eq_true rfl⟩) rfl rfl rfl hl.1 rfl (Nat.le_of_ble_eq_true rfl) dX2_failAgainstMoves_18 ⟨Nat.zero_le _, Nat.zero_le _⟩ (fun hz_v4 => ?_)
        have hJ1 : ∀ (v7 : Int32), ∀ (H : Heap) (locs : List Loc), va_P D vwCl [(A_t, .inr (2, [.ref A_t_board, .ref A_t_cut, .ref A_t_counts, .ref A_t_strength, .ref A_t_reason, .ref A_t_driver, .ref A_t_waits, .ref A_t_stands])), (A_t_board, .inr (0, [.ref A_t_board_numbers, .ref A_t_board_owners, .ref A_t_board_cells])), (A_t_board_numbers, .inl (cI, 10, .inl V_t_board_numbers)), (A_t_board_cells, .inl (cI, 63, .inl V_t_board_cells)), (A_t_strength, .inl (cI, 9, .inl V_t_strength)), (A_t_reason, .inl (cI, 9, .inl f2))] H → va_D A [(A_t, .inr (2, [.ref A_t_board, .ref A_t_cut, .ref A_t_counts, .ref A_t_strength, .ref A_t_reason, .ref A_t_driver, .ref A_t_waits, .ref A_t_stands])), (A_t_board, .inr (0, [.ref A_t_board_numbers, .ref A_t_board_owners, .ref A_t_board_cells])), (A_t_board_numbers, .inl (cI, 10, .inl V_t_board_numbers)), (A_t_board_cells, .inl (cI, 63, .inl V_t_board_cells)), (A_t_strength, .inl (cI, 9, .inl V_t_strength)), (A_t_reason, .inl (cI, 9, .inl f2))] → va_S A s.heap H locs → ∀ ls : Array Slot, lv_has ls 3 [(2, .int v7), (1, .int v1), (0, .ref A_t)] → g_X2_failAgainstMoves_J1 f2 v1 (g_X2_failAgainstMoves_L1 V_t_board_numbers V_t_board_cells V_t_strength nf) v7 = some f9 → W p l e rX2_failAgainstMoves s m args below meth c H locs 0 0 Q (F0 m 50 ls []) := by
          intro v7 H locs hP hD hS ls hl hg
          unfold g_X2_failAgainstMoves_J1 at hg
          refine lv_aload_n hx hb dX2_failAgainstMoves_50 rfl (lv_at hl 2 rfl) ?_
          refine xget (ci := 2) (C := RX2) (T := TX2) (N := 8) (v := .ref A_t_reason) hx hb hts in_X2_failAgainstMoves_X2 hown hK hP 0 rfl rfl 4 (by decide) wd_X2_failAgainstMoves_2 rfl dX2_failAgainstMoves_51 ?_
          refine lv_iload_n hx hb dX2_failAgainstMoves_54 rfl (lv_at hl 1 rfl) ?_
          refine lv_iload_n hx hb dX2_failAgainstMoves_55 rfl (lv_at hl 0 rfl) ?_
          obtain ⟨f8, hq, hg⟩ := bind_ex hg
          refine callWNv (As := [.ref A_t_reason, .int v1, .int v7]) (rest := []) (wr := [(A_t, .inr (2, [.ref A_t_board, .ref A_t_cut, .ref A_t_counts, .ref A_t_strength, .ref A_t_reason, .ref A_t_driver, .ref A_t_waits, .ref A_t_stands])), (A_t_board, .inr (0, [.ref A_t_board_numbers, .ref A_t_board_owners, .ref A_t_board_cells])), (A_t_board_numbers, .inl (cI, 10, .inl V_t_board_numbers)), (A_t_board_cells, .inl (cI, 63, .inl V_t_board_cells)), (A_t_strength, .inl (cI, 9, .inl V_t_strength))]) S hK hP hD hS hA (c_X4_enter l D cI cZ cB cJ A_t_reason 9 _ f2 v1 v7 f8 hq) [5] [0, 1, 2, 3, 4] rfl rfl (by decide +kernel) (by decide +kernel) (by decide +kernel) ⟨va_cnB 3 hts gX2_failAgainstMoves_X4_enter_n76 rfl rfl rfl (hK.2 _ (List.mem_of_getElem? (i := 7) rfl)) (hts _ wd_X2_failAgainstMoves_25) hd_X4_enter ⟨Nat.le_of_ble_eq_true rfl, Nat.le_of_ble_eq_true rfl⟩, hts _ wd_X2_failAgainstMoves_37, trivial⟩ rfl hl.1 rfl (Nat.le_of_ble_eq_true rfl) dX2_failAgainstMoves_56 ⟨Nat.zero_le _, Nat.zero_le _⟩ (fun H locs hP hD hS => ?_)
          replace hP : va_P D vwCl [(A_t, .inr (2, [.ref A_t_board, .ref A_t_cut, .ref A_t_counts, .ref A_t_strength, .ref A_t_reason, .ref A_t_driver, .ref A_t_waits, .ref A_t_stands])), (A_t_board, .inr (0, [.ref A_t_board_numbers, .ref A_t_board_owners, .ref A_t_board_cells])), (A_t_board_numbers, .inl (cI, 10, .inl V_t_board_numbers)), (A_t_board_cells, .inl (cI, 63, .inl V_t_board_cells)), (A_t_strength, .inl (cI, 9, .inl V_t_strength)), (A_t_reason, .inl (cI, 9, .inl f8))] H := hP
          replace hD : va_D A [(A_t, .inr (2, [.ref A_t_board, .ref A_t_cut, .ref A_t_counts, .ref A_t_strength, .ref A_t_reason, .ref A_t_driver, .ref A_t_waits, .ref A_t_stands])), (A_t_board, .inr (0, [.ref A_t_board_numbers, .ref A_t_board_owners, .ref A_t_board_cells])), (A_t_board_numbers, .inl (cI, 10, .inl V_t_board_numbers)), (A_t_board_cells, .inl (cI, 63, .inl V_t_board_cells)), (A_t_strength, .inl (cI, 9, .inl V_t_strength)), (A_t_reason, .inl (cI, 9, .inl f8))] := hD
          refine lv_iinc (v := (v1 + 1)) (lv' := [(1, .int (v1 + 1)), (2, .int v7), (0, .ref A_t)]) hx hb dX2_failAgainstMoves_59 hl (k := 1) rfl rfl (by decide) rfl (fun ls hl => ?_)
          refine lv_goto (tgt := 2) hx hb dX2_failAgainstMoves_62 (by decide) ?_
          exact ih _ _ _ _ hP hD hS _ (lv_sub hl [0, 2] rfl) hg
        refine lv_if_eq (tgt := 50) hx hb dX2_failAgainstMoves_21 (by decide) (fun hc => ?_) (fun hc => ?_)
        · replace hg := if_yes hg hc
          exact hJ1 _ _ _ hP hD hS _ (lv_sub hl [0, 1, 2] rfl) hg
        · replace hg := if_no hg hc
          refine lv_aload_n hx hb dX2_failAgainstMoves_24 rfl (lv_at hl 2 rfl) ?_
          refine lv_iload_n hx hb dX2_failAgainstMoves_25 rfl (lv_at hl 1 rfl) ?_
          obtain ⟨v5, hq, hg⟩ := bind_ex hg
          refine callRVz (As := [.int v1]) (rest := []) S hK hP (c_X2_hasRival l D cI cZ cB cJ A_t A_t_board A_t_cut A_t_counts A_t_strength A_t_reason A_t_driver A_t_waits A_t_stands A_t_board_numbers A_t_board_owners A_t_board_cells V_t_board_numbers V_t_board_cells V_t_strength v1 v5 hq) [0, 1, 2, 3, 4] rfl (cwV 1 hts gX2_failAgainstMoves_X2_hasRival rfl rfl rfl hd_X2_hasRival ⟨Nat.le_of_ble_eq_true rfl, Nat.le_of_ble_eq_true rfl⟩) rfl rfl rfl hl.1 rfl (Nat.le_of_ble_eq_true rfl) dX2_failAgainstMoves_26 ⟨Nat.zero_le _, Nat.zero_le _⟩ (fun hz_v5 => ?_)
          refine lv_if_eq (tgt := 36) hx hb dX2_failAgainstMoves_29 (by decide) (fun hc => ?_) (fun hc => ?_)
          · replace hg := if_yes hg hc
            refine lv_aload_n hx hb dX2_failAgainstMoves_36 rfl (lv_at hl 2 rfl) ?_
            refine lv_iload_n hx hb dX2_failAgainstMoves_37 rfl (lv_at hl 1 rfl) ?_
            obtain ⟨v6, hq, hg⟩ := bind_ex hg
            refine callRVz (As := [.int v1]) (rest := []) S hK hP (c_X2_losesSwap l D cI cZ cB cJ A_t A_t_board A_t_cut A_t_counts A_t_strength A_t_reason A_t_driver A_t_waits A_t_stands A_t_board_numbers A_t_board_owners A_t_board_cells V_t_board_cells V_t_board_numbers V_t_strength v1 v6 hq) [0, 1, 3, 2, 4] rfl (cwV 1 hts gX2_failAgainstMoves_X2_losesSwap rfl rfl rfl hd_X2_losesSwap ⟨Nat.le_of_ble_eq_true rfl, Nat.le_of_ble_eq_true rfl⟩) rfl rfl rfl hl.1 rfl (Nat.le_of_ble_eq_true rfl) dX2_failAgainstMoves_38 ⟨Nat.zero_le _, Nat.zero_le _⟩ (fun hz_v6 => ?_)
            refine lv_if_eq (tgt := 48) hx hb dX2_failAgainstMoves_41 (by decide) (fun hc => ?_) (fun hc => ?_)
            · replace hg := if_yes hg hc
              refine lv_iconst (v := 0) hx hb dX2_failAgainstMoves_48 (by decide) ?_
              refine lv_istore_n (lv' := [(2, .int 0), (1, .int v1), (0, .ref A_t)]) hx hb dX2_failAgainstMoves_49 rfl hl (by decide) rfl (fun ls hl => ?_)
              exact hJ1 _ _ _ hP hD hS _ (lv_sub hl [0, 1, 2] rfl) hg
            · replace hg := if_no hg hc
              refine lv_iconst (v := 2) hx hb dX2_failAgainstMoves_44 (by decide) ?_
              refine lv_goto (tgt := 49) hx hb dX2_failAgainstMoves_45 (by decide) ?_
              refine lv_istore_n (lv' := [(2, .int 2), (1, .int v1), (0, .ref A_t)]) hx hb dX2_failAgainstMoves_49 rfl hl (by decide) rfl (fun ls hl => ?_)
              exact hJ1 _ _ _ hP hD hS _ (lv_sub hl [0, 1, 2] rfl) hg
          · replace hg := if_no hg hc
            refine lv_iconst (v := 1) hx hb dX2_failAgainstMoves_32 (by decide) ?_
            refine lv_goto (tgt := 49) hx hb dX2_failAgainstMoves_33 (by decide) ?_
            refine lv_istore_n (lv' := [(2, .int 1), (1, .int v1), (0, .ref A_t)]) hx hb dX2_failAgainstMoves_49 rfl hl (by decide) rfl (fun ls hl => ?_)
            exact hJ1 _ _ _ hP hD hS _ (lv_sub hl [0, 1, 2] rfl) hg
  exact L FU _ _ _ _ hP hD hS _ (lv_sub hl [0, 1] rfl) hL
theorem hd_X2_goes : yX2_goes.cls = RX2 ∧ yX2_goes.cls ≠ "java/lang/invoke/MethodHandle" ∧ yX2_goes.cls ≠ "java/lang/invoke/VarHandle" ∧ (parseMethodDescriptor yX2_goes.desc).map (fun d => d.parameters.length) = some 1 := by decide +kernel
theorem in_X2_goes_X2 : ∀ w ∈ u_ws RX2 TX2 8, w ∈ wsX2_goes := fun _ h => List.mem_cons_of_mem _ (List.mem_append_left _ (List.mem_append_right _ h))
theorem wd_X2_goes_1 : Cond.fieldLink RX2 12 "FogOrders$Opening" "board" "LFogOrders$Board;" ∈ wsX2_goes := List.mem_of_getElem? (i := 1) rfl
theorem wd_X2_goes_2 : Cond.fieldLink RX2 28 "FogOrders$Opening" "reason" "[I" ∈ wsX2_goes := List.mem_of_getElem? (i := 2) rfl
theorem wd_X2_goes_10 : Cond.initialized RX4 ∈ wsX2_goes := List.mem_of_getElem? (i := 10) rfl
theorem wd_X2_goes_9 : Cond.static yX4_entry ∈ wsX2_goes := List.mem_of_getElem? (i := 9) rfl
abbrev rX2_goes : Room := { frames := 1, cells := 0, slots := 0, locals := 23 }
set_option maxHeartbeats 4000000 in
set_option maxRecDepth 100000 in
theorem c_X2_goes (l : Launch) (D : va_G) (cI cZ cB cJ : ClassId) (A_t : Nat) (A_t_board : Nat) (A_t_cut : Nat) (A_t_counts : Nat) (A_t_strength : Nat) (A_t_reason : Nat) (A_t_driver : Nat) (A_t_waits : Nat) (A_t_stands : Nat) (A_t_board_numbers : Nat) (A_t_board_owners : Nat) (A_t_board_cells : Nat) (V_t_board_cells : Nat → Int32) (V_t_reason : Nat → Int32) (x1 : Int32) (r0 : Int32) (hg : g_X2_goes V_t_board_cells V_t_reason x1 = some r0) : Met l yX2_goes wsX2_goes rX2_goes (PcR D cI cZ cB cJ [(A_t, .inr (2, [.ref A_t_board, .ref A_t_cut, .ref A_t_counts, .ref A_t_strength, .ref A_t_reason, .ref A_t_driver, .ref A_t_waits, .ref A_t_stands])), (A_t_board, .inr (0, [.ref A_t_board_numbers, .ref A_t_board_owners, .ref A_t_board_cells])), (A_t_board_cells, .inl (cI, 63, .inl V_t_board_cells)), (A_t_reason, .inl (cI, 9, .inl V_t_reason))] [.ref A_t, .int x1]) (vp_Si (fun r' => r' = r0 ∧ bo r0)) 0 0 (fun _ => False) := by
  refine bodyRz (cc := cX2_goes) (maxL := 2) (lv := [(0, .ref A_t), (1, .int x1)]) (by decide) rfl (Nat.le_of_ble_eq_true rfl) rfl ?_
  intro p e s m args below meth c Q hx hb hml hown hts hP hK fin ls hl
  replace hown : s.vm.findClass RX2 = some m.cls := hown
  have S : CallFix p m c cX2_goes 2 s args wsX2_goes RX2 := ⟨hx, hb, hml, hown, hts⟩
  unfold g_X2_goes at hg
  refine lv_aload_n hx hb dX2_goes_0 rfl (lv_at hl 0 rfl) ?_
  refine xget (ci := 2) (C := RX2) (T := TX2) (N := 8) (v := .ref A_t_board) hx hb hts in_X2_goes_X2 hown hK hP 0 rfl rfl 0 (by decide) wd_X2_goes_1 rfl dX2_goes_1 ?_
  refine lv_iload_n hx hb dX2_goes_4 rfl (lv_at hl 1 rfl) ?_
  refine lv_iconst (v := 2) hx hb dX2_goes_5 (by decide) ?_
  obtain ⟨v1, hq, hg⟩ := bind_ex hg
  refine callRVi (As := [.int x1, .int 2]) (rest := []) S hK hP (c_X0_of l D cI cZ cB cJ A_t_board A_t_board_numbers A_t_board_owners A_t_board_cells V_t_board_cells x1 2 v1 hq) [1, 2] rfl (cwV 2 hts gX2_goes_X0_of rfl rfl rfl hd_X0_of ⟨Nat.le_of_ble_eq_true rfl, Nat.le_of_ble_eq_true rfl⟩) rfl rfl rfl hl.1 rfl (Nat.le_of_ble_eq_true rfl) dX2_goes_6 ⟨Nat.zero_le _, Nat.zero_le _⟩ ?_
  refine lv_iconst (v := 1) hx hb dX2_goes_9 (by decide) ?_
  refine lv_icmp_ne (tgt := 28) hx hb dX2_goes_10 (by decide) (fun hc => ?_) (fun hc => ?_)
  · replace hg := if_no hg hc
    refine lv_iconst (v := 0) hx hb dX2_goes_28 (by decide) ?_
    cases hg
    exact fin _ _ bo_0 dX2_goes_29
  · replace hg := if_yes hg hc
    refine lv_aload_n hx hb dX2_goes_13 rfl (lv_at hl 0 rfl) ?_
    refine xget (ci := 2) (C := RX2) (T := TX2) (N := 8) (v := .ref A_t_reason) hx hb hts in_X2_goes_X2 hown hK hP 0 rfl rfl 4 (by decide) wd_X2_goes_2 rfl dX2_goes_14 ?_
    refine lv_iload_n hx hb dX2_goes_17 rfl (lv_at hl 1 rfl) ?_
    obtain ⟨v2, hq, hg⟩ := bind_ex hg
    refine callRNi (As := [.ref A_t_reason, .int x1]) (rest := []) S hK hP (c_X4_entry l D cI cZ cB cJ A_t_reason 9 V_t_reason x1 v2 hq) [3] rfl ⟨va_cnB 2 hts gX2_goes_X4_entry_n89 rfl rfl rfl (hK.2 _ (List.mem_of_getElem? (i := 8) rfl)) (hts _ wd_X2_goes_10) hd_X4_entry ⟨Nat.le_of_ble_eq_true rfl, Nat.le_of_ble_eq_true rfl⟩, hts _ wd_X2_goes_9, trivial⟩ rfl hl.1 rfl (Nat.le_of_ble_eq_true rfl) dX2_goes_18 ⟨Nat.zero_le _, Nat.zero_le _⟩ ?_
    refine lv_if_ne (tgt := 28) hx hb dX2_goes_21 (by decide) (fun hc => ?_) (fun hc => ?_)
    · replace hg := if_no hg hc
      refine lv_iconst (v := 0) hx hb dX2_goes_28 (by decide) ?_
      cases hg
      exact fin _ _ bo_0 dX2_goes_29
    · replace hg := if_yes hg hc
      refine lv_iconst (v := 1) hx hb dX2_goes_24 (by decide) ?_
      refine lv_goto (tgt := 29) hx hb dX2_goes_25 (by decide) ?_
      cases hg
      exact fin _ _ bo_1 dX2_goes_29
theorem hd_X2_blockOf : yX2_blockOf.cls = RX2 ∧ yX2_blockOf.cls ≠ "java/lang/invoke/MethodHandle" ∧ yX2_blockOf.cls ≠ "java/lang/invoke/VarHandle" ∧ (parseMethodDescriptor yX2_blockOf.desc).map (fun d => d.parameters.length) = some 1 := by decide +kernel
theorem in_X2_blockOf_X2 : ∀ w ∈ u_ws RX2 TX2 8, w ∈ wsX2_blockOf := fun _ h => List.mem_cons_of_mem _ (List.mem_append_left _ (List.mem_append_right _ h))
theorem wd_X2_blockOf_1 : Cond.fieldLink RX2 12 "FogOrders$Opening" "board" "LFogOrders$Board;" ∈ wsX2_blockOf := List.mem_of_getElem? (i := 1) rfl
theorem wd_X2_blockOf_2 : Cond.fieldLink RX2 25 "FogOrders$Opening" "strength" "[I" ∈ wsX2_blockOf := List.mem_of_getElem? (i := 2) rfl
theorem wd_X2_blockOf_26 : Cond.initialized RX4 ∈ wsX2_blockOf := List.mem_of_getElem? (i := 26) rfl
theorem wd_X2_blockOf_25 : Cond.static yX4_entry ∈ wsX2_blockOf := List.mem_of_getElem? (i := 25) rfl
abbrev rX2_blockOf : Room := { frames := 2, cells := 0, slots := 0, locals := 45 }
set_option maxHeartbeats 4000000 in
set_option maxRecDepth 100000 in
theorem c_X2_blockOf (l : Launch) (D : va_G) (cI cZ cB cJ : ClassId) (A_t : Nat) (A_t_board : Nat) (A_t_cut : Nat) (A_t_counts : Nat) (A_t_strength : Nat) (A_t_reason : Nat) (A_t_driver : Nat) (A_t_waits : Nat) (A_t_stands : Nat) (A_t_board_numbers : Nat) (A_t_board_owners : Nat) (A_t_board_cells : Nat) (V_t_board_cells : Nat → Int32) (V_t_board_numbers : Nat → Int32) (V_t_reason : Nat → Int32) (V_t_strength : Nat → Int32) (x1 : Int32) (r0 : Int32) (hg : g_X2_blockOf V_t_board_cells V_t_board_numbers V_t_reason V_t_strength x1 = some r0) : Met l yX2_blockOf wsX2_blockOf rX2_blockOf (PcR D cI cZ cB cJ [(A_t, .inr (2, [.ref A_t_board, .ref A_t_cut, .ref A_t_counts, .ref A_t_strength, .ref A_t_reason, .ref A_t_driver, .ref A_t_waits, .ref A_t_stands])), (A_t_board, .inr (0, [.ref A_t_board_numbers, .ref A_t_board_owners, .ref A_t_board_cells])), (A_t_board_cells, .inl (cI, 63, .inl V_t_board_cells)), (A_t_board_numbers, .inl (cI, 10, .inl V_t_board_numbers)), (A_t_reason, .inl (cI, 9, .inl V_t_reason)), (A_t_strength, .inl (cI, 9, .inl V_t_strength))] [.ref A_t, .int x1]) (vp_Si (fun r' => r' = r0 ∧ True)) 0 0 (fun _ => False) := by
  refine bodyRi (cc := cX2_blockOf) (maxL := 4) (lv := [(0, .ref A_t), (1, .int x1)]) (by decide) rfl (Nat.le_of_ble_eq_true rfl) rfl ?_
  intro p e s m args below meth c Q hx hb hml hown hts hP hK fin ls hl
  replace hown : s.vm.findClass RX2 = some m.cls := hown
  have S : CallFix p m c cX2_blockOf 4 s args wsX2_blockOf RX2 := ⟨hx, hb, hml, hown, hts⟩
  unfold g_X2_blockOf at hg
  refine lv_aload_n hx hb dX2_blockOf_0 rfl (lv_at hl 0 rfl) ?_
  refine xget (ci := 2) (C := RX2) (T := TX2) (N := 8) (v := .ref A_t_board) hx hb hts in_X2_blockOf_X2 hown hK hP 0 rfl rfl 0 (by decide) wd_X2_blockOf_1 rfl dX2_blockOf_1 ?_
  refine lv_aload_n hx hb dX2_blockOf_4 rfl (lv_at hl 0 rfl) ?_
  refine xget (ci := 2) (C := RX2) (T := TX2) (N := 8) (v := .ref A_t_board) hx hb hts in_X2_blockOf_X2 hown hK hP 0 rfl rfl 0 (by decide) wd_X2_blockOf_1 rfl dX2_blockOf_5 ?_
  refine lv_iload_n hx hb dX2_blockOf_8 rfl (lv_at hl 1 rfl) ?_
  refine lv_iconst (v := 3) hx hb dX2_blockOf_9 (by decide) ?_
  obtain ⟨v1, hq, hg⟩ := bind_ex hg
  refine callRVi (As := [.int x1, .int 3]) (rest := [.ref A_t_board]) S hK hP (c_X0_of l D cI cZ cB cJ A_t_board A_t_board_numbers A_t_board_owners A_t_board_cells V_t_board_cells x1 3 v1 hq) [1, 2] rfl (cwV 2 hts gX2_blockOf_X0_of rfl rfl rfl hd_X0_of ⟨Nat.le_of_ble_eq_true rfl, Nat.le_of_ble_eq_true rfl⟩) rfl rfl rfl hl.1 rfl (Nat.le_of_ble_eq_true rfl) dX2_blockOf_10 ⟨Nat.zero_le _, Nat.zero_le _⟩ ?_
  obtain ⟨v2, hq, hg⟩ := bind_ex hg
  refine callRVi (As := [.int v1]) (rest := []) S hK hP (c_X0_armyOn l D cI cZ cB cJ A_t_board A_t_board_numbers A_t_board_owners A_t_board_cells V_t_board_numbers V_t_board_cells v1 v2 hq) [1, 3, 2] rfl (cwV 1 hts gX2_blockOf_X0_armyOn rfl rfl rfl hd_X0_armyOn ⟨Nat.le_of_ble_eq_true rfl, Nat.le_of_ble_eq_true rfl⟩) rfl rfl rfl hl.1 rfl (Nat.le_of_ble_eq_true rfl) dX2_blockOf_13 ⟨Nat.zero_le _, Nat.zero_le _⟩ ?_
  refine lv_istore_n (lv' := [(2, .int v2), (0, .ref A_t), (1, .int x1)]) hx hb dX2_blockOf_16 rfl hl (by decide) rfl (fun ls hl => ?_)
  refine lv_iload_n hx hb dX2_blockOf_17 rfl (lv_at hl 0 rfl) ?_
  refine lv_iconst (v := (-1)) hx hb dX2_blockOf_18 (by decide) ?_
  refine lv_icmp_eq (tgt := 30) hx hb dX2_blockOf_19 (by decide) (fun hc => ?_) (fun hc => ?_)
  · replace hg := if_yes hg hc
    refine lv_iconst (v := 0) hx hb dX2_blockOf_30 (by decide) ?_
    cases hg
    exact fin _ _ dX2_blockOf_31
  · replace hg := if_no hg hc
    refine lv_aload_n hx hb dX2_blockOf_22 rfl (lv_at hl 1 rfl) ?_
    refine lv_iload_n hx hb dX2_blockOf_23 rfl (lv_at hl 0 rfl) ?_
    obtain ⟨v3, hq, hg⟩ := bind_ex hg
    refine callRVz (As := [.int v2]) (rest := []) S hK hP (c_X2_goes l D cI cZ cB cJ A_t A_t_board A_t_cut A_t_counts A_t_strength A_t_reason A_t_driver A_t_waits A_t_stands A_t_board_numbers A_t_board_owners A_t_board_cells V_t_board_cells V_t_reason v2 v3 hq) [0, 1, 2, 4] rfl (cwV 1 hts gX2_blockOf_X2_goes rfl rfl rfl hd_X2_goes ⟨Nat.le_of_ble_eq_true rfl, Nat.le_of_ble_eq_true rfl⟩) rfl rfl rfl hl.1 rfl (Nat.le_of_ble_eq_true rfl) dX2_blockOf_24 ⟨Nat.zero_le _, Nat.zero_le _⟩ (fun hz_v3 => ?_)
    refine lv_if_eq (tgt := 32) hx hb dX2_blockOf_27 (by decide) (fun hc => ?_) (fun hc => ?_)
    · replace hg := if_yes hg hc
      refine lv_aload_n hx hb dX2_blockOf_32 rfl (lv_at hl 1 rfl) ?_
      refine xget (ci := 2) (C := RX2) (T := TX2) (N := 8) (v := .ref A_t_board) hx hb hts in_X2_blockOf_X2 hown hK hP 0 rfl rfl 0 (by decide) wd_X2_blockOf_1 rfl dX2_blockOf_33 ?_
      refine lv_iload_n hx hb dX2_blockOf_36 rfl (lv_at hl 0 rfl) ?_
      refine lv_iconst (v := 0) hx hb dX2_blockOf_37 (by decide) ?_
      obtain ⟨v4, hq, hg⟩ := bind_ex hg
      refine callRVi (As := [.int v2, .int 0]) (rest := []) S hK hP (c_X0_of l D cI cZ cB cJ A_t_board A_t_board_numbers A_t_board_owners A_t_board_cells V_t_board_cells v2 0 v4 hq) [1, 2] rfl (cwV 2 hts gX2_blockOf_X0_of rfl rfl rfl hd_X0_of ⟨Nat.le_of_ble_eq_true rfl, Nat.le_of_ble_eq_true rfl⟩) rfl rfl rfl hl.1 rfl (Nat.le_of_ble_eq_true rfl) dX2_blockOf_38 ⟨Nat.zero_le _, Nat.zero_le _⟩ ?_
      refine lv_aload_n hx hb dX2_blockOf_41 rfl (lv_at hl 1 rfl) ?_
      refine xget (ci := 2) (C := RX2) (T := TX2) (N := 8) (v := .ref A_t_board) hx hb hts in_X2_blockOf_X2 hown hK hP 0 rfl rfl 0 (by decide) wd_X2_blockOf_1 rfl dX2_blockOf_42 ?_
      refine lv_iload_n hx hb dX2_blockOf_45 rfl (lv_at hl 2 rfl) ?_
      refine lv_iconst (v := 0) hx hb dX2_blockOf_46 (by decide) ?_
      obtain ⟨v5, hq, hg⟩ := bind_ex hg
      refine callRVi (As := [.int x1, .int 0]) (rest := [.int v4]) S hK hP (c_X0_of l D cI cZ cB cJ A_t_board A_t_board_numbers A_t_board_owners A_t_board_cells V_t_board_cells x1 0 v5 hq) [1, 2] rfl (cwV 2 hts gX2_blockOf_X0_of rfl rfl rfl hd_X0_of ⟨Nat.le_of_ble_eq_true rfl, Nat.le_of_ble_eq_true rfl⟩) rfl rfl rfl hl.1 rfl (Nat.le_of_ble_eq_true rfl) dX2_blockOf_47 ⟨Nat.zero_le _, Nat.zero_le _⟩ ?_
      refine lv_icmp_ne (tgt := 55) hx hb dX2_blockOf_50 (by decide) (fun hc => ?_) (fun hc => ?_)
      · replace hg := if_no hg hc
        refine lv_aload_n hx hb dX2_blockOf_55 rfl (lv_at hl 1 rfl) ?_
        refine lv_iload_n hx hb dX2_blockOf_56 rfl (lv_at hl 0 rfl) ?_
        obtain ⟨v6, hq, hg⟩ := bind_ex hg
        refine callRVz (As := [.int v2]) (rest := []) S hK hP (c_X2_moves l D cI cZ cB cJ A_t A_t_board A_t_cut A_t_counts A_t_strength A_t_reason A_t_driver A_t_waits A_t_stands A_t_board_numbers A_t_board_owners A_t_board_cells V_t_board_cells v2 v6 hq) [0, 1, 2] rfl (cwV 1 hts gX2_blockOf_X2_moves rfl rfl rfl hd_X2_moves ⟨Nat.le_of_ble_eq_true rfl, Nat.le_of_ble_eq_true rfl⟩) rfl rfl rfl hl.1 rfl (Nat.le_of_ble_eq_true rfl) dX2_blockOf_57 ⟨Nat.zero_le _, Nat.zero_le _⟩ (fun hz_v6 => ?_)
        have hJ1 : ∀ (v8 : Int32), ∀ ls : Array Slot, lv_has ls 4 [(0, .ref A_t), (1, .int x1)] → g_X2_blockOf_J1 V_t_strength x1 v8 = some r0 → W p l e rX2_blockOf s m args below meth c s.heap [] 0 0 Q (F0 m 75 ls [.int v8]) := by
          intro v8 ls hl hg
          unfold g_X2_blockOf_J1 at hg
          refine lv_istore_n (lv' := [(3, .int v8), (0, .ref A_t), (1, .int x1)]) hx hb dX2_blockOf_75 rfl hl (by decide) rfl (fun ls hl => ?_)
          refine lv_iload_n hx hb dX2_blockOf_76 rfl (lv_at hl 0 rfl) ?_
          refine lv_aload_n hx hb dX2_blockOf_77 rfl (lv_at hl 1 rfl) ?_
          refine xget (ci := 2) (C := RX2) (T := TX2) (N := 8) (v := .ref A_t_strength) hx hb hts in_X2_blockOf_X2 hown hK hP 0 rfl rfl 3 (by decide) wd_X2_blockOf_2 rfl dX2_blockOf_78 ?_
          refine lv_iload_n hx hb dX2_blockOf_81 rfl (lv_at hl 2 rfl) ?_
          obtain ⟨v9, hq, hg⟩ := bind_ex hg
          refine callRNi (As := [.ref A_t_strength, .int x1]) (rest := [.int v8]) S hK hP (c_X4_entry l D cI cZ cB cJ A_t_strength 9 V_t_strength x1 v9 hq) [5] rfl ⟨va_cnB 2 hts gX2_blockOf_X4_entry_n89 rfl rfl rfl (hK.2 _ (List.mem_of_getElem? (i := 8) rfl)) (hts _ wd_X2_blockOf_26) hd_X4_entry ⟨Nat.le_of_ble_eq_true rfl, Nat.le_of_ble_eq_true rfl⟩, hts _ wd_X2_blockOf_25, trivial⟩ rfl hl.1 rfl (Nat.le_of_ble_eq_true rfl) dX2_blockOf_82 ⟨Nat.zero_le _, Nat.zero_le _⟩ ?_
          refine lv_icmp_lt (tgt := 92) hx hb dX2_blockOf_85 (by decide) (fun hc => ?_) (fun hc => ?_)
          · replace hg := if_yes hg hc
            refine lv_iconst (v := 0) hx hb dX2_blockOf_92 (by decide) ?_
            cases hg
            exact fin _ _ dX2_blockOf_93
          · replace hg := if_no hg hc
            refine lv_iconst (v := 4) hx hb dX2_blockOf_88 (by decide) ?_
            refine lv_goto (tgt := 93) hx hb dX2_blockOf_89 (by decide) ?_
            cases hg
            exact fin _ _ dX2_blockOf_93
        refine lv_if_eq (tgt := 67) hx hb dX2_blockOf_60 (by decide) (fun hc => ?_) (fun hc => ?_)
        · replace hg := if_yes hg hc
          refine lv_aload_n hx hb dX2_blockOf_67 rfl (lv_at hl 1 rfl) ?_
          refine xget (ci := 2) (C := RX2) (T := TX2) (N := 8) (v := .ref A_t_strength) hx hb hts in_X2_blockOf_X2 hown hK hP 0 rfl rfl 3 (by decide) wd_X2_blockOf_2 rfl dX2_blockOf_68 ?_
          refine lv_iload_n hx hb dX2_blockOf_71 rfl (lv_at hl 0 rfl) ?_
          obtain ⟨v7, hq, hg⟩ := bind_ex hg
          refine callRNi (As := [.ref A_t_strength, .int v2]) (rest := []) S hK hP (c_X4_entry l D cI cZ cB cJ A_t_strength 9 V_t_strength v2 v7 hq) [5] rfl ⟨va_cnB 2 hts gX2_blockOf_X4_entry_n89 rfl rfl rfl (hK.2 _ (List.mem_of_getElem? (i := 8) rfl)) (hts _ wd_X2_blockOf_26) hd_X4_entry ⟨Nat.le_of_ble_eq_true rfl, Nat.le_of_ble_eq_true rfl⟩, hts _ wd_X2_blockOf_25, trivial⟩ rfl hl.1 rfl (Nat.le_of_ble_eq_true rfl) dX2_blockOf_72 ⟨Nat.zero_le _, Nat.zero_le _⟩ ?_
          exact hJ1 _ _ (lv_sub hl [1, 2] rfl) hg
        · replace hg := if_no hg hc
          refine lv_iconst (v := 1) hx hb dX2_blockOf_63 (by decide) ?_
          refine lv_goto (tgt := 75) hx hb dX2_blockOf_64 (by decide) ?_
          exact hJ1 _ _ (lv_sub hl [1, 2] rfl) hg
      · replace hg := if_yes hg hc
        refine lv_iconst (v := 3) hx hb dX2_blockOf_53 (by decide) ?_
        cases hg
        exact fin _ _ dX2_blockOf_54
    · replace hg := if_no hg hc
      refine lv_iconst (v := 0) hx hb dX2_blockOf_30 (by decide) ?_
      cases hg
      exact fin _ _ dX2_blockOf_31
theorem hd_X2_failAgainstArmies : yX2_failAgainstArmies.cls = RX2 ∧ yX2_failAgainstArmies.cls ≠ "java/lang/invoke/MethodHandle" ∧ yX2_failAgainstArmies.cls ≠ "java/lang/invoke/VarHandle" ∧ (parseMethodDescriptor yX2_failAgainstArmies.desc).map (fun d => d.parameters.length) = some 0 := by decide +kernel
theorem in_X2_failAgainstArmies_X2 : ∀ w ∈ u_ws RX2 TX2 8, w ∈ wsX2_failAgainstArmies := fun _ h => List.mem_cons_of_mem _ (List.mem_append_left _ (List.mem_append_right _ h))
theorem wd_X2_failAgainstArmies_1 : Cond.fieldLink RX2 12 "FogOrders$Opening" "board" "LFogOrders$Board;" ∈ wsX2_failAgainstArmies := List.mem_of_getElem? (i := 1) rfl
theorem wd_X2_failAgainstArmies_2 : Cond.fieldLink RX2 28 "FogOrders$Opening" "reason" "[I" ∈ wsX2_failAgainstArmies := List.mem_of_getElem? (i := 2) rfl
theorem wd_X2_failAgainstArmies_20 : Cond.initialized RX4 ∈ wsX2_failAgainstArmies := List.mem_of_getElem? (i := 20) rfl
theorem wd_X2_failAgainstArmies_37 : Cond.static yX4_enter ∈ wsX2_failAgainstArmies := List.mem_of_getElem? (i := 37) rfl
abbrev rX2_failAgainstArmies : Room := { frames := 3, cells := 0, slots := 0, locals := 68 }
set_option maxHeartbeats 4000000 in
set_option maxRecDepth 100000 in
theorem c_X2_failAgainstArmies (l : Launch) (D : va_G) (cI cZ cB cJ : ClassId) (A_t : Nat) (A_t_board : Nat) (A_t_cut : Nat) (A_t_counts : Nat) (A_t_strength : Nat) (A_t_reason : Nat) (A_t_driver : Nat) (A_t_waits : Nat) (A_t_stands : Nat) (A_t_board_numbers : Nat) (A_t_board_owners : Nat) (A_t_board_cells : Nat) (sz : Nat) (V_t_board_numbers : Nat → Int32) (V_t_board_cells : Nat → Int32) (V_t_reason : Nat → Int32) (V_t_strength : Nat → Int32) (w1 : Nat → Int32) (hg : g_X2_failAgainstArmies V_t_board_numbers V_t_board_cells V_t_reason V_t_strength = some w1) : Met l yX2_failAgainstArmies wsX2_failAgainstArmies rX2_failAgainstArmies (PcW D cI cZ cB cJ sz [(A_t, .inr (2, [.ref A_t_board, .ref A_t_cut, .ref A_t_counts, .ref A_t_strength, .ref A_t_reason, .ref A_t_driver, .ref A_t_waits, .ref A_t_stands])), (A_t_board, .inr (0, [.ref A_t_board_numbers, .ref A_t_board_owners, .ref A_t_board_cells])), (A_t_board_numbers, .inl (cI, 10, .inl V_t_board_numbers)), (A_t_board_cells, .inl (cI, 63, .inl V_t_board_cells)), (A_t_reason, .inl (cI, 9, .inl V_t_reason)), (A_t_strength, .inl (cI, 9, .inl V_t_strength))] [.ref A_t]) (QWv D cI cZ cB cJ sz [(A_t, .inr (2, [.ref A_t_board, .ref A_t_cut, .ref A_t_counts, .ref A_t_strength, .ref A_t_reason, .ref A_t_driver, .ref A_t_waits, .ref A_t_stands])), (A_t_board, .inr (0, [.ref A_t_board_numbers, .ref A_t_board_owners, .ref A_t_board_cells])), (A_t_board_numbers, .inl (cI, 10, .inl V_t_board_numbers)), (A_t_board_cells, .inl (cI, 63, .inl V_t_board_cells)), (A_t_reason, .inl (cI, 9, .inl V_t_reason)), (A_t_strength, .inl (cI, 9, .inl V_t_strength))] [(A_t, .inr (2, [.ref A_t_board, .ref A_t_cut, .ref A_t_counts, .ref A_t_strength, .ref A_t_reason, .ref A_t_driver, .ref A_t_waits, .ref A_t_stands])), (A_t_board, .inr (0, [.ref A_t_board_numbers, .ref A_t_board_owners, .ref A_t_board_cells])), (A_t_board_numbers, .inl (cI, 10, .inl V_t_board_numbers)), (A_t_board_cells, .inl (cI, 63, .inl V_t_board_cells)), (A_t_reason, .inl (cI, 9, .inl w1)), (A_t_strength, .inl (cI, 9, .inl V_t_strength))]) 0 0 (va_A [(A_t, .inr (2, [.ref A_t_board, .ref A_t_cut, .ref A_t_counts, .ref A_t_strength, .ref A_t_reason, .ref A_t_driver, .ref A_t_waits, .ref A_t_stands])), (A_t_board, .inr (0, [.ref A_t_board_numbers, .ref A_t_board_owners, .ref A_t_board_cells])), (A_t_board_numbers, .inl (cI, 10, .inl V_t_board_numbers)), (A_t_board_cells, .inl (cI, 63, .inl V_t_board_cells)), (A_t_reason, .inl (cI, 9, .inl V_t_reason)), (A_t_strength, .inl (cI, 9, .inl V_t_strength))] sz) := by
  refine bodyWv (cc := cX2_failAgainstArmies) (maxL := 5) (lv := [(0, .ref A_t)]) (by decide) rfl (Nat.le_of_ble_eq_true rfl) rfl ?_
  intro p e s m args below meth c Q hx hb hml hown hts A hP hK hD hA hS fin ls hl
  replace hown : s.vm.findClass RX2 = some m.cls := hown
  have S : CallFix p m c cX2_failAgainstArmies 5 s args wsX2_failAgainstArmies RX2 := ⟨hx, hb, hml, hown, hts⟩
  unfold g_X2_failAgainstArmies at hg
  refine lv_iconst (v := 1) hx hb dX2_failAgainstArmies_0 (by decide) ?_
  refine lv_istore_n (lv' := [(1, .int 1), (0, .ref A_t)]) hx hb dX2_failAgainstArmies_1 rfl hl (by decide) rfl (fun ls hl => ?_)
  refine lv_iconst (v := 0) hx hb dX2_failAgainstArmies_2 (by decide) ?_
  refine lv_istore_n (lv' := [(2, .int 0), (1, .int 1), (0, .ref A_t)]) hx hb dX2_failAgainstArmies_3 rfl hl (by decide) rfl (fun ls hl => ?_)
  obtain ⟨f14, hL, hg⟩ := bind_ex hg
  have kx : ∀ (H : Heap) (locs : List Loc), va_P D vwCl [(A_t, .inr (2, [.ref A_t_board, .ref A_t_cut, .ref A_t_counts, .ref A_t_strength, .ref A_t_reason, .ref A_t_driver, .ref A_t_waits, .ref A_t_stands])), (A_t_board, .inr (0, [.ref A_t_board_numbers, .ref A_t_board_owners, .ref A_t_board_cells])), (A_t_board_numbers, .inl (cI, 10, .inl V_t_board_numbers)), (A_t_board_cells, .inl (cI, 63, .inl V_t_board_cells)), (A_t_reason, .inl (cI, 9, .inl f14)), (A_t_strength, .inl (cI, 9, .inl V_t_strength))] H → va_D A [(A_t, .inr (2, [.ref A_t_board, .ref A_t_cut, .ref A_t_counts, .ref A_t_strength, .ref A_t_reason, .ref A_t_driver, .ref A_t_waits, .ref A_t_stands])), (A_t_board, .inr (0, [.ref A_t_board_numbers, .ref A_t_board_owners, .ref A_t_board_cells])), (A_t_board_numbers, .inl (cI, 10, .inl V_t_board_numbers)), (A_t_board_cells, .inl (cI, 63, .inl V_t_board_cells)), (A_t_reason, .inl (cI, 9, .inl f14)), (A_t_strength, .inl (cI, 9, .inl V_t_strength))] → va_S A s.heap H locs → ∀ ls : Array Slot, lv_has ls 5 [] → W p l e rX2_failAgainstArmies s m args below meth c H locs 0 0 Q (F0 m 78 ls []) := by
    intro H locs hP hD hS ls hl
    cases hg
    exact fin _ _ _ _ dX2_failAgainstArmies_78 hP hD hS
  have L : ∀ (nf : Nat) (v1 : Int32) (v2 : Int32) (f3 : Nat → Int32), bo v1 → ∀ (H : Heap) (locs : List Loc), va_P D vwCl [(A_t, .inr (2, [.ref A_t_board, .ref A_t_cut, .ref A_t_counts, .ref A_t_strength, .ref A_t_reason, .ref A_t_driver, .ref A_t_waits, .ref A_t_stands])), (A_t_board, .inr (0, [.ref A_t_board_numbers, .ref A_t_board_owners, .ref A_t_board_cells])), (A_t_board_numbers, .inl (cI, 10, .inl V_t_board_numbers)), (A_t_board_cells, .inl (cI, 63, .inl V_t_board_cells)), (A_t_reason, .inl (cI, 9, .inl f3)), (A_t_strength, .inl (cI, 9, .inl V_t_strength))] H → va_D A [(A_t, .inr (2, [.ref A_t_board, .ref A_t_cut, .ref A_t_counts, .ref A_t_strength, .ref A_t_reason, .ref A_t_driver, .ref A_t_waits, .ref A_t_stands])), (A_t_board, .inr (0, [.ref A_t_board_numbers, .ref A_t_board_owners, .ref A_t_board_cells])), (A_t_board_numbers, .inl (cI, 10, .inl V_t_board_numbers)), (A_t_board_cells, .inl (cI, 63, .inl V_t_board_cells)), (A_t_reason, .inl (cI, 9, .inl f3)), (A_t_strength, .inl (cI, 9, .inl V_t_strength))] → va_S A s.heap H locs → ∀ ls : Array Slot, lv_has ls 5 [(2, .int v2), (1, .int v1), (0, .ref A_t)] → g_X2_failAgainstArmies_L1 V_t_board_numbers V_t_board_cells V_t_strength nf v1 v2 f3 = some f14 → W p l e rX2_failAgainstArmies s m args below meth c H locs 0 0 Q (F0 m 4 ls []) := by
    intro nf
    induction nf with
    | zero =>
      intro v1 v2 f3 hz_v1 H locs hP hD hS ls hl hg
      exact no_some hg
    | succ nf ih =>
      intro v1 v2 f3 hz_v1 H locs hP hD hS ls hl hg
      rw [g_X2_failAgainstArmies_L1] at hg
      refine lv_iload_n hx hb dX2_failAgainstArmies_4 rfl (lv_at hl 0 rfl) ?_
      refine lv_bipush (v := 9) hx hb dX2_failAgainstArmies_5 (by decide) ?_
      refine lv_icmp_gt (tgt := 78) hx hb dX2_failAgainstArmies_7 (by decide) (fun hc => ?_) (fun hc => ?_)
      · replace hg := if_yes hg hc
        cases hg
        exact kx _ _ hP hD hS _ (lv_sub hl [] rfl)
      · replace hg := if_no hg hc
        refine lv_iload_n hx hb dX2_failAgainstArmies_10 rfl (lv_at hl 1 rfl) ?_
        refine lv_if_eq (tgt := 78) hx hb dX2_failAgainstArmies_11 (by decide) (fun hc => ?_) (fun hc => ?_)
        · replace hg := if_yes hg hc
          cases hg
          exact kx _ _ hP hD hS _ (lv_sub hl [] rfl)
        · replace hg := if_no hg hc
          refine lv_iconst (v := 0) hx hb dX2_failAgainstArmies_14 (by decide) ?_
          refine lv_istore_n (lv' := [(1, .int 0), (2, .int v2), (0, .ref A_t)]) hx hb dX2_failAgainstArmies_15 rfl hl (by decide) rfl (fun ls hl => ?_)
          refine lv_iconst (v := 0) hx hb dX2_failAgainstArmies_16 (by decide) ?_
          refine lv_istore_n (lv' := [(3, .int 0), (1, .int 0), (2, .int v2), (0, .ref A_t)]) hx hb dX2_failAgainstArmies_17 rfl hl (by decide) rfl (fun ls hl => ?_)
          obtain ⟨v12, f13, hL, hg⟩ := b2_ex hg
          have kx : bo v12 → ∀ (H : Heap) (locs : List Loc), va_P D vwCl [(A_t, .inr (2, [.ref A_t_board, .ref A_t_cut, .ref A_t_counts, .ref A_t_strength, .ref A_t_reason, .ref A_t_driver, .ref A_t_waits, .ref A_t_stands])), (A_t_board, .inr (0, [.ref A_t_board_numbers, .ref A_t_board_owners, .ref A_t_board_cells])), (A_t_board_numbers, .inl (cI, 10, .inl V_t_board_numbers)), (A_t_board_cells, .inl (cI, 63, .inl V_t_board_cells)), (A_t_reason, .inl (cI, 9, .inl f13)), (A_t_strength, .inl (cI, 9, .inl V_t_strength))] H → va_D A [(A_t, .inr (2, [.ref A_t_board, .ref A_t_cut, .ref A_t_counts, .ref A_t_strength, .ref A_t_reason, .ref A_t_driver, .ref A_t_waits, .ref A_t_stands])), (A_t_board, .inr (0, [.ref A_t_board_numbers, .ref A_t_board_owners, .ref A_t_board_cells])), (A_t_board_numbers, .inl (cI, 10, .inl V_t_board_numbers)), (A_t_board_cells, .inl (cI, 63, .inl V_t_board_cells)), (A_t_reason, .inl (cI, 9, .inl f13)), (A_t_strength, .inl (cI, 9, .inl V_t_strength))] → va_S A s.heap H locs → ∀ ls : Array Slot, lv_has ls 5 [(1, .int v12), (2, .int v2), (0, .ref A_t)] → W p l e rX2_failAgainstArmies s m args below meth c H locs 0 0 Q (F0 m 72 ls []) := by
            intro hz_v12 H locs hP hD hS ls hl
            refine lv_iinc (v := (v2 + 1)) (lv' := [(2, .int (v2 + 1)), (1, .int v12), (0, .ref A_t)]) hx hb dX2_failAgainstArmies_72 hl (k := 1) rfl rfl (by decide) rfl (fun ls hl => ?_)
            refine lv_goto (tgt := 4) hx hb dX2_failAgainstArmies_75 (by decide) ?_
            exact ih _ _ _ hz_v12 _ _ hP hD hS _ (lv_sub hl [0, 1, 2] rfl) hg
          have L : ∀ (nf : Nat) (v4 : Int32) (v5 : Int32) (f6 : Nat → Int32), bo v4 → ∀ (H : Heap) (locs : List Loc), va_P D vwCl [(A_t, .inr (2, [.ref A_t_board, .ref A_t_cut, .ref A_t_counts, .ref A_t_strength, .ref A_t_reason, .ref A_t_driver, .ref A_t_waits, .ref A_t_stands])), (A_t_board, .inr (0, [.ref A_t_board_numbers, .ref A_t_board_owners, .ref A_t_board_cells])), (A_t_board_numbers, .inl (cI, 10, .inl V_t_board_numbers)), (A_t_board_cells, .inl (cI, 63, .inl V_t_board_cells)), (A_t_reason, .inl (cI, 9, .inl f6)), (A_t_strength, .inl (cI, 9, .inl V_t_strength))] H → va_D A [(A_t, .inr (2, [.ref A_t_board, .ref A_t_cut, .ref A_t_counts, .ref A_t_strength, .ref A_t_reason, .ref A_t_driver, .ref A_t_waits, .ref A_t_stands])), (A_t_board, .inr (0, [.ref A_t_board_numbers, .ref A_t_board_owners, .ref A_t_board_cells])), (A_t_board_numbers, .inl (cI, 10, .inl V_t_board_numbers)), (A_t_board_cells, .inl (cI, 63, .inl V_t_board_cells)), (A_t_reason, .inl (cI, 9, .inl f6)), (A_t_strength, .inl (cI, 9, .inl V_t_strength))] → va_S A s.heap H locs → ∀ ls : Array Slot, lv_has ls 5 [(3, .int v5), (1, .int v4), (2, .int v2), (0, .ref A_t)] → g_X2_failAgainstArmies_L2 V_t_board_numbers V_t_board_cells V_t_strength nf v4 v5 f6 = some (v12, f13) → W p l e rX2_failAgainstArmies s m args below meth c H locs 0 0 Q (F0 m 18 ls []) := by
            intro nf
            induction nf with
            | zero =>
              intro v4 v5 f6 hz_v4 H locs hP hD hS ls hl hg
              exact no_some hg
            | succ nf ih =>
              intro v4 v5 f6 hz_v4 H locs hP hD hS ls hl hg
              rw [g_X2_failAgainstArmies_L2] at hg
              refine lv_iload_n hx hb dX2_failAgainstArmies_18 rfl (lv_at hl 0 rfl) ?_
              refine lv_aload_n hx hb dX2_failAgainstArmies_19 rfl (lv_at hl 3 rfl) ?_
              refine xget (ci := 2) (C := RX2) (T := TX2) (N := 8) (v := .ref A_t_board) hx hb hts in_X2_failAgainstArmies_X2 hown hK hP 0 rfl rfl 0 (by decide) wd_X2_failAgainstArmies_1 rfl dX2_failAgainstArmies_20 ?_
              refine lv_iconst (v := 0) hx hb dX2_failAgainstArmies_23 (by decide) ?_
              obtain ⟨v7, hq, hg⟩ := bind_ex hg
              refine callRVi (As := [.int 0]) (rest := [.int v5]) S hK hP (c_X0_number l D cI cZ cB cJ A_t_board A_t_board_numbers A_t_board_owners A_t_board_cells V_t_board_numbers 0 v7 hq) [1, 2] rfl (cwV 1 hts gX2_failAgainstArmies_X0_number rfl rfl rfl hd_X0_number ⟨Nat.le_of_ble_eq_true rfl, Nat.le_of_ble_eq_true rfl⟩) rfl rfl rfl hl.1 rfl (Nat.le_of_ble_eq_true rfl) dX2_failAgainstArmies_24 ⟨Nat.zero_le _, Nat.zero_le _⟩ ?_
              refine lv_icmp_ge (tgt := 72) hx hb dX2_failAgainstArmies_27 (by decide) (fun hc => ?_) (fun hc => ?_)
              · replace hg := if_yes hg hc
                cases hg
                exact kx hz_v4 _ _ hP hD hS _ (lv_sub hl [1, 2, 3] rfl)
              · replace hg := if_no hg hc
                refine lv_aload_n hx hb dX2_failAgainstArmies_30 rfl (lv_at hl 3 rfl) ?_
                refine lv_iload_n hx hb dX2_failAgainstArmies_31 rfl (lv_at hl 0 rfl) ?_
                obtain ⟨v8, hq, hg⟩ := bind_ex hg
                refine callRVz (As := [.int v5]) (rest := []) S hK hP (c_X2_goes l D cI cZ cB cJ A_t A_t_board A_t_cut A_t_counts A_t_strength A_t_reason A_t_driver A_t_waits A_t_stands A_t_board_numbers A_t_board_owners A_t_board_cells V_t_board_cells f6 v5 v8 hq) [0, 1, 3, 4] rfl (cwV 1 hts gX2_failAgainstArmies_X2_goes rfl rfl rfl hd_X2_goes ⟨Nat.le_of_ble_eq_true rfl, Nat.le_of_ble_eq_true rfl⟩) rfl rfl rfl hl.1 rfl (Nat.le_of_ble_eq_true rfl) dX2_failAgainstArmies_32 ⟨Nat.zero_le _, Nat.zero_le _⟩ (fun hz_v8 => ?_)
                have hJ1 : ∀ (v10 : Int32), ∀ (H : Heap) (locs : List Loc), va_P D vwCl [(A_t, .inr (2, [.ref A_t_board, .ref A_t_cut, .ref A_t_counts, .ref A_t_strength, .ref A_t_reason, .ref A_t_driver, .ref A_t_waits, .ref A_t_stands])), (A_t_board, .inr (0, [.ref A_t_board_numbers, .ref A_t_board_owners, .ref A_t_board_cells])), (A_t_board_numbers, .inl (cI, 10, .inl V_t_board_numbers)), (A_t_board_cells, .inl (cI, 63, .inl V_t_board_cells)), (A_t_reason, .inl (cI, 9, .inl f6)), (A_t_strength, .inl (cI, 9, .inl V_t_strength))] H → va_D A [(A_t, .inr (2, [.ref A_t_board, .ref A_t_cut, .ref A_t_counts, .ref A_t_strength, .ref A_t_reason, .ref A_t_driver, .ref A_t_waits, .ref A_t_stands])), (A_t_board, .inr (0, [.ref A_t_board_numbers, .ref A_t_board_owners, .ref A_t_board_cells])), (A_t_board_numbers, .inl (cI, 10, .inl V_t_board_numbers)), (A_t_board_cells, .inl (cI, 63, .inl V_t_board_cells)), (A_t_reason, .inl (cI, 9, .inl f6)), (A_t_strength, .inl (cI, 9, .inl V_t_strength))] → va_S A s.heap H locs → ∀ ls : Array Slot, lv_has ls 5 [(3, .int v5), (1, .int v4), (2, .int v2), (0, .ref A_t)] → g_X2_failAgainstArmies_J1 v4 v5 f6 (g_X2_failAgainstArmies_L2 V_t_board_numbers V_t_board_cells V_t_strength nf) v10 = some (v12, f13) → W p l e rX2_failAgainstArmies s m args below meth c H locs 0 0 Q (F0 m 47 ls [.int v10]) := by
                  intro v10 H locs hP hD hS ls hl hg
                  unfold g_X2_failAgainstArmies_J1 at hg
                  refine lv_istore (lv' := [(4, .int v10), (3, .int v5), (1, .int v4), (2, .int v2), (0, .ref A_t)]) hx hb dX2_failAgainstArmies_47 hl (by decide) rfl (fun ls hl => ?_)
                  refine lv_iload hx hb dX2_failAgainstArmies_49 (lv_at hl 0 rfl) ?_
                  refine lv_if_eq (tgt := 66) hx hb dX2_failAgainstArmies_51 (by decide) (fun hc => ?_) (fun hc => ?_)
                  · replace hg := if_yes hg hc
                    refine lv_iinc (v := (v5 + 1)) (lv' := [(3, .int (v5 + 1)), (4, .int v10), (1, .int v4), (2, .int v2), (0, .ref A_t)]) hx hb dX2_failAgainstArmies_66 hl (k := 1) rfl rfl (by decide) rfl (fun ls hl => ?_)
                    refine lv_goto (tgt := 18) hx hb dX2_failAgainstArmies_69 (by decide) ?_
                    exact ih _ _ _ hz_v4 _ _ hP hD hS _ (lv_sub hl [0, 2, 3, 4] rfl) hg
                  · replace hg := if_no hg hc
                    refine lv_aload_n hx hb dX2_failAgainstArmies_54 rfl (lv_at hl 4 rfl) ?_
                    refine xget (ci := 2) (C := RX2) (T := TX2) (N := 8) (v := .ref A_t_reason) hx hb hts in_X2_failAgainstArmies_X2 hown hK hP 0 rfl rfl 4 (by decide) wd_X2_failAgainstArmies_2 rfl dX2_failAgainstArmies_55 ?_
                    refine lv_iload_n hx hb dX2_failAgainstArmies_58 rfl (lv_at hl 1 rfl) ?_
                    refine lv_iload hx hb dX2_failAgainstArmies_59 (lv_at hl 0 rfl) ?_
                    obtain ⟨f11, hq, hg⟩ := bind_ex hg
                    refine callWNv (As := [.ref A_t_reason, .int v5, .int v10]) (rest := []) (wr := [(A_t, .inr (2, [.ref A_t_board, .ref A_t_cut, .ref A_t_counts, .ref A_t_strength, .ref A_t_reason, .ref A_t_driver, .ref A_t_waits, .ref A_t_stands])), (A_t_board, .inr (0, [.ref A_t_board_numbers, .ref A_t_board_owners, .ref A_t_board_cells])), (A_t_board_numbers, .inl (cI, 10, .inl V_t_board_numbers)), (A_t_board_cells, .inl (cI, 63, .inl V_t_board_cells)), (A_t_strength, .inl (cI, 9, .inl V_t_strength))]) S hK hP hD hS hA (c_X4_enter l D cI cZ cB cJ A_t_reason 9 _ f6 v5 v10 f11 hq) [4] [0, 1, 2, 3, 5] rfl rfl (by decide +kernel) (by decide +kernel) (by decide +kernel) ⟨va_cnB 3 hts gX2_failAgainstArmies_X4_enter_n76 rfl rfl rfl (hK.2 _ (List.mem_of_getElem? (i := 7) rfl)) (hts _ wd_X2_failAgainstArmies_20) hd_X4_enter ⟨Nat.le_of_ble_eq_true rfl, Nat.le_of_ble_eq_true rfl⟩, hts _ wd_X2_failAgainstArmies_37, trivial⟩ rfl hl.1 rfl (Nat.le_of_ble_eq_true rfl) dX2_failAgainstArmies_61 ⟨Nat.zero_le _, Nat.zero_le _⟩ (fun H locs hP hD hS => ?_)
                    replace hP : va_P D vwCl [(A_t, .inr (2, [.ref A_t_board, .ref A_t_cut, .ref A_t_counts, .ref A_t_strength, .ref A_t_reason, .ref A_t_driver, .ref A_t_waits, .ref A_t_stands])), (A_t_board, .inr (0, [.ref A_t_board_numbers, .ref A_t_board_owners, .ref A_t_board_cells])), (A_t_board_numbers, .inl (cI, 10, .inl V_t_board_numbers)), (A_t_board_cells, .inl (cI, 63, .inl V_t_board_cells)), (A_t_strength, .inl (cI, 9, .inl V_t_strength)), (A_t_reason, .inl (cI, 9, .inl f11))] H := hP
                    replace hD : va_D A [(A_t, .inr (2, [.ref A_t_board, .ref A_t_cut, .ref A_t_counts, .ref A_t_strength, .ref A_t_reason, .ref A_t_driver, .ref A_t_waits, .ref A_t_stands])), (A_t_board, .inr (0, [.ref A_t_board_numbers, .ref A_t_board_owners, .ref A_t_board_cells])), (A_t_board_numbers, .inl (cI, 10, .inl V_t_board_numbers)), (A_t_board_cells, .inl (cI, 63, .inl V_t_board_cells)), (A_t_strength, .inl (cI, 9, .inl V_t_strength)), (A_t_reason, .inl (cI, 9, .inl f11))] := hD
                    refine lv_iconst (v := 1) hx hb dX2_failAgainstArmies_64 (by decide) ?_
                    refine lv_istore_n (lv' := [(1, .int 1), (4, .int v10), (3, .int v5), (2, .int v2), (0, .ref A_t)]) hx hb dX2_failAgainstArmies_65 rfl hl (by decide) rfl (fun ls hl => ?_)
                    refine lv_iinc (v := (v5 + 1)) (lv' := [(3, .int (v5 + 1)), (1, .int 1), (4, .int v10), (2, .int v2), (0, .ref A_t)]) hx hb dX2_failAgainstArmies_66 hl (k := 2) rfl rfl (by decide) rfl (fun ls hl => ?_)
                    refine lv_goto (tgt := 18) hx hb dX2_failAgainstArmies_69 (by decide) ?_
                    exact ih _ _ _ bo_1 _ _ (hP.sub [0, 1, 2, 3, 5, 4] rfl) (hD.sub [0, 1, 2, 3, 5, 4] (by decide) rfl) hS _ (lv_sub hl [0, 1, 3, 4] rfl) hg
                refine lv_if_eq (tgt := 46) hx hb dX2_failAgainstArmies_35 (by decide) (fun hc => ?_) (fun hc => ?_)
                · replace hg := if_yes hg hc
                  refine lv_iconst (v := 0) hx hb dX2_failAgainstArmies_46 (by decide) ?_
                  exact hJ1 _ _ _ hP hD hS _ (lv_sub hl [0, 1, 2, 3] rfl) hg
                · replace hg := if_no hg hc
                  refine lv_aload_n hx hb dX2_failAgainstArmies_38 rfl (lv_at hl 3 rfl) ?_
                  refine lv_iload_n hx hb dX2_failAgainstArmies_39 rfl (lv_at hl 0 rfl) ?_
                  obtain ⟨v9, hq, hg⟩ := bind_ex hg
                  refine callRVi (As := [.int v5]) (rest := []) S hK hP (c_X2_blockOf l D cI cZ cB cJ A_t A_t_board A_t_cut A_t_counts A_t_strength A_t_reason A_t_driver A_t_waits A_t_stands A_t_board_numbers A_t_board_owners A_t_board_cells V_t_board_cells V_t_board_numbers f6 V_t_strength v5 v9 hq) [0, 1, 3, 2, 4, 5] rfl (cwV 1 hts gX2_failAgainstArmies_X2_blockOf rfl rfl rfl hd_X2_blockOf ⟨Nat.le_of_ble_eq_true rfl, Nat.le_of_ble_eq_true rfl⟩) rfl rfl rfl hl.1 rfl (Nat.le_of_ble_eq_true rfl) dX2_failAgainstArmies_40 ⟨Nat.zero_le _, Nat.zero_le _⟩ ?_
                  refine lv_goto (tgt := 47) hx hb dX2_failAgainstArmies_43 (by decide) ?_
                  exact hJ1 _ _ _ hP hD hS _ (lv_sub hl [0, 1, 2, 3] rfl) hg
          exact L FU _ _ _ bo_0 _ _ hP hD hS _ (lv_sub hl [0, 1, 2, 3] rfl) hL
  exact L FU _ _ _ bo_1 _ _ hP hD hS _ (lv_sub hl [0, 1, 2] rfl) hL
theorem hd_X2_decideMoves : yX2_decideMoves.cls = RX2 ∧ yX2_decideMoves.cls ≠ "java/lang/invoke/MethodHandle" ∧ yX2_decideMoves.cls ≠ "java/lang/invoke/VarHandle" ∧ (parseMethodDescriptor yX2_decideMoves.desc).map (fun d => d.parameters.length) = some 0 := by decide +kernel
abbrev rX2_decideMoves : Room := { frames := 4, cells := 0, slots := 0, locals := 92 }
set_option maxHeartbeats 4000000 in
set_option maxRecDepth 100000 in
theorem c_X2_decideMoves (l : Launch) (D : va_G) (cI cZ cB cJ : ClassId) (A_t : Nat) (A_t_board : Nat) (A_t_cut : Nat) (A_t_counts : Nat) (A_t_strength : Nat) (A_t_reason : Nat) (A_t_driver : Nat) (A_t_waits : Nat) (A_t_stands : Nat) (A_t_board_numbers : Nat) (A_t_board_owners : Nat) (A_t_board_cells : Nat) (sz : Nat) (V_t_board_numbers : Nat → Int32) (V_t_board_cells : Nat → Int32) (V_t_cut : Nat → Int32) (V_t_counts : Nat → Int32) (V_t_strength : Nat → Int32) (V_t_reason : Nat → Int32) (w1 : Nat → Int32) (w2 : Nat → Int32) (w3 : Nat → Int32) (w4 : Nat → Int32) (hg : g_X2_decideMoves V_t_board_numbers V_t_board_cells V_t_cut V_t_counts V_t_strength V_t_reason = some (w1, w2, w3, w4)) : Met l yX2_decideMoves wsX2_decideMoves rX2_decideMoves (PcW D cI cZ cB cJ sz [(A_t, .inr (2, [.ref A_t_board, .ref A_t_cut, .ref A_t_counts, .ref A_t_strength, .ref A_t_reason, .ref A_t_driver, .ref A_t_waits, .ref A_t_stands])), (A_t_board, .inr (0, [.ref A_t_board_numbers, .ref A_t_board_owners, .ref A_t_board_cells])), (A_t_board_numbers, .inl (cI, 10, .inl V_t_board_numbers)), (A_t_board_cells, .inl (cI, 63, .inl V_t_board_cells)), (A_t_cut, .inl (cI, 9, .inl V_t_cut)), (A_t_counts, .inl (cI, 9, .inl V_t_counts)), (A_t_strength, .inl (cI, 9, .inl V_t_strength)), (A_t_reason, .inl (cI, 9, .inl V_t_reason))] [.ref A_t]) (QWv D cI cZ cB cJ sz [(A_t, .inr (2, [.ref A_t_board, .ref A_t_cut, .ref A_t_counts, .ref A_t_strength, .ref A_t_reason, .ref A_t_driver, .ref A_t_waits, .ref A_t_stands])), (A_t_board, .inr (0, [.ref A_t_board_numbers, .ref A_t_board_owners, .ref A_t_board_cells])), (A_t_board_numbers, .inl (cI, 10, .inl V_t_board_numbers)), (A_t_board_cells, .inl (cI, 63, .inl V_t_board_cells)), (A_t_cut, .inl (cI, 9, .inl V_t_cut)), (A_t_counts, .inl (cI, 9, .inl V_t_counts)), (A_t_strength, .inl (cI, 9, .inl V_t_strength)), (A_t_reason, .inl (cI, 9, .inl V_t_reason))] [(A_t, .inr (2, [.ref A_t_board, .ref A_t_cut, .ref A_t_counts, .ref A_t_strength, .ref A_t_reason, .ref A_t_driver, .ref A_t_waits, .ref A_t_stands])), (A_t_board, .inr (0, [.ref A_t_board_numbers, .ref A_t_board_owners, .ref A_t_board_cells])), (A_t_board_numbers, .inl (cI, 10, .inl V_t_board_numbers)), (A_t_board_cells, .inl (cI, 63, .inl V_t_board_cells)), (A_t_cut, .inl (cI, 9, .inl w1)), (A_t_counts, .inl (cI, 9, .inl w2)), (A_t_strength, .inl (cI, 9, .inl w3)), (A_t_reason, .inl (cI, 9, .inl w4))]) 0 0 (va_A [(A_t, .inr (2, [.ref A_t_board, .ref A_t_cut, .ref A_t_counts, .ref A_t_strength, .ref A_t_reason, .ref A_t_driver, .ref A_t_waits, .ref A_t_stands])), (A_t_board, .inr (0, [.ref A_t_board_numbers, .ref A_t_board_owners, .ref A_t_board_cells])), (A_t_board_numbers, .inl (cI, 10, .inl V_t_board_numbers)), (A_t_board_cells, .inl (cI, 63, .inl V_t_board_cells)), (A_t_cut, .inl (cI, 9, .inl V_t_cut)), (A_t_counts, .inl (cI, 9, .inl V_t_counts)), (A_t_strength, .inl (cI, 9, .inl V_t_strength)), (A_t_reason, .inl (cI, 9, .inl V_t_reason))] sz) := by
  refine bodyWv (cc := cX2_decideMoves) (maxL := 1) (lv := [(0, .ref A_t)]) (by decide) rfl (Nat.le_of_ble_eq_true rfl) rfl ?_
  intro p e s m args below meth c Q hx hb hml hown hts A hP hK hD hA hS fin ls hl
  replace hown : s.vm.findClass RX2 = some m.cls := hown
  have S : CallFix p m c cX2_decideMoves 1 s args wsX2_decideMoves RX2 := ⟨hx, hb, hml, hown, hts⟩
  unfold g_X2_decideMoves at hg
  refine lv_aload_n hx hb dX2_decideMoves_0 rfl (lv_at hl 0 rfl) ?_
  obtain ⟨f1, f2, hq, hg⟩ := b2_ex hg
  refine callWVv (As := []) (rest := []) (wr := [(A_t_strength, .inl (cI, 9, .inl V_t_strength)), (A_t_reason, .inl (cI, 9, .inl V_t_reason))]) S hK hP hD hS hA (c_X2_judgeSupports l D cI cZ cB cJ A_t A_t_board A_t_cut A_t_counts A_t_strength A_t_reason A_t_driver A_t_waits A_t_stands A_t_board_numbers A_t_board_owners A_t_board_cells _ V_t_board_numbers V_t_board_cells V_t_cut V_t_counts f1 f2 hq) [0, 1, 2, 3, 4, 5] [6, 7] rfl rfl (by decide +kernel) (by decide +kernel) (by decide +kernel) (cwV 0 hts gX2_decideMoves_X2_judgeSupports rfl rfl rfl hd_X2_judgeSupports ⟨Nat.le_of_ble_eq_true rfl, Nat.le_of_ble_eq_true rfl⟩) rfl rfl rfl hl.1 rfl (Nat.le_of_ble_eq_true rfl) dX2_decideMoves_1 ⟨Nat.zero_le _, Nat.zero_le _⟩ (fun H locs hP hD hS => ?_)
  replace hP : va_P D vwCl [(A_t_strength, .inl (cI, 9, .inl V_t_strength)), (A_t_reason, .inl (cI, 9, .inl V_t_reason)), (A_t, .inr (2, [.ref A_t_board, .ref A_t_cut, .ref A_t_counts, .ref A_t_strength, .ref A_t_reason, .ref A_t_driver, .ref A_t_waits, .ref A_t_stands])), (A_t_board, .inr (0, [.ref A_t_board_numbers, .ref A_t_board_owners, .ref A_t_board_cells])), (A_t_board_numbers, .inl (cI, 10, .inl V_t_board_numbers)), (A_t_board_cells, .inl (cI, 63, .inl V_t_board_cells)), (A_t_cut, .inl (cI, 9, .inl f1)), (A_t_counts, .inl (cI, 9, .inl f2))] H := hP
  replace hD : va_D A [(A_t_strength, .inl (cI, 9, .inl V_t_strength)), (A_t_reason, .inl (cI, 9, .inl V_t_reason)), (A_t, .inr (2, [.ref A_t_board, .ref A_t_cut, .ref A_t_counts, .ref A_t_strength, .ref A_t_reason, .ref A_t_driver, .ref A_t_waits, .ref A_t_stands])), (A_t_board, .inr (0, [.ref A_t_board_numbers, .ref A_t_board_owners, .ref A_t_board_cells])), (A_t_board_numbers, .inl (cI, 10, .inl V_t_board_numbers)), (A_t_board_cells, .inl (cI, 63, .inl V_t_board_cells)), (A_t_cut, .inl (cI, 9, .inl f1)), (A_t_counts, .inl (cI, 9, .inl f2))] := hD
  refine lv_aload_n hx hb dX2_decideMoves_4 rfl (lv_at hl 0 rfl) ?_
  obtain ⟨f3, hq, hg⟩ := bind_ex hg
  refine callWVv (As := []) (rest := []) (wr := [(A_t_reason, .inl (cI, 9, .inl V_t_reason)), (A_t_cut, .inl (cI, 9, .inl f1))]) S hK hP hD hS hA (c_X2_weighOrders l D cI cZ cB cJ A_t A_t_board A_t_cut A_t_counts A_t_strength A_t_reason A_t_driver A_t_waits A_t_stands A_t_board_numbers A_t_board_owners A_t_board_cells _ V_t_board_numbers V_t_board_cells f2 V_t_strength f3 hq) [2, 3, 4, 5, 7, 0] [1, 6] rfl rfl (by decide +kernel) (by decide +kernel) (by decide +kernel) (cwV 0 hts gX2_decideMoves_X2_weighOrders rfl rfl rfl hd_X2_weighOrders ⟨Nat.le_of_ble_eq_true rfl, Nat.le_of_ble_eq_true rfl⟩) rfl rfl rfl hl.1 rfl (Nat.le_of_ble_eq_true rfl) dX2_decideMoves_5 ⟨Nat.zero_le _, Nat.zero_le _⟩ (fun H locs hP hD hS => ?_)
  replace hP : va_P D vwCl [(A_t_reason, .inl (cI, 9, .inl V_t_reason)), (A_t_cut, .inl (cI, 9, .inl f1)), (A_t, .inr (2, [.ref A_t_board, .ref A_t_cut, .ref A_t_counts, .ref A_t_strength, .ref A_t_reason, .ref A_t_driver, .ref A_t_waits, .ref A_t_stands])), (A_t_board, .inr (0, [.ref A_t_board_numbers, .ref A_t_board_owners, .ref A_t_board_cells])), (A_t_board_numbers, .inl (cI, 10, .inl V_t_board_numbers)), (A_t_board_cells, .inl (cI, 63, .inl V_t_board_cells)), (A_t_counts, .inl (cI, 9, .inl f2)), (A_t_strength, .inl (cI, 9, .inl f3))] H := hP
  replace hD : va_D A [(A_t_reason, .inl (cI, 9, .inl V_t_reason)), (A_t_cut, .inl (cI, 9, .inl f1)), (A_t, .inr (2, [.ref A_t_board, .ref A_t_cut, .ref A_t_counts, .ref A_t_strength, .ref A_t_reason, .ref A_t_driver, .ref A_t_waits, .ref A_t_stands])), (A_t_board, .inr (0, [.ref A_t_board_numbers, .ref A_t_board_owners, .ref A_t_board_cells])), (A_t_board_numbers, .inl (cI, 10, .inl V_t_board_numbers)), (A_t_board_cells, .inl (cI, 63, .inl V_t_board_cells)), (A_t_counts, .inl (cI, 9, .inl f2)), (A_t_strength, .inl (cI, 9, .inl f3))] := hD
  refine lv_aload_n hx hb dX2_decideMoves_8 rfl (lv_at hl 0 rfl) ?_
  obtain ⟨f4, hq, hg⟩ := bind_ex hg
  refine callWVv (As := []) (rest := []) (wr := [(A_t_cut, .inl (cI, 9, .inl f1)), (A_t_counts, .inl (cI, 9, .inl f2))]) S hK hP hD hS hA (c_X2_failAgainstMoves l D cI cZ cB cJ A_t A_t_board A_t_cut A_t_counts A_t_strength A_t_reason A_t_driver A_t_waits A_t_stands A_t_board_numbers A_t_board_owners A_t_board_cells _ V_t_board_numbers V_t_board_cells f3 V_t_reason f4 hq) [2, 3, 4, 5, 7, 0] [1, 6] rfl rfl (by decide +kernel) (by decide +kernel) (by decide +kernel) (cwV 0 hts gX2_decideMoves_X2_failAgainstMoves rfl rfl rfl hd_X2_failAgainstMoves ⟨Nat.le_of_ble_eq_true rfl, Nat.le_of_ble_eq_true rfl⟩) rfl rfl rfl hl.1 rfl (Nat.le_of_ble_eq_true rfl) dX2_decideMoves_9 ⟨Nat.zero_le _, Nat.zero_le _⟩ (fun H locs hP hD hS => ?_)
  replace hP : va_P D vwCl [(A_t_cut, .inl (cI, 9, .inl f1)), (A_t_counts, .inl (cI, 9, .inl f2)), (A_t, .inr (2, [.ref A_t_board, .ref A_t_cut, .ref A_t_counts, .ref A_t_strength, .ref A_t_reason, .ref A_t_driver, .ref A_t_waits, .ref A_t_stands])), (A_t_board, .inr (0, [.ref A_t_board_numbers, .ref A_t_board_owners, .ref A_t_board_cells])), (A_t_board_numbers, .inl (cI, 10, .inl V_t_board_numbers)), (A_t_board_cells, .inl (cI, 63, .inl V_t_board_cells)), (A_t_strength, .inl (cI, 9, .inl f3)), (A_t_reason, .inl (cI, 9, .inl f4))] H := hP
  replace hD : va_D A [(A_t_cut, .inl (cI, 9, .inl f1)), (A_t_counts, .inl (cI, 9, .inl f2)), (A_t, .inr (2, [.ref A_t_board, .ref A_t_cut, .ref A_t_counts, .ref A_t_strength, .ref A_t_reason, .ref A_t_driver, .ref A_t_waits, .ref A_t_stands])), (A_t_board, .inr (0, [.ref A_t_board_numbers, .ref A_t_board_owners, .ref A_t_board_cells])), (A_t_board_numbers, .inl (cI, 10, .inl V_t_board_numbers)), (A_t_board_cells, .inl (cI, 63, .inl V_t_board_cells)), (A_t_strength, .inl (cI, 9, .inl f3)), (A_t_reason, .inl (cI, 9, .inl f4))] := hD
  refine lv_aload_n hx hb dX2_decideMoves_12 rfl (lv_at hl 0 rfl) ?_
  obtain ⟨f5, hq, hg⟩ := bind_ex hg
  refine callWVv (As := []) (rest := []) (wr := [(A_t_cut, .inl (cI, 9, .inl f1)), (A_t_counts, .inl (cI, 9, .inl f2))]) S hK hP hD hS hA (c_X2_failAgainstArmies l D cI cZ cB cJ A_t A_t_board A_t_cut A_t_counts A_t_strength A_t_reason A_t_driver A_t_waits A_t_stands A_t_board_numbers A_t_board_owners A_t_board_cells _ V_t_board_numbers V_t_board_cells f4 f3 f5 hq) [2, 3, 4, 5, 7, 6] [0, 1] rfl rfl (by decide +kernel) (by decide +kernel) (by decide +kernel) (cwV 0 hts gX2_decideMoves_X2_failAgainstArmies rfl rfl rfl hd_X2_failAgainstArmies ⟨Nat.le_of_ble_eq_true rfl, Nat.le_of_ble_eq_true rfl⟩) rfl rfl rfl hl.1 rfl (Nat.le_of_ble_eq_true rfl) dX2_decideMoves_13 ⟨Nat.zero_le _, Nat.zero_le _⟩ (fun H locs hP hD hS => ?_)
  replace hP : va_P D vwCl [(A_t_cut, .inl (cI, 9, .inl f1)), (A_t_counts, .inl (cI, 9, .inl f2)), (A_t, .inr (2, [.ref A_t_board, .ref A_t_cut, .ref A_t_counts, .ref A_t_strength, .ref A_t_reason, .ref A_t_driver, .ref A_t_waits, .ref A_t_stands])), (A_t_board, .inr (0, [.ref A_t_board_numbers, .ref A_t_board_owners, .ref A_t_board_cells])), (A_t_board_numbers, .inl (cI, 10, .inl V_t_board_numbers)), (A_t_board_cells, .inl (cI, 63, .inl V_t_board_cells)), (A_t_reason, .inl (cI, 9, .inl f5)), (A_t_strength, .inl (cI, 9, .inl f3))] H := hP
  replace hD : va_D A [(A_t_cut, .inl (cI, 9, .inl f1)), (A_t_counts, .inl (cI, 9, .inl f2)), (A_t, .inr (2, [.ref A_t_board, .ref A_t_cut, .ref A_t_counts, .ref A_t_strength, .ref A_t_reason, .ref A_t_driver, .ref A_t_waits, .ref A_t_stands])), (A_t_board, .inr (0, [.ref A_t_board_numbers, .ref A_t_board_owners, .ref A_t_board_cells])), (A_t_board_numbers, .inl (cI, 10, .inl V_t_board_numbers)), (A_t_board_cells, .inl (cI, 63, .inl V_t_board_cells)), (A_t_reason, .inl (cI, 9, .inl f5)), (A_t_strength, .inl (cI, 9, .inl f3))] := hD
  cases hg
  exact fin _ _ _ _ dX2_decideMoves_16 (hP.sub [2, 3, 4, 5, 0, 1, 7, 6] rfl) (hD.sub [2, 3, 4, 5, 0, 1, 7, 6] (by decide) rfl) hS
theorem hd_X2_comerTo : yX2_comerTo.cls = RX2 ∧ yX2_comerTo.cls ≠ "java/lang/invoke/MethodHandle" ∧ yX2_comerTo.cls ≠ "java/lang/invoke/VarHandle" ∧ (parseMethodDescriptor yX2_comerTo.desc).map (fun d => d.parameters.length) = some 1 := by decide +kernel
theorem in_X2_comerTo_X2 : ∀ w ∈ u_ws RX2 TX2 8, w ∈ wsX2_comerTo := fun _ h => List.mem_cons_of_mem _ (List.mem_append_left _ (List.mem_append_right _ h))
theorem wd_X2_comerTo_1 : Cond.fieldLink RX2 12 "FogOrders$Opening" "board" "LFogOrders$Board;" ∈ wsX2_comerTo := List.mem_of_getElem? (i := 1) rfl
abbrev rX2_comerTo : Room := { frames := 2, cells := 0, slots := 0, locals := 44 }
set_option maxHeartbeats 4000000 in
set_option maxRecDepth 100000 in
theorem c_X2_comerTo (l : Launch) (D : va_G) (cI cZ cB cJ : ClassId) (A_t : Nat) (A_t_board : Nat) (A_t_cut : Nat) (A_t_counts : Nat) (A_t_strength : Nat) (A_t_reason : Nat) (A_t_driver : Nat) (A_t_waits : Nat) (A_t_stands : Nat) (A_t_board_numbers : Nat) (A_t_board_owners : Nat) (A_t_board_cells : Nat) (V_t_board_numbers : Nat → Int32) (V_t_board_cells : Nat → Int32) (V_t_reason : Nat → Int32) (x1 : Int32) (r0 : Int32) (hg : g_X2_comerTo V_t_board_numbers V_t_board_cells V_t_reason x1 = some r0) : Met l yX2_comerTo wsX2_comerTo rX2_comerTo (PcR D cI cZ cB cJ [(A_t, .inr (2, [.ref A_t_board, .ref A_t_cut, .ref A_t_counts, .ref A_t_strength, .ref A_t_reason, .ref A_t_driver, .ref A_t_waits, .ref A_t_stands])), (A_t_board, .inr (0, [.ref A_t_board_numbers, .ref A_t_board_owners, .ref A_t_board_cells])), (A_t_board_numbers, .inl (cI, 10, .inl V_t_board_numbers)), (A_t_board_cells, .inl (cI, 63, .inl V_t_board_cells)), (A_t_reason, .inl (cI, 9, .inl V_t_reason))] [.ref A_t, .int x1]) (vp_Si (fun r' => r' = r0 ∧ True)) 0 0 (fun _ => False) := by
  refine bodyRi (cc := cX2_comerTo) (maxL := 3) (lv := [(0, .ref A_t), (1, .int x1)]) (by decide) rfl (Nat.le_of_ble_eq_true rfl) rfl ?_
  intro p e s m args below meth c Q hx hb hml hown hts hP hK fin ls hl
  replace hown : s.vm.findClass RX2 = some m.cls := hown
  have S : CallFix p m c cX2_comerTo 3 s args wsX2_comerTo RX2 := ⟨hx, hb, hml, hown, hts⟩
  unfold g_X2_comerTo at hg
  refine lv_iconst (v := 0) hx hb dX2_comerTo_0 (by decide) ?_
  refine lv_istore_n (lv' := [(2, .int 0), (0, .ref A_t), (1, .int x1)]) hx hb dX2_comerTo_1 rfl hl (by decide) rfl (fun ls hl => ?_)
  have L : ∀ (nf : Nat) (v1 : Int32), ∀ ls : Array Slot, lv_has ls 3 [(2, .int v1), (0, .ref A_t), (1, .int x1)] → g_X2_comerTo_L1 V_t_board_numbers V_t_board_cells V_t_reason x1 nf v1 = some r0 → W p l e rX2_comerTo s m args below meth c s.heap [] 0 0 Q (F0 m 2 ls []) := by
    intro nf
    induction nf with
    | zero =>
      intro v1 ls hl hg
      exact no_some hg
    | succ nf ih =>
      intro v1 ls hl hg
      rw [g_X2_comerTo_L1] at hg
      refine lv_iload_n hx hb dX2_comerTo_2 rfl (lv_at hl 0 rfl) ?_
      refine lv_aload_n hx hb dX2_comerTo_3 rfl (lv_at hl 1 rfl) ?_
      refine xget (ci := 2) (C := RX2) (T := TX2) (N := 8) (v := .ref A_t_board) hx hb hts in_X2_comerTo_X2 hown hK hP 0 rfl rfl 0 (by decide) wd_X2_comerTo_1 rfl dX2_comerTo_4 ?_
      refine lv_iconst (v := 0) hx hb dX2_comerTo_7 (by decide) ?_
      obtain ⟨v2, hq, hg⟩ := bind_ex hg
      refine callRVi (As := [.int 0]) (rest := [.int v1]) S hK hP (c_X0_number l D cI cZ cB cJ A_t_board A_t_board_numbers A_t_board_owners A_t_board_cells V_t_board_numbers 0 v2 hq) [1, 2] rfl (cwV 1 hts gX2_comerTo_X0_number rfl rfl rfl hd_X0_number ⟨Nat.le_of_ble_eq_true rfl, Nat.le_of_ble_eq_true rfl⟩) rfl rfl rfl hl.1 rfl (Nat.le_of_ble_eq_true rfl) dX2_comerTo_8 ⟨Nat.zero_le _, Nat.zero_le _⟩ ?_
      refine lv_icmp_ge (tgt := 43) hx hb dX2_comerTo_11 (by decide) (fun hc => ?_) (fun hc => ?_)
      · replace hg := if_yes hg hc
        refine lv_iconst (v := (-1)) hx hb dX2_comerTo_43 (by decide) ?_
        cases hg
        exact fin _ _ dX2_comerTo_44
      · replace hg := if_no hg hc
        refine lv_aload_n hx hb dX2_comerTo_14 rfl (lv_at hl 1 rfl) ?_
        refine lv_iload_n hx hb dX2_comerTo_15 rfl (lv_at hl 0 rfl) ?_
        obtain ⟨v3, hq, hg⟩ := bind_ex hg
        refine callRVz (As := [.int v1]) (rest := []) S hK hP (c_X2_goes l D cI cZ cB cJ A_t A_t_board A_t_cut A_t_counts A_t_strength A_t_reason A_t_driver A_t_waits A_t_stands A_t_board_numbers A_t_board_owners A_t_board_cells V_t_board_cells V_t_reason v1 v3 hq) [0, 1, 3, 4] rfl (cwV 1 hts gX2_comerTo_X2_goes rfl rfl rfl hd_X2_goes ⟨Nat.le_of_ble_eq_true rfl, Nat.le_of_ble_eq_true rfl⟩) rfl rfl rfl hl.1 rfl (Nat.le_of_ble_eq_true rfl) dX2_comerTo_16 ⟨Nat.zero_le _, Nat.zero_le _⟩ (fun hz_v3 => ?_)
        refine lv_if_eq (tgt := 37) hx hb dX2_comerTo_19 (by decide) (fun hc => ?_) (fun hc => ?_)
        · replace hg := if_yes hg hc
          refine lv_iinc (v := (v1 + 1)) (lv' := [(2, .int (v1 + 1)), (0, .ref A_t), (1, .int x1)]) hx hb dX2_comerTo_37 hl (k := 0) rfl rfl (by decide) rfl (fun ls hl => ?_)
          refine lv_goto (tgt := 2) hx hb dX2_comerTo_40 (by decide) ?_
          exact ih _ _ (lv_sub hl [0, 1, 2] rfl) hg
        · replace hg := if_no hg hc
          refine lv_aload_n hx hb dX2_comerTo_22 rfl (lv_at hl 1 rfl) ?_
          refine xget (ci := 2) (C := RX2) (T := TX2) (N := 8) (v := .ref A_t_board) hx hb hts in_X2_comerTo_X2 hown hK hP 0 rfl rfl 0 (by decide) wd_X2_comerTo_1 rfl dX2_comerTo_23 ?_
          refine lv_iload_n hx hb dX2_comerTo_26 rfl (lv_at hl 0 rfl) ?_
          refine lv_iconst (v := 3) hx hb dX2_comerTo_27 (by decide) ?_
          obtain ⟨v4, hq, hg⟩ := bind_ex hg
          refine callRVi (As := [.int v1, .int 3]) (rest := []) S hK hP (c_X0_of l D cI cZ cB cJ A_t_board A_t_board_numbers A_t_board_owners A_t_board_cells V_t_board_cells v1 3 v4 hq) [1, 3] rfl (cwV 2 hts gX2_comerTo_X0_of rfl rfl rfl hd_X0_of ⟨Nat.le_of_ble_eq_true rfl, Nat.le_of_ble_eq_true rfl⟩) rfl rfl rfl hl.1 rfl (Nat.le_of_ble_eq_true rfl) dX2_comerTo_28 ⟨Nat.zero_le _, Nat.zero_le _⟩ ?_
          refine lv_iload_n hx hb dX2_comerTo_31 rfl (lv_at hl 2 rfl) ?_
          refine lv_icmp_ne (tgt := 37) hx hb dX2_comerTo_32 (by decide) (fun hc => ?_) (fun hc => ?_)
          · replace hg := if_no hg hc
            refine lv_iinc (v := (v1 + 1)) (lv' := [(2, .int (v1 + 1)), (0, .ref A_t), (1, .int x1)]) hx hb dX2_comerTo_37 hl (k := 0) rfl rfl (by decide) rfl (fun ls hl => ?_)
            refine lv_goto (tgt := 2) hx hb dX2_comerTo_40 (by decide) ?_
            exact ih _ _ (lv_sub hl [0, 1, 2] rfl) hg
          · replace hg := if_yes hg hc
            refine lv_iload_n hx hb dX2_comerTo_35 rfl (lv_at hl 0 rfl) ?_
            cases hg
            exact fin _ _ dX2_comerTo_36
  exact L FU _ _ (lv_sub hl [0, 1, 2] rfl) hg
theorem hd_X2_comeToFields : yX2_comeToFields.cls = RX2 ∧ yX2_comeToFields.cls ≠ "java/lang/invoke/MethodHandle" ∧ yX2_comeToFields.cls ≠ "java/lang/invoke/VarHandle" ∧ (parseMethodDescriptor yX2_comeToFields.desc).map (fun d => d.parameters.length) = some 0 := by decide +kernel
theorem in_X2_comeToFields_X2 : ∀ w ∈ u_ws RX2 TX2 8, w ∈ wsX2_comeToFields := fun _ h => List.mem_cons_of_mem _ (List.mem_append_left _ (List.mem_append_right _ h))
theorem wd_X2_comeToFields_1 : Cond.fieldLink RX2 12 "FogOrders$Opening" "board" "LFogOrders$Board;" ∈ wsX2_comeToFields := List.mem_of_getElem? (i := 1) rfl
theorem wd_X2_comeToFields_2 : Cond.fieldLink RX2 31 "FogOrders$Opening" "driver" "[I" ∈ wsX2_comeToFields := List.mem_of_getElem? (i := 2) rfl
theorem wd_X2_comeToFields_23 : Cond.initialized RX4 ∈ wsX2_comeToFields := List.mem_of_getElem? (i := 23) rfl
theorem wd_X2_comeToFields_29 : Cond.static yX4_enter ∈ wsX2_comeToFields := List.mem_of_getElem? (i := 29) rfl
theorem wd_X2_comeToFields_3 : Cond.fieldLink RX2 34 "FogOrders$Opening" "waits" "[I" ∈ wsX2_comeToFields := List.mem_of_getElem? (i := 3) rfl
theorem wd_X2_comeToFields_4 : Cond.fieldLink RX2 37 "FogOrders$Opening" "stands" "[I" ∈ wsX2_comeToFields := List.mem_of_getElem? (i := 4) rfl
abbrev rX2_comeToFields : Room := { frames := 3, cells := 0, slots := 0, locals := 66 }
set_option maxHeartbeats 4000000 in
set_option maxRecDepth 100000 in
theorem c_X2_comeToFields (l : Launch) (D : va_G) (cI cZ cB cJ : ClassId) (A_t : Nat) (A_t_board : Nat) (A_t_cut : Nat) (A_t_counts : Nat) (A_t_strength : Nat) (A_t_reason : Nat) (A_t_driver : Nat) (A_t_waits : Nat) (A_t_stands : Nat) (A_t_board_numbers : Nat) (A_t_board_owners : Nat) (A_t_board_cells : Nat) (sz : Nat) (V_t_board_numbers : Nat → Int32) (V_t_board_cells : Nat → Int32) (V_t_reason : Nat → Int32) (V_t_driver : Nat → Int32) (V_t_waits : Nat → Int32) (V_t_stands : Nat → Int32) (w1 : Nat → Int32) (w2 : Nat → Int32) (w3 : Nat → Int32) (hg : g_X2_comeToFields V_t_board_numbers V_t_board_cells V_t_reason V_t_driver V_t_waits V_t_stands = some (w1, w2, w3)) : Met l yX2_comeToFields wsX2_comeToFields rX2_comeToFields (PcW D cI cZ cB cJ sz [(A_t, .inr (2, [.ref A_t_board, .ref A_t_cut, .ref A_t_counts, .ref A_t_strength, .ref A_t_reason, .ref A_t_driver, .ref A_t_waits, .ref A_t_stands])), (A_t_board, .inr (0, [.ref A_t_board_numbers, .ref A_t_board_owners, .ref A_t_board_cells])), (A_t_board_numbers, .inl (cI, 10, .inl V_t_board_numbers)), (A_t_board_cells, .inl (cI, 63, .inl V_t_board_cells)), (A_t_reason, .inl (cI, 9, .inl V_t_reason)), (A_t_driver, .inl (cI, 9, .inl V_t_driver)), (A_t_waits, .inl (cI, 9, .inl V_t_waits)), (A_t_stands, .inl (cI, 9, .inl V_t_stands))] [.ref A_t]) (QWv D cI cZ cB cJ sz [(A_t, .inr (2, [.ref A_t_board, .ref A_t_cut, .ref A_t_counts, .ref A_t_strength, .ref A_t_reason, .ref A_t_driver, .ref A_t_waits, .ref A_t_stands])), (A_t_board, .inr (0, [.ref A_t_board_numbers, .ref A_t_board_owners, .ref A_t_board_cells])), (A_t_board_numbers, .inl (cI, 10, .inl V_t_board_numbers)), (A_t_board_cells, .inl (cI, 63, .inl V_t_board_cells)), (A_t_reason, .inl (cI, 9, .inl V_t_reason)), (A_t_driver, .inl (cI, 9, .inl V_t_driver)), (A_t_waits, .inl (cI, 9, .inl V_t_waits)), (A_t_stands, .inl (cI, 9, .inl V_t_stands))] [(A_t, .inr (2, [.ref A_t_board, .ref A_t_cut, .ref A_t_counts, .ref A_t_strength, .ref A_t_reason, .ref A_t_driver, .ref A_t_waits, .ref A_t_stands])), (A_t_board, .inr (0, [.ref A_t_board_numbers, .ref A_t_board_owners, .ref A_t_board_cells])), (A_t_board_numbers, .inl (cI, 10, .inl V_t_board_numbers)), (A_t_board_cells, .inl (cI, 63, .inl V_t_board_cells)), (A_t_reason, .inl (cI, 9, .inl V_t_reason)), (A_t_driver, .inl (cI, 9, .inl w1)), (A_t_waits, .inl (cI, 9, .inl w2)), (A_t_stands, .inl (cI, 9, .inl w3))]) 0 0 (va_A [(A_t, .inr (2, [.ref A_t_board, .ref A_t_cut, .ref A_t_counts, .ref A_t_strength, .ref A_t_reason, .ref A_t_driver, .ref A_t_waits, .ref A_t_stands])), (A_t_board, .inr (0, [.ref A_t_board_numbers, .ref A_t_board_owners, .ref A_t_board_cells])), (A_t_board_numbers, .inl (cI, 10, .inl V_t_board_numbers)), (A_t_board_cells, .inl (cI, 63, .inl V_t_board_cells)), (A_t_reason, .inl (cI, 9, .inl V_t_reason)), (A_t_driver, .inl (cI, 9, .inl V_t_driver)), (A_t_waits, .inl (cI, 9, .inl V_t_waits)), (A_t_stands, .inl (cI, 9, .inl V_t_stands))] sz) := by
  refine bodyWv (cc := cX2_comeToFields) (maxL := 4) (lv := [(0, .ref A_t)]) (by decide) rfl (Nat.le_of_ble_eq_true rfl) rfl ?_
  intro p e s m args below meth c Q hx hb hml hown hts A hP hK hD hA hS fin ls hl
  replace hown : s.vm.findClass RX2 = some m.cls := hown
  have S : CallFix p m c cX2_comeToFields 4 s args wsX2_comeToFields RX2 := ⟨hx, hb, hml, hown, hts⟩
  unfold g_X2_comeToFields at hg
  refine lv_iconst (v := 0) hx hb dX2_comeToFields_0 (by decide) ?_
  refine lv_istore_n (lv' := [(1, .int 0), (0, .ref A_t)]) hx hb dX2_comeToFields_1 rfl hl (by decide) rfl (fun ls hl => ?_)
  obtain ⟨f19, f20, f21, hL, hg⟩ := b3_ex hg
  have kx : ∀ (H : Heap) (locs : List Loc), va_P D vwCl [(A_t, .inr (2, [.ref A_t_board, .ref A_t_cut, .ref A_t_counts, .ref A_t_strength, .ref A_t_reason, .ref A_t_driver, .ref A_t_waits, .ref A_t_stands])), (A_t_board, .inr (0, [.ref A_t_board_numbers, .ref A_t_board_owners, .ref A_t_board_cells])), (A_t_board_numbers, .inl (cI, 10, .inl V_t_board_numbers)), (A_t_board_cells, .inl (cI, 63, .inl V_t_board_cells)), (A_t_reason, .inl (cI, 9, .inl V_t_reason)), (A_t_driver, .inl (cI, 9, .inl f19)), (A_t_waits, .inl (cI, 9, .inl f21)), (A_t_stands, .inl (cI, 9, .inl f20))] H → va_D A [(A_t, .inr (2, [.ref A_t_board, .ref A_t_cut, .ref A_t_counts, .ref A_t_strength, .ref A_t_reason, .ref A_t_driver, .ref A_t_waits, .ref A_t_stands])), (A_t_board, .inr (0, [.ref A_t_board_numbers, .ref A_t_board_owners, .ref A_t_board_cells])), (A_t_board_numbers, .inl (cI, 10, .inl V_t_board_numbers)), (A_t_board_cells, .inl (cI, 63, .inl V_t_board_cells)), (A_t_reason, .inl (cI, 9, .inl V_t_reason)), (A_t_driver, .inl (cI, 9, .inl f19)), (A_t_waits, .inl (cI, 9, .inl f21)), (A_t_stands, .inl (cI, 9, .inl f20))] → va_S A s.heap H locs → ∀ ls : Array Slot, lv_has ls 4 [] → W p l e rX2_comeToFields s m args below meth c H locs 0 0 Q (F0 m 121 ls []) := by
    intro H locs hP hD hS ls hl
    cases hg
    exact fin _ _ _ _ dX2_comeToFields_121 hP hD hS
  have L : ∀ (nf : Nat) (v1 : Int32) (f2 : Nat → Int32) (f3 : Nat → Int32) (f4 : Nat → Int32), ∀ (H : Heap) (locs : List Loc), va_P D vwCl [(A_t, .inr (2, [.ref A_t_board, .ref A_t_cut, .ref A_t_counts, .ref A_t_strength, .ref A_t_reason, .ref A_t_driver, .ref A_t_waits, .ref A_t_stands])), (A_t_board, .inr (0, [.ref A_t_board_numbers, .ref A_t_board_owners, .ref A_t_board_cells])), (A_t_board_numbers, .inl (cI, 10, .inl V_t_board_numbers)), (A_t_board_cells, .inl (cI, 63, .inl V_t_board_cells)), (A_t_reason, .inl (cI, 9, .inl V_t_reason)), (A_t_driver, .inl (cI, 9, .inl f2)), (A_t_waits, .inl (cI, 9, .inl f4)), (A_t_stands, .inl (cI, 9, .inl f3))] H → va_D A [(A_t, .inr (2, [.ref A_t_board, .ref A_t_cut, .ref A_t_counts, .ref A_t_strength, .ref A_t_reason, .ref A_t_driver, .ref A_t_waits, .ref A_t_stands])), (A_t_board, .inr (0, [.ref A_t_board_numbers, .ref A_t_board_owners, .ref A_t_board_cells])), (A_t_board_numbers, .inl (cI, 10, .inl V_t_board_numbers)), (A_t_board_cells, .inl (cI, 63, .inl V_t_board_cells)), (A_t_reason, .inl (cI, 9, .inl V_t_reason)), (A_t_driver, .inl (cI, 9, .inl f2)), (A_t_waits, .inl (cI, 9, .inl f4)), (A_t_stands, .inl (cI, 9, .inl f3))] → va_S A s.heap H locs → ∀ ls : Array Slot, lv_has ls 4 [(1, .int v1), (0, .ref A_t)] → g_X2_comeToFields_L1 V_t_board_numbers V_t_board_cells V_t_reason nf v1 f2 f3 f4 = some (f19, f20, f21) → W p l e rX2_comeToFields s m args below meth c H locs 0 0 Q (F0 m 2 ls []) := by
    intro nf
    induction nf with
    | zero =>
      intro v1 f2 f3 f4 H locs hP hD hS ls hl hg
      exact no_some hg
    | succ nf ih =>
      intro v1 f2 f3 f4 H locs hP hD hS ls hl hg
      rw [g_X2_comeToFields_L1] at hg
      refine lv_iload_n hx hb dX2_comeToFields_2 rfl (lv_at hl 0 rfl) ?_
      refine lv_aload_n hx hb dX2_comeToFields_3 rfl (lv_at hl 1 rfl) ?_
      refine xget (ci := 2) (C := RX2) (T := TX2) (N := 8) (v := .ref A_t_board) hx hb hts in_X2_comeToFields_X2 hown hK hP 0 rfl rfl 0 (by decide) wd_X2_comeToFields_1 rfl dX2_comeToFields_4 ?_
      refine lv_iconst (v := 0) hx hb dX2_comeToFields_7 (by decide) ?_
      obtain ⟨v5, hq, hg⟩ := bind_ex hg
      refine callRVi (As := [.int 0]) (rest := [.int v1]) S hK hP (c_X0_number l D cI cZ cB cJ A_t_board A_t_board_numbers A_t_board_owners A_t_board_cells V_t_board_numbers 0 v5 hq) [1, 2] rfl (cwV 1 hts gX2_comeToFields_X0_number rfl rfl rfl hd_X0_number ⟨Nat.le_of_ble_eq_true rfl, Nat.le_of_ble_eq_true rfl⟩) rfl rfl rfl hl.1 rfl (Nat.le_of_ble_eq_true rfl) dX2_comeToFields_8 ⟨Nat.zero_le _, Nat.zero_le _⟩ ?_
      refine lv_icmp_ge (tgt := 121) hx hb dX2_comeToFields_11 (by decide) (fun hc => ?_) (fun hc => ?_)
      · replace hg := if_yes hg hc
        cases hg
        exact kx _ _ hP hD hS _ (lv_sub hl [] rfl)
      · replace hg := if_no hg hc
        refine lv_aload_n hx hb dX2_comeToFields_14 rfl (lv_at hl 1 rfl) ?_
        refine lv_iload_n hx hb dX2_comeToFields_15 rfl (lv_at hl 0 rfl) ?_
        obtain ⟨v6, hq, hg⟩ := bind_ex hg
        refine callRVz (As := [.int v1]) (rest := []) S hK hP (c_X2_goes l D cI cZ cB cJ A_t A_t_board A_t_cut A_t_counts A_t_strength A_t_reason A_t_driver A_t_waits A_t_stands A_t_board_numbers A_t_board_owners A_t_board_cells V_t_board_cells V_t_reason v1 v6 hq) [0, 1, 3, 4] rfl (cwV 1 hts gX2_comeToFields_X2_goes rfl rfl rfl hd_X2_goes ⟨Nat.le_of_ble_eq_true rfl, Nat.le_of_ble_eq_true rfl⟩) rfl rfl rfl hl.1 rfl (Nat.le_of_ble_eq_true rfl) dX2_comeToFields_16 ⟨Nat.zero_le _, Nat.zero_le _⟩ (fun hz_v6 => ?_)
        have hJ1 : ∀ (v9 : Int32), ∀ (H : Heap) (locs : List Loc), va_P D vwCl [(A_t, .inr (2, [.ref A_t_board, .ref A_t_cut, .ref A_t_counts, .ref A_t_strength, .ref A_t_reason, .ref A_t_driver, .ref A_t_waits, .ref A_t_stands])), (A_t_board, .inr (0, [.ref A_t_board_numbers, .ref A_t_board_owners, .ref A_t_board_cells])), (A_t_board_numbers, .inl (cI, 10, .inl V_t_board_numbers)), (A_t_board_cells, .inl (cI, 63, .inl V_t_board_cells)), (A_t_reason, .inl (cI, 9, .inl V_t_reason)), (A_t_driver, .inl (cI, 9, .inl f2)), (A_t_waits, .inl (cI, 9, .inl f4)), (A_t_stands, .inl (cI, 9, .inl f3))] H → va_D A [(A_t, .inr (2, [.ref A_t_board, .ref A_t_cut, .ref A_t_counts, .ref A_t_strength, .ref A_t_reason, .ref A_t_driver, .ref A_t_waits, .ref A_t_stands])), (A_t_board, .inr (0, [.ref A_t_board_numbers, .ref A_t_board_owners, .ref A_t_board_cells])), (A_t_board_numbers, .inl (cI, 10, .inl V_t_board_numbers)), (A_t_board_cells, .inl (cI, 63, .inl V_t_board_cells)), (A_t_reason, .inl (cI, 9, .inl V_t_reason)), (A_t_driver, .inl (cI, 9, .inl f2)), (A_t_waits, .inl (cI, 9, .inl f4)), (A_t_stands, .inl (cI, 9, .inl f3))] → va_S A s.heap H locs → ∀ ls : Array Slot, lv_has ls 4 [(1, .int v1), (0, .ref A_t)] → g_X2_comeToFields_J1 f2 v1 f4 V_t_board_cells V_t_reason f3 (g_X2_comeToFields_L1 V_t_board_numbers V_t_board_cells V_t_reason nf) v9 = some (f19, f20, f21) → W p l e rX2_comeToFields s m args below meth c H locs 0 0 Q (F0 m 39 ls [.int v9]) := by
          intro v9 H locs hP hD hS ls hl hg
          unfold g_X2_comeToFields_J1 at hg
          refine lv_istore_n (lv' := [(2, .int v9), (1, .int v1), (0, .ref A_t)]) hx hb dX2_comeToFields_39 rfl hl (by decide) rfl (fun ls hl => ?_)
          refine lv_aload_n hx hb dX2_comeToFields_40 rfl (lv_at hl 2 rfl) ?_
          refine xget (ci := 2) (C := RX2) (T := TX2) (N := 8) (v := .ref A_t_driver) hx hb hts in_X2_comeToFields_X2 hown hK hP 0 rfl rfl 5 (by decide) wd_X2_comeToFields_2 rfl dX2_comeToFields_41 ?_
          refine lv_iload_n hx hb dX2_comeToFields_44 rfl (lv_at hl 1 rfl) ?_
          refine lv_iload_n hx hb dX2_comeToFields_45 rfl (lv_at hl 0 rfl) ?_
          obtain ⟨f10, hq, hg⟩ := bind_ex hg
          refine callWNv (As := [.ref A_t_driver, .int v1, .int v9]) (rest := []) (wr := [(A_t, .inr (2, [.ref A_t_board, .ref A_t_cut, .ref A_t_counts, .ref A_t_strength, .ref A_t_reason, .ref A_t_driver, .ref A_t_waits, .ref A_t_stands])), (A_t_board, .inr (0, [.ref A_t_board_numbers, .ref A_t_board_owners, .ref A_t_board_cells])), (A_t_board_numbers, .inl (cI, 10, .inl V_t_board_numbers)), (A_t_board_cells, .inl (cI, 63, .inl V_t_board_cells)), (A_t_reason, .inl (cI, 9, .inl V_t_reason)), (A_t_waits, .inl (cI, 9, .inl f4)), (A_t_stands, .inl (cI, 9, .inl f3))]) S hK hP hD hS hA (c_X4_enter l D cI cZ cB cJ A_t_driver 9 _ f2 v1 v9 f10 hq) [5] [0, 1, 2, 3, 4, 6, 7] rfl rfl (by decide +kernel) (by decide +kernel) (by decide +kernel) ⟨va_cnB 3 hts gX2_comeToFields_X4_enter_n76 rfl rfl rfl (hK.2 _ (List.mem_of_getElem? (i := 7) rfl)) (hts _ wd_X2_comeToFields_23) hd_X4_enter ⟨Nat.le_of_ble_eq_true rfl, Nat.le_of_ble_eq_true rfl⟩, hts _ wd_X2_comeToFields_29, trivial⟩ rfl hl.1 rfl (Nat.le_of_ble_eq_true rfl) dX2_comeToFields_46 ⟨Nat.zero_le _, Nat.zero_le _⟩ (fun H locs hP hD hS => ?_)
          replace hP : va_P D vwCl [(A_t, .inr (2, [.ref A_t_board, .ref A_t_cut, .ref A_t_counts, .ref A_t_strength, .ref A_t_reason, .ref A_t_driver, .ref A_t_waits, .ref A_t_stands])), (A_t_board, .inr (0, [.ref A_t_board_numbers, .ref A_t_board_owners, .ref A_t_board_cells])), (A_t_board_numbers, .inl (cI, 10, .inl V_t_board_numbers)), (A_t_board_cells, .inl (cI, 63, .inl V_t_board_cells)), (A_t_reason, .inl (cI, 9, .inl V_t_reason)), (A_t_waits, .inl (cI, 9, .inl f4)), (A_t_stands, .inl (cI, 9, .inl f3)), (A_t_driver, .inl (cI, 9, .inl f10))] H := hP
          replace hD : va_D A [(A_t, .inr (2, [.ref A_t_board, .ref A_t_cut, .ref A_t_counts, .ref A_t_strength, .ref A_t_reason, .ref A_t_driver, .ref A_t_waits, .ref A_t_stands])), (A_t_board, .inr (0, [.ref A_t_board_numbers, .ref A_t_board_owners, .ref A_t_board_cells])), (A_t_board_numbers, .inl (cI, 10, .inl V_t_board_numbers)), (A_t_board_cells, .inl (cI, 63, .inl V_t_board_cells)), (A_t_reason, .inl (cI, 9, .inl V_t_reason)), (A_t_waits, .inl (cI, 9, .inl f4)), (A_t_stands, .inl (cI, 9, .inl f3)), (A_t_driver, .inl (cI, 9, .inl f10))] := hD
          refine lv_aload_n hx hb dX2_comeToFields_49 rfl (lv_at hl 2 rfl) ?_
          refine xget (ci := 2) (C := RX2) (T := TX2) (N := 8) (v := .ref A_t_waits) hx hb hts in_X2_comeToFields_X2 hown hK hP 0 rfl rfl 6 (by decide) wd_X2_comeToFields_3 rfl dX2_comeToFields_50 ?_
          refine lv_iload_n hx hb dX2_comeToFields_53 rfl (lv_at hl 1 rfl) ?_
          refine lv_iload_n hx hb dX2_comeToFields_54 rfl (lv_at hl 0 rfl) ?_
          refine lv_iconst (v := (-1)) hx hb dX2_comeToFields_55 (by decide) ?_
          have hJ2 : ∀ (v11 : Int32), bo v11 → ∀ (H : Heap) (locs : List Loc), va_P D vwCl [(A_t, .inr (2, [.ref A_t_board, .ref A_t_cut, .ref A_t_counts, .ref A_t_strength, .ref A_t_reason, .ref A_t_driver, .ref A_t_waits, .ref A_t_stands])), (A_t_board, .inr (0, [.ref A_t_board_numbers, .ref A_t_board_owners, .ref A_t_board_cells])), (A_t_board_numbers, .inl (cI, 10, .inl V_t_board_numbers)), (A_t_board_cells, .inl (cI, 63, .inl V_t_board_cells)), (A_t_reason, .inl (cI, 9, .inl V_t_reason)), (A_t_waits, .inl (cI, 9, .inl f4)), (A_t_stands, .inl (cI, 9, .inl f3)), (A_t_driver, .inl (cI, 9, .inl f10))] H → va_D A [(A_t, .inr (2, [.ref A_t_board, .ref A_t_cut, .ref A_t_counts, .ref A_t_strength, .ref A_t_reason, .ref A_t_driver, .ref A_t_waits, .ref A_t_stands])), (A_t_board, .inr (0, [.ref A_t_board_numbers, .ref A_t_board_owners, .ref A_t_board_cells])), (A_t_board_numbers, .inl (cI, 10, .inl V_t_board_numbers)), (A_t_board_cells, .inl (cI, 63, .inl V_t_board_cells)), (A_t_reason, .inl (cI, 9, .inl V_t_reason)), (A_t_waits, .inl (cI, 9, .inl f4)), (A_t_stands, .inl (cI, 9, .inl f3)), (A_t_driver, .inl (cI, 9, .inl f10))] → va_S A s.heap H locs → ∀ ls : Array Slot, lv_has ls 4 [(2, .int v9), (1, .int v1), (0, .ref A_t)] → g_X2_comeToFields_J2 f4 v1 V_t_board_cells V_t_reason v9 f3 f10 (g_X2_comeToFields_L1 V_t_board_numbers V_t_board_cells V_t_reason nf) v11 = some (f19, f20, f21) → W p l e rX2_comeToFields s m args below meth c H locs 0 0 Q (F0 m 64 ls [.int v11, .int v1, .ref A_t_waits]) := by
            intro v11 hz_v11 H locs hP hD hS ls hl hg
            unfold g_X2_comeToFields_J2 at hg
            obtain ⟨f12, hq, hg⟩ := bind_ex hg
            refine callWNv (As := [.ref A_t_waits, .int v1, .int v11]) (rest := []) (wr := [(A_t, .inr (2, [.ref A_t_board, .ref A_t_cut, .ref A_t_counts, .ref A_t_strength, .ref A_t_reason, .ref A_t_driver, .ref A_t_waits, .ref A_t_stands])), (A_t_board, .inr (0, [.ref A_t_board_numbers, .ref A_t_board_owners, .ref A_t_board_cells])), (A_t_board_numbers, .inl (cI, 10, .inl V_t_board_numbers)), (A_t_board_cells, .inl (cI, 63, .inl V_t_board_cells)), (A_t_reason, .inl (cI, 9, .inl V_t_reason)), (A_t_stands, .inl (cI, 9, .inl f3)), (A_t_driver, .inl (cI, 9, .inl f10))]) S hK hP hD hS hA (c_X4_enter l D cI cZ cB cJ A_t_waits 9 _ f4 v1 v11 f12 hq) [5] [0, 1, 2, 3, 4, 6, 7] rfl rfl (by decide +kernel) (by decide +kernel) (by decide +kernel) ⟨va_cnB 3 hts gX2_comeToFields_X4_enter_n76 rfl rfl rfl (hK.2 _ (List.mem_of_getElem? (i := 7) rfl)) (hts _ wd_X2_comeToFields_23) hd_X4_enter ⟨Nat.le_of_ble_eq_true rfl, Nat.le_of_ble_eq_true rfl⟩, hts _ wd_X2_comeToFields_29, trivial⟩ rfl hl.1 rfl (Nat.le_of_ble_eq_true rfl) dX2_comeToFields_64 ⟨Nat.zero_le _, Nat.zero_le _⟩ (fun H locs hP hD hS => ?_)
            replace hP : va_P D vwCl [(A_t, .inr (2, [.ref A_t_board, .ref A_t_cut, .ref A_t_counts, .ref A_t_strength, .ref A_t_reason, .ref A_t_driver, .ref A_t_waits, .ref A_t_stands])), (A_t_board, .inr (0, [.ref A_t_board_numbers, .ref A_t_board_owners, .ref A_t_board_cells])), (A_t_board_numbers, .inl (cI, 10, .inl V_t_board_numbers)), (A_t_board_cells, .inl (cI, 63, .inl V_t_board_cells)), (A_t_reason, .inl (cI, 9, .inl V_t_reason)), (A_t_stands, .inl (cI, 9, .inl f3)), (A_t_driver, .inl (cI, 9, .inl f10)), (A_t_waits, .inl (cI, 9, .inl f12))] H := hP
            replace hD : va_D A [(A_t, .inr (2, [.ref A_t_board, .ref A_t_cut, .ref A_t_counts, .ref A_t_strength, .ref A_t_reason, .ref A_t_driver, .ref A_t_waits, .ref A_t_stands])), (A_t_board, .inr (0, [.ref A_t_board_numbers, .ref A_t_board_owners, .ref A_t_board_cells])), (A_t_board_numbers, .inl (cI, 10, .inl V_t_board_numbers)), (A_t_board_cells, .inl (cI, 63, .inl V_t_board_cells)), (A_t_reason, .inl (cI, 9, .inl V_t_reason)), (A_t_stands, .inl (cI, 9, .inl f3)), (A_t_driver, .inl (cI, 9, .inl f10)), (A_t_waits, .inl (cI, 9, .inl f12))] := hD
            refine lv_aload_n hx hb dX2_comeToFields_67 rfl (lv_at hl 2 rfl) ?_
            refine lv_iload_n hx hb dX2_comeToFields_68 rfl (lv_at hl 1 rfl) ?_
            obtain ⟨v13, hq, hg⟩ := bind_ex hg
            refine callRVz (As := [.int v1]) (rest := []) S hK hP (c_X2_goes l D cI cZ cB cJ A_t A_t_board A_t_cut A_t_counts A_t_strength A_t_reason A_t_driver A_t_waits A_t_stands A_t_board_numbers A_t_board_owners A_t_board_cells V_t_board_cells V_t_reason v1 v13 hq) [0, 1, 3, 4] rfl (cwV 1 hts gX2_comeToFields_X2_goes rfl rfl rfl hd_X2_goes ⟨Nat.le_of_ble_eq_true rfl, Nat.le_of_ble_eq_true rfl⟩) rfl rfl rfl hl.1 rfl (Nat.le_of_ble_eq_true rfl) dX2_comeToFields_69 ⟨Nat.zero_le _, Nat.zero_le _⟩ (fun hz_v13 => ?_)
            have hJ3 : ∀ (v16 : Int32), ∀ (H : Heap) (locs : List Loc), va_P D vwCl [(A_t, .inr (2, [.ref A_t_board, .ref A_t_cut, .ref A_t_counts, .ref A_t_strength, .ref A_t_reason, .ref A_t_driver, .ref A_t_waits, .ref A_t_stands])), (A_t_board, .inr (0, [.ref A_t_board_numbers, .ref A_t_board_owners, .ref A_t_board_cells])), (A_t_board_numbers, .inl (cI, 10, .inl V_t_board_numbers)), (A_t_board_cells, .inl (cI, 63, .inl V_t_board_cells)), (A_t_reason, .inl (cI, 9, .inl V_t_reason)), (A_t_stands, .inl (cI, 9, .inl f3)), (A_t_driver, .inl (cI, 9, .inl f10)), (A_t_waits, .inl (cI, 9, .inl f12))] H → va_D A [(A_t, .inr (2, [.ref A_t_board, .ref A_t_cut, .ref A_t_counts, .ref A_t_strength, .ref A_t_reason, .ref A_t_driver, .ref A_t_waits, .ref A_t_stands])), (A_t_board, .inr (0, [.ref A_t_board_numbers, .ref A_t_board_owners, .ref A_t_board_cells])), (A_t_board_numbers, .inl (cI, 10, .inl V_t_board_numbers)), (A_t_board_cells, .inl (cI, 63, .inl V_t_board_cells)), (A_t_reason, .inl (cI, 9, .inl V_t_reason)), (A_t_stands, .inl (cI, 9, .inl f3)), (A_t_driver, .inl (cI, 9, .inl f10)), (A_t_waits, .inl (cI, 9, .inl f12))] → va_S A s.heap H locs → ∀ ls : Array Slot, lv_has ls 4 [(2, .int v9), (1, .int v1), (0, .ref A_t)] → g_X2_comeToFields_J3 v9 f3 v1 f10 f12 (g_X2_comeToFields_L1 V_t_board_numbers V_t_board_cells V_t_reason nf) v16 = some (f19, f20, f21) → W p l e rX2_comeToFields s m args below meth c H locs 0 0 Q (F0 m 96 ls [.int v16]) := by
              intro v16 H locs hP hD hS ls hl hg
              unfold g_X2_comeToFields_J3 at hg
              refine lv_istore_n (lv' := [(3, .int v16), (2, .int v9), (1, .int v1), (0, .ref A_t)]) hx hb dX2_comeToFields_96 rfl hl (by decide) rfl (fun ls hl => ?_)
              refine lv_aload_n hx hb dX2_comeToFields_97 rfl (lv_at hl 3 rfl) ?_
              refine xget (ci := 2) (C := RX2) (T := TX2) (N := 8) (v := .ref A_t_stands) hx hb hts in_X2_comeToFields_X2 hown hK hP 0 rfl rfl 7 (by decide) wd_X2_comeToFields_4 rfl dX2_comeToFields_98 ?_
              refine lv_iload_n hx hb dX2_comeToFields_101 rfl (lv_at hl 2 rfl) ?_
              refine lv_iload_n hx hb dX2_comeToFields_102 rfl (lv_at hl 1 rfl) ?_
              refine lv_iconst (v := (-1)) hx hb dX2_comeToFields_103 (by decide) ?_
              have hJ4 : ∀ (v17 : Int32), ∀ (H : Heap) (locs : List Loc), va_P D vwCl [(A_t, .inr (2, [.ref A_t_board, .ref A_t_cut, .ref A_t_counts, .ref A_t_strength, .ref A_t_reason, .ref A_t_driver, .ref A_t_waits, .ref A_t_stands])), (A_t_board, .inr (0, [.ref A_t_board_numbers, .ref A_t_board_owners, .ref A_t_board_cells])), (A_t_board_numbers, .inl (cI, 10, .inl V_t_board_numbers)), (A_t_board_cells, .inl (cI, 63, .inl V_t_board_cells)), (A_t_reason, .inl (cI, 9, .inl V_t_reason)), (A_t_stands, .inl (cI, 9, .inl f3)), (A_t_driver, .inl (cI, 9, .inl f10)), (A_t_waits, .inl (cI, 9, .inl f12))] H → va_D A [(A_t, .inr (2, [.ref A_t_board, .ref A_t_cut, .ref A_t_counts, .ref A_t_strength, .ref A_t_reason, .ref A_t_driver, .ref A_t_waits, .ref A_t_stands])), (A_t_board, .inr (0, [.ref A_t_board_numbers, .ref A_t_board_owners, .ref A_t_board_cells])), (A_t_board_numbers, .inl (cI, 10, .inl V_t_board_numbers)), (A_t_board_cells, .inl (cI, 63, .inl V_t_board_cells)), (A_t_reason, .inl (cI, 9, .inl V_t_reason)), (A_t_stands, .inl (cI, 9, .inl f3)), (A_t_driver, .inl (cI, 9, .inl f10)), (A_t_waits, .inl (cI, 9, .inl f12))] → va_S A s.heap H locs → ∀ ls : Array Slot, lv_has ls 4 [(1, .int v1), (0, .ref A_t)] → g_X2_comeToFields_J4 f3 v1 f10 f12 (g_X2_comeToFields_L1 V_t_board_numbers V_t_board_cells V_t_reason nf) v17 = some (f19, f20, f21) → W p l e rX2_comeToFields s m args below meth c H locs 0 0 Q (F0 m 112 ls [.int v17, .int v1, .ref A_t_stands]) := by
                intro v17 H locs hP hD hS ls hl hg
                unfold g_X2_comeToFields_J4 at hg
                obtain ⟨f18, hq, hg⟩ := bind_ex hg
                refine callWNv (As := [.ref A_t_stands, .int v1, .int v17]) (rest := []) (wr := [(A_t, .inr (2, [.ref A_t_board, .ref A_t_cut, .ref A_t_counts, .ref A_t_strength, .ref A_t_reason, .ref A_t_driver, .ref A_t_waits, .ref A_t_stands])), (A_t_board, .inr (0, [.ref A_t_board_numbers, .ref A_t_board_owners, .ref A_t_board_cells])), (A_t_board_numbers, .inl (cI, 10, .inl V_t_board_numbers)), (A_t_board_cells, .inl (cI, 63, .inl V_t_board_cells)), (A_t_reason, .inl (cI, 9, .inl V_t_reason)), (A_t_driver, .inl (cI, 9, .inl f10)), (A_t_waits, .inl (cI, 9, .inl f12))]) S hK hP hD hS hA (c_X4_enter l D cI cZ cB cJ A_t_stands 9 _ f3 v1 v17 f18 hq) [5] [0, 1, 2, 3, 4, 6, 7] rfl rfl (by decide +kernel) (by decide +kernel) (by decide +kernel) ⟨va_cnB 3 hts gX2_comeToFields_X4_enter_n76 rfl rfl rfl (hK.2 _ (List.mem_of_getElem? (i := 7) rfl)) (hts _ wd_X2_comeToFields_23) hd_X4_enter ⟨Nat.le_of_ble_eq_true rfl, Nat.le_of_ble_eq_true rfl⟩, hts _ wd_X2_comeToFields_29, trivial⟩ rfl hl.1 rfl (Nat.le_of_ble_eq_true rfl) dX2_comeToFields_112 ⟨Nat.zero_le _, Nat.zero_le _⟩ (fun H locs hP hD hS => ?_)
                replace hP : va_P D vwCl [(A_t, .inr (2, [.ref A_t_board, .ref A_t_cut, .ref A_t_counts, .ref A_t_strength, .ref A_t_reason, .ref A_t_driver, .ref A_t_waits, .ref A_t_stands])), (A_t_board, .inr (0, [.ref A_t_board_numbers, .ref A_t_board_owners, .ref A_t_board_cells])), (A_t_board_numbers, .inl (cI, 10, .inl V_t_board_numbers)), (A_t_board_cells, .inl (cI, 63, .inl V_t_board_cells)), (A_t_reason, .inl (cI, 9, .inl V_t_reason)), (A_t_driver, .inl (cI, 9, .inl f10)), (A_t_waits, .inl (cI, 9, .inl f12)), (A_t_stands, .inl (cI, 9, .inl f18))] H := hP
                replace hD : va_D A [(A_t, .inr (2, [.ref A_t_board, .ref A_t_cut, .ref A_t_counts, .ref A_t_strength, .ref A_t_reason, .ref A_t_driver, .ref A_t_waits, .ref A_t_stands])), (A_t_board, .inr (0, [.ref A_t_board_numbers, .ref A_t_board_owners, .ref A_t_board_cells])), (A_t_board_numbers, .inl (cI, 10, .inl V_t_board_numbers)), (A_t_board_cells, .inl (cI, 63, .inl V_t_board_cells)), (A_t_reason, .inl (cI, 9, .inl V_t_reason)), (A_t_driver, .inl (cI, 9, .inl f10)), (A_t_waits, .inl (cI, 9, .inl f12)), (A_t_stands, .inl (cI, 9, .inl f18))] := hD
                refine lv_iinc (v := (v1 + 1)) (lv' := [(1, .int (v1 + 1)), (0, .ref A_t)]) hx hb dX2_comeToFields_115 hl (k := 0) rfl rfl (by decide) rfl (fun ls hl => ?_)
                refine lv_goto (tgt := 2) hx hb dX2_comeToFields_118 (by decide) ?_
                exact ih _ _ _ _ _ _ hP hD hS _ (lv_sub hl [0, 1] rfl) hg
              refine lv_icmp_ne (tgt := 111) hx hb dX2_comeToFields_104 (by decide) (fun hc => ?_) (fun hc => ?_)
              · replace hg := if_no hg hc
                refine lv_iconst (v := (-1)) hx hb dX2_comeToFields_111 (by decide) ?_
                exact hJ4 _ _ _ hP hD hS _ (lv_sub hl [2, 3] rfl) hg
              · replace hg := if_yes hg hc
                refine lv_iload_n hx hb dX2_comeToFields_107 rfl (lv_at hl 0 rfl) ?_
                refine lv_goto (tgt := 112) hx hb dX2_comeToFields_108 (by decide) ?_
                exact hJ4 _ _ _ hP hD hS _ (lv_sub hl [2, 3] rfl) hg
            refine lv_if_eq (tgt := 87) hx hb dX2_comeToFields_72 (by decide) (fun hc => ?_) (fun hc => ?_)
            · replace hg := if_yes hg hc
              refine lv_aload_n hx hb dX2_comeToFields_87 rfl (lv_at hl 2 rfl) ?_
              refine xget (ci := 2) (C := RX2) (T := TX2) (N := 8) (v := .ref A_t_board) hx hb hts in_X2_comeToFields_X2 hown hK hP 0 rfl rfl 0 (by decide) wd_X2_comeToFields_1 rfl dX2_comeToFields_88 ?_
              refine lv_iload_n hx hb dX2_comeToFields_91 rfl (lv_at hl 1 rfl) ?_
              refine lv_iconst (v := 1) hx hb dX2_comeToFields_92 (by decide) ?_
              obtain ⟨v14, hq, hg⟩ := bind_ex hg
              refine callRVi (As := [.int v1, .int 1]) (rest := []) S hK hP (c_X0_of l D cI cZ cB cJ A_t_board A_t_board_numbers A_t_board_owners A_t_board_cells V_t_board_cells v1 1 v14 hq) [1, 3] rfl (cwV 2 hts gX2_comeToFields_X0_of rfl rfl rfl hd_X0_of ⟨Nat.le_of_ble_eq_true rfl, Nat.le_of_ble_eq_true rfl⟩) rfl rfl rfl hl.1 rfl (Nat.le_of_ble_eq_true rfl) dX2_comeToFields_93 ⟨Nat.zero_le _, Nat.zero_le _⟩ ?_
              exact hJ3 _ _ _ hP hD hS _ (lv_sub hl [0, 1, 2] rfl) hg
            · replace hg := if_no hg hc
              refine lv_aload_n hx hb dX2_comeToFields_75 rfl (lv_at hl 2 rfl) ?_
              refine xget (ci := 2) (C := RX2) (T := TX2) (N := 8) (v := .ref A_t_board) hx hb hts in_X2_comeToFields_X2 hown hK hP 0 rfl rfl 0 (by decide) wd_X2_comeToFields_1 rfl dX2_comeToFields_76 ?_
              refine lv_iload_n hx hb dX2_comeToFields_79 rfl (lv_at hl 1 rfl) ?_
              refine lv_iconst (v := 3) hx hb dX2_comeToFields_80 (by decide) ?_
              obtain ⟨v15, hq, hg⟩ := bind_ex hg
              refine callRVi (As := [.int v1, .int 3]) (rest := []) S hK hP (c_X0_of l D cI cZ cB cJ A_t_board A_t_board_numbers A_t_board_owners A_t_board_cells V_t_board_cells v1 3 v15 hq) [1, 3] rfl (cwV 2 hts gX2_comeToFields_X0_of rfl rfl rfl hd_X0_of ⟨Nat.le_of_ble_eq_true rfl, Nat.le_of_ble_eq_true rfl⟩) rfl rfl rfl hl.1 rfl (Nat.le_of_ble_eq_true rfl) dX2_comeToFields_81 ⟨Nat.zero_le _, Nat.zero_le _⟩ ?_
              refine lv_goto (tgt := 96) hx hb dX2_comeToFields_84 (by decide) ?_
              exact hJ3 _ _ _ hP hD hS _ (lv_sub hl [0, 1, 2] rfl) hg
          refine lv_icmp_ne (tgt := 63) hx hb dX2_comeToFields_56 (by decide) (fun hc => ?_) (fun hc => ?_)
          · replace hg := if_no hg hc
            refine lv_iconst (v := 1) hx hb dX2_comeToFields_63 (by decide) ?_
            exact hJ2 _ bo_1 _ _ hP hD hS _ (lv_sub hl [0, 1, 2] rfl) hg
          · replace hg := if_yes hg hc
            refine lv_iconst (v := 0) hx hb dX2_comeToFields_59 (by decide) ?_
            refine lv_goto (tgt := 64) hx hb dX2_comeToFields_60 (by decide) ?_
            exact hJ2 _ bo_0 _ _ hP hD hS _ (lv_sub hl [0, 1, 2] rfl) hg
        refine lv_if_eq (tgt := 26) hx hb dX2_comeToFields_19 (by decide) (fun hc => ?_) (fun hc => ?_)
        · replace hg := if_yes hg hc
          refine lv_aload_n hx hb dX2_comeToFields_26 rfl (lv_at hl 1 rfl) ?_
          refine lv_aload_n hx hb dX2_comeToFields_27 rfl (lv_at hl 1 rfl) ?_
          refine xget (ci := 2) (C := RX2) (T := TX2) (N := 8) (v := .ref A_t_board) hx hb hts in_X2_comeToFields_X2 hown hK hP 0 rfl rfl 0 (by decide) wd_X2_comeToFields_1 rfl dX2_comeToFields_28 ?_
          refine lv_iload_n hx hb dX2_comeToFields_31 rfl (lv_at hl 0 rfl) ?_
          refine lv_iconst (v := 1) hx hb dX2_comeToFields_32 (by decide) ?_
          obtain ⟨v7, hq, hg⟩ := bind_ex hg
          refine callRVi (As := [.int v1, .int 1]) (rest := [.ref A_t]) S hK hP (c_X0_of l D cI cZ cB cJ A_t_board A_t_board_numbers A_t_board_owners A_t_board_cells V_t_board_cells v1 1 v7 hq) [1, 3] rfl (cwV 2 hts gX2_comeToFields_X0_of rfl rfl rfl hd_X0_of ⟨Nat.le_of_ble_eq_true rfl, Nat.le_of_ble_eq_true rfl⟩) rfl rfl rfl hl.1 rfl (Nat.le_of_ble_eq_true rfl) dX2_comeToFields_33 ⟨Nat.zero_le _, Nat.zero_le _⟩ ?_
          obtain ⟨v8, hq, hg⟩ := bind_ex hg
          refine callRVi (As := [.int v7]) (rest := []) S hK hP (c_X2_comerTo l D cI cZ cB cJ A_t A_t_board A_t_cut A_t_counts A_t_strength A_t_reason A_t_driver A_t_waits A_t_stands A_t_board_numbers A_t_board_owners A_t_board_cells V_t_board_numbers V_t_board_cells V_t_reason v7 v8 hq) [0, 1, 2, 3, 4] rfl (cwV 1 hts gX2_comeToFields_X2_comerTo rfl rfl rfl hd_X2_comerTo ⟨Nat.le_of_ble_eq_true rfl, Nat.le_of_ble_eq_true rfl⟩) rfl rfl rfl hl.1 rfl (Nat.le_of_ble_eq_true rfl) dX2_comeToFields_36 ⟨Nat.zero_le _, Nat.zero_le _⟩ ?_
          exact hJ1 _ _ _ hP hD hS _ (lv_sub hl [0, 1] rfl) hg
        · replace hg := if_no hg hc
          refine lv_iconst (v := (-1)) hx hb dX2_comeToFields_22 (by decide) ?_
          refine lv_goto (tgt := 39) hx hb dX2_comeToFields_23 (by decide) ?_
          exact hJ1 _ _ _ hP hD hS _ (lv_sub hl [0, 1] rfl) hg
  exact L FU _ _ _ _ _ _ hP hD hS _ (lv_sub hl [0, 1] rfl) hL
theorem hd_X2_strongestDriven : yX2_strongestDriven.cls = RX2 ∧ yX2_strongestDriven.cls ≠ "java/lang/invoke/MethodHandle" ∧ yX2_strongestDriven.cls ≠ "java/lang/invoke/VarHandle" ∧ (parseMethodDescriptor yX2_strongestDriven.desc).map (fun d => d.parameters.length) = some 1 := by decide +kernel
theorem in_X2_strongestDriven_X2 : ∀ w ∈ u_ws RX2 TX2 8, w ∈ wsX2_strongestDriven := fun _ h => List.mem_cons_of_mem _ (List.mem_append_left _ (List.mem_append_right _ h))
theorem wd_X2_strongestDriven_1 : Cond.fieldLink RX2 12 "FogOrders$Opening" "board" "LFogOrders$Board;" ∈ wsX2_strongestDriven := List.mem_of_getElem? (i := 1) rfl
theorem wd_X2_strongestDriven_2 : Cond.fieldLink RX2 31 "FogOrders$Opening" "driver" "[I" ∈ wsX2_strongestDriven := List.mem_of_getElem? (i := 2) rfl
theorem wd_X2_strongestDriven_12 : Cond.initialized RX4 ∈ wsX2_strongestDriven := List.mem_of_getElem? (i := 12) rfl
theorem wd_X2_strongestDriven_11 : Cond.static yX4_entry ∈ wsX2_strongestDriven := List.mem_of_getElem? (i := 11) rfl
theorem wd_X2_strongestDriven_4 : Cond.fieldLink RX2 25 "FogOrders$Opening" "strength" "[I" ∈ wsX2_strongestDriven := List.mem_of_getElem? (i := 4) rfl
theorem wd_X2_strongestDriven_3 : Cond.fieldLink RX2 34 "FogOrders$Opening" "waits" "[I" ∈ wsX2_strongestDriven := List.mem_of_getElem? (i := 3) rfl
abbrev rX2_strongestDriven : Room := { frames := 1, cells := 0, slots := 0, locals := 21 }
set_option maxHeartbeats 4000000 in
set_option maxRecDepth 100000 in
theorem c_X2_strongestDriven (l : Launch) (D : va_G) (cI cZ cB cJ : ClassId) (A_t : Nat) (A_t_board : Nat) (A_t_cut : Nat) (A_t_counts : Nat) (A_t_strength : Nat) (A_t_reason : Nat) (A_t_driver : Nat) (A_t_waits : Nat) (A_t_stands : Nat) (A_t_board_numbers : Nat) (A_t_board_owners : Nat) (A_t_board_cells : Nat) (V_t_board_numbers : Nat → Int32) (V_t_driver : Nat → Int32) (V_t_waits : Nat → Int32) (V_t_strength : Nat → Int32) (x1 : Int32) (r0 : Int32) (hg : g_X2_strongestDriven V_t_board_numbers V_t_driver V_t_waits V_t_strength x1 = some r0) : Met l yX2_strongestDriven wsX2_strongestDriven rX2_strongestDriven (PcR D cI cZ cB cJ [(A_t, .inr (2, [.ref A_t_board, .ref A_t_cut, .ref A_t_counts, .ref A_t_strength, .ref A_t_reason, .ref A_t_driver, .ref A_t_waits, .ref A_t_stands])), (A_t_board, .inr (0, [.ref A_t_board_numbers, .ref A_t_board_owners, .ref A_t_board_cells])), (A_t_board_numbers, .inl (cI, 10, .inl V_t_board_numbers)), (A_t_driver, .inl (cI, 9, .inl V_t_driver)), (A_t_waits, .inl (cI, 9, .inl V_t_waits)), (A_t_strength, .inl (cI, 9, .inl V_t_strength))] [.ref A_t, .int x1]) (vp_Si (fun r' => r' = r0 ∧ True)) 0 0 (fun _ => False) := by
  refine bodyRi (cc := cX2_strongestDriven) (maxL := 7) (lv := [(0, .ref A_t), (1, .int x1)]) (by decide) rfl (Nat.le_of_ble_eq_true rfl) rfl ?_
  intro p e s m args below meth c Q hx hb hml hown hts hP hK fin ls hl
  replace hown : s.vm.findClass RX2 = some m.cls := hown
  have S : CallFix p m c cX2_strongestDriven 7 s args wsX2_strongestDriven RX2 := ⟨hx, hb, hml, hown, hts⟩
  unfold g_X2_strongestDriven at hg
  refine lv_iconst (v := (-1)) hx hb dX2_strongestDriven_0 (by decide) ?_
  refine lv_istore_n (lv' := [(2, .int (-1)), (0, .ref A_t), (1, .int x1)]) hx hb dX2_strongestDriven_1 rfl hl (by decide) rfl (fun ls hl => ?_)
  refine lv_iconst (v := 0) hx hb dX2_strongestDriven_2 (by decide) ?_
  refine lv_istore_n (lv' := [(3, .int 0), (2, .int (-1)), (0, .ref A_t), (1, .int x1)]) hx hb dX2_strongestDriven_3 rfl hl (by decide) rfl (fun ls hl => ?_)
  refine lv_iconst (v := 0) hx hb dX2_strongestDriven_4 (by decide) ?_
  refine lv_istore (lv' := [(4, .int 0), (3, .int 0), (2, .int (-1)), (0, .ref A_t), (1, .int x1)]) hx hb dX2_strongestDriven_5 hl (by decide) rfl (fun ls hl => ?_)
  obtain ⟨v10, hL, hg⟩ := bind_ex hg
  have kx : ∀ ls : Array Slot, lv_has ls 7 [(2, .int v10)] → W p l e rX2_strongestDriven s m args below meth c s.heap [] 0 0 Q (F0 m 98 ls []) := by
    intro ls hl
    refine lv_iload_n hx hb dX2_strongestDriven_98 rfl (lv_at hl 0 rfl) ?_
    cases hg
    exact fin _ _ dX2_strongestDriven_99
  have L : ∀ (nf : Nat) (v1 : Int32) (v2 : Int32) (v3 : Int32), ∀ ls : Array Slot, lv_has ls 7 [(4, .int v3), (3, .int v2), (2, .int v1), (0, .ref A_t), (1, .int x1)] → g_X2_strongestDriven_L1 V_t_board_numbers V_t_driver V_t_strength x1 V_t_waits nf v1 v2 v3 = some v10 → W p l e rX2_strongestDriven s m args below meth c s.heap [] 0 0 Q (F0 m 7 ls []) := by
    intro nf
    induction nf with
    | zero =>
      intro v1 v2 v3 ls hl hg
      exact no_some hg
    | succ nf ih =>
      intro v1 v2 v3 ls hl hg
      rw [g_X2_strongestDriven_L1] at hg
      refine lv_iload hx hb dX2_strongestDriven_7 (lv_at hl 0 rfl) ?_
      refine lv_aload_n hx hb dX2_strongestDriven_9 rfl (lv_at hl 3 rfl) ?_
      refine xget (ci := 2) (C := RX2) (T := TX2) (N := 8) (v := .ref A_t_board) hx hb hts in_X2_strongestDriven_X2 hown hK hP 0 rfl rfl 0 (by decide) wd_X2_strongestDriven_1 rfl dX2_strongestDriven_10 ?_
      refine lv_iconst (v := 0) hx hb dX2_strongestDriven_13 (by decide) ?_
      obtain ⟨v4, hq, hg⟩ := bind_ex hg
      refine callRVi (As := [.int 0]) (rest := [.int v3]) S hK hP (c_X0_number l D cI cZ cB cJ A_t_board A_t_board_numbers A_t_board_owners A_t_board_cells V_t_board_numbers 0 v4 hq) [1, 2] rfl (cwV 1 hts gX2_strongestDriven_X0_number rfl rfl rfl hd_X0_number ⟨Nat.le_of_ble_eq_true rfl, Nat.le_of_ble_eq_true rfl⟩) rfl rfl rfl hl.1 rfl (Nat.le_of_ble_eq_true rfl) dX2_strongestDriven_14 ⟨Nat.zero_le _, Nat.zero_le _⟩ ?_
      refine lv_icmp_ge (tgt := 98) hx hb dX2_strongestDriven_17 (by decide) (fun hc => ?_) (fun hc => ?_)
      · replace hg := if_yes hg hc
        cases hg
        exact kx _ (lv_sub hl [2] rfl)
      · replace hg := if_no hg hc
        refine lv_aload_n hx hb dX2_strongestDriven_20 rfl (lv_at hl 3 rfl) ?_
        refine xget (ci := 2) (C := RX2) (T := TX2) (N := 8) (v := .ref A_t_driver) hx hb hts in_X2_strongestDriven_X2 hown hK hP 0 rfl rfl 5 (by decide) wd_X2_strongestDriven_2 rfl dX2_strongestDriven_21 ?_
        refine lv_iload hx hb dX2_strongestDriven_24 (lv_at hl 0 rfl) ?_
        obtain ⟨v5, hq, hg⟩ := bind_ex hg
        refine callRNi (As := [.ref A_t_driver, .int v3]) (rest := []) S hK hP (c_X4_entry l D cI cZ cB cJ A_t_driver 9 V_t_driver v3 v5 hq) [3] rfl ⟨va_cnB 2 hts gX2_strongestDriven_X4_entry_n89 rfl rfl rfl (hK.2 _ (List.mem_of_getElem? (i := 8) rfl)) (hts _ wd_X2_strongestDriven_12) hd_X4_entry ⟨Nat.le_of_ble_eq_true rfl, Nat.le_of_ble_eq_true rfl⟩, hts _ wd_X2_strongestDriven_11, trivial⟩ rfl hl.1 rfl (Nat.le_of_ble_eq_true rfl) dX2_strongestDriven_26 ⟨Nat.zero_le _, Nat.zero_le _⟩ ?_
        refine lv_istore (lv' := [(5, .int v5), (4, .int v3), (3, .int v2), (2, .int v1), (0, .ref A_t), (1, .int x1)]) hx hb dX2_strongestDriven_29 hl (by decide) rfl (fun ls hl => ?_)
        refine lv_iload hx hb dX2_strongestDriven_31 (lv_at hl 0 rfl) ?_
        refine lv_iconst (v := (-1)) hx hb dX2_strongestDriven_33 (by decide) ?_
        have hJ1 : ∀ (v7 : Int32), bo v7 → ∀ ls : Array Slot, lv_has ls 7 [(5, .int v5), (4, .int v3), (3, .int v2), (2, .int v1), (0, .ref A_t), (1, .int x1)] → g_X2_strongestDriven_J1 v1 v2 v3 V_t_strength v5 (g_X2_strongestDriven_L1 V_t_board_numbers V_t_driver V_t_strength x1 V_t_waits nf) v7 = some v10 → W p l e rX2_strongestDriven s m args below meth c s.heap [] 0 0 Q (F0 m 59 ls [.int v7]) := by
          intro v7 hz_v7 ls hl hg
          unfold g_X2_strongestDriven_J1 at hg
          refine lv_istore (lv' := [(6, .int v7), (5, .int v5), (4, .int v3), (3, .int v2), (2, .int v1), (0, .ref A_t), (1, .int x1)]) hx hb dX2_strongestDriven_59 hl (by decide) rfl (fun ls hl => ?_)
          refine lv_iload hx hb dX2_strongestDriven_61 (lv_at hl 0 rfl) ?_
          refine lv_if_eq (tgt := 92) hx hb dX2_strongestDriven_63 (by decide) (fun hc => ?_) (fun hc => ?_)
          · replace hg := if_yes hg hc
            refine lv_iinc (v := (v3 + 1)) (lv' := [(4, .int (v3 + 1)), (6, .int v7), (5, .int v5), (3, .int v2), (2, .int v1), (0, .ref A_t), (1, .int x1)]) hx hb dX2_strongestDriven_92 hl (k := 2) rfl rfl (by decide) rfl (fun ls hl => ?_)
            refine lv_goto (tgt := 7) hx hb dX2_strongestDriven_95 (by decide) ?_
            exact ih _ _ _ _ (lv_sub hl [0, 3, 4, 5, 6] rfl) hg
          · replace hg := if_no hg hc
            refine lv_aload_n hx hb dX2_strongestDriven_66 rfl (lv_at hl 5 rfl) ?_
            refine xget (ci := 2) (C := RX2) (T := TX2) (N := 8) (v := .ref A_t_strength) hx hb hts in_X2_strongestDriven_X2 hown hK hP 0 rfl rfl 3 (by decide) wd_X2_strongestDriven_4 rfl dX2_strongestDriven_67 ?_
            refine lv_iload hx hb dX2_strongestDriven_70 (lv_at hl 1 rfl) ?_
            obtain ⟨v8, hq, hg⟩ := bind_ex hg
            refine callRNi (As := [.ref A_t_strength, .int v5]) (rest := []) S hK hP (c_X4_entry l D cI cZ cB cJ A_t_strength 9 V_t_strength v5 v8 hq) [5] rfl ⟨va_cnB 2 hts gX2_strongestDriven_X4_entry_n89 rfl rfl rfl (hK.2 _ (List.mem_of_getElem? (i := 8) rfl)) (hts _ wd_X2_strongestDriven_12) hd_X4_entry ⟨Nat.le_of_ble_eq_true rfl, Nat.le_of_ble_eq_true rfl⟩, hts _ wd_X2_strongestDriven_11, trivial⟩ rfl hl.1 rfl (Nat.le_of_ble_eq_true rfl) dX2_strongestDriven_72 ⟨Nat.zero_le _, Nat.zero_le _⟩ ?_
            refine lv_iload_n hx hb dX2_strongestDriven_75 rfl (lv_at hl 3 rfl) ?_
            refine lv_icmp_le (tgt := 92) hx hb dX2_strongestDriven_76 (by decide) (fun hc => ?_) (fun hc => ?_)
            · replace hg := if_yes hg hc
              refine lv_iinc (v := (v3 + 1)) (lv' := [(4, .int (v3 + 1)), (6, .int v7), (5, .int v5), (3, .int v2), (2, .int v1), (0, .ref A_t), (1, .int x1)]) hx hb dX2_strongestDriven_92 hl (k := 2) rfl rfl (by decide) rfl (fun ls hl => ?_)
              refine lv_goto (tgt := 7) hx hb dX2_strongestDriven_95 (by decide) ?_
              exact ih _ _ _ _ (lv_sub hl [0, 3, 4, 5, 6] rfl) hg
            · replace hg := if_no hg hc
              refine lv_iload hx hb dX2_strongestDriven_79 (lv_at hl 2 rfl) ?_
              refine lv_istore_n (lv' := [(2, .int v3), (6, .int v7), (5, .int v5), (4, .int v3), (3, .int v2), (0, .ref A_t), (1, .int x1)]) hx hb dX2_strongestDriven_81 rfl hl (by decide) rfl (fun ls hl => ?_)
              refine lv_aload_n hx hb dX2_strongestDriven_82 rfl (lv_at hl 5 rfl) ?_
              refine xget (ci := 2) (C := RX2) (T := TX2) (N := 8) (v := .ref A_t_strength) hx hb hts in_X2_strongestDriven_X2 hown hK hP 0 rfl rfl 3 (by decide) wd_X2_strongestDriven_4 rfl dX2_strongestDriven_83 ?_
              refine lv_iload hx hb dX2_strongestDriven_86 (lv_at hl 2 rfl) ?_
              obtain ⟨v9, hq, hg⟩ := bind_ex hg
              refine callRNi (As := [.ref A_t_strength, .int v5]) (rest := []) S hK hP (c_X4_entry l D cI cZ cB cJ A_t_strength 9 V_t_strength v5 v9 hq) [5] rfl ⟨va_cnB 2 hts gX2_strongestDriven_X4_entry_n89 rfl rfl rfl (hK.2 _ (List.mem_of_getElem? (i := 8) rfl)) (hts _ wd_X2_strongestDriven_12) hd_X4_entry ⟨Nat.le_of_ble_eq_true rfl, Nat.le_of_ble_eq_true rfl⟩, hts _ wd_X2_strongestDriven_11, trivial⟩ rfl hl.1 rfl (Nat.le_of_ble_eq_true rfl) dX2_strongestDriven_88 ⟨Nat.zero_le _, Nat.zero_le _⟩ ?_
              refine lv_istore_n (lv' := [(3, .int v9), (2, .int v3), (6, .int v7), (5, .int v5), (4, .int v3), (0, .ref A_t), (1, .int x1)]) hx hb dX2_strongestDriven_91 rfl hl (by decide) rfl (fun ls hl => ?_)
              refine lv_iinc (v := (v3 + 1)) (lv' := [(4, .int (v3 + 1)), (3, .int v9), (2, .int v3), (6, .int v7), (5, .int v5), (0, .ref A_t), (1, .int x1)]) hx hb dX2_strongestDriven_92 hl (k := 4) rfl rfl (by decide) rfl (fun ls hl => ?_)
              refine lv_goto (tgt := 7) hx hb dX2_strongestDriven_95 (by decide) ?_
              exact ih _ _ _ _ (lv_sub hl [0, 1, 2, 5, 6] rfl) hg
        refine lv_icmp_eq (tgt := 58) hx hb dX2_strongestDriven_34 (by decide) (fun hc => ?_) (fun hc => ?_)
        · replace hg := if_yes hg hc
          refine lv_iconst (v := 0) hx hb dX2_strongestDriven_58 (by decide) ?_
          exact hJ1 _ bo_0 _ (lv_sub hl [0, 1, 2, 3, 4, 5] rfl) hg
        · replace hg := if_no hg hc
          refine lv_iload_n hx hb dX2_strongestDriven_37 rfl (lv_at hl 5 rfl) ?_
          refine lv_if_eq (tgt := 54) hx hb dX2_strongestDriven_38 (by decide) (fun hc => ?_) (fun hc => ?_)
          · replace hg := if_yes hg hc
            refine lv_iconst (v := 1) hx hb dX2_strongestDriven_54 (by decide) ?_
            refine lv_goto (tgt := 59) hx hb dX2_strongestDriven_55 (by decide) ?_
            exact hJ1 _ bo_1 _ (lv_sub hl [0, 1, 2, 3, 4, 5] rfl) hg
          · replace hg := if_no hg hc
            refine lv_aload_n hx hb dX2_strongestDriven_41 rfl (lv_at hl 4 rfl) ?_
            refine xget (ci := 2) (C := RX2) (T := TX2) (N := 8) (v := .ref A_t_waits) hx hb hts in_X2_strongestDriven_X2 hown hK hP 0 rfl rfl 6 (by decide) wd_X2_strongestDriven_3 rfl dX2_strongestDriven_42 ?_
            refine lv_iload hx hb dX2_strongestDriven_45 (lv_at hl 1 rfl) ?_
            obtain ⟨v6, hq, hg⟩ := bind_ex hg
            refine callRNi (As := [.ref A_t_waits, .int v3]) (rest := []) S hK hP (c_X4_entry l D cI cZ cB cJ A_t_waits 9 V_t_waits v3 v6 hq) [4] rfl ⟨va_cnB 2 hts gX2_strongestDriven_X4_entry_n89 rfl rfl rfl (hK.2 _ (List.mem_of_getElem? (i := 8) rfl)) (hts _ wd_X2_strongestDriven_12) hd_X4_entry ⟨Nat.le_of_ble_eq_true rfl, Nat.le_of_ble_eq_true rfl⟩, hts _ wd_X2_strongestDriven_11, trivial⟩ rfl hl.1 rfl (Nat.le_of_ble_eq_true rfl) dX2_strongestDriven_47 ⟨Nat.zero_le _, Nat.zero_le _⟩ ?_
            refine lv_iconst (v := 1) hx hb dX2_strongestDriven_50 (by decide) ?_
            refine lv_icmp_ne (tgt := 58) hx hb dX2_strongestDriven_51 (by decide) (fun hc => ?_) (fun hc => ?_)
            · replace hg := if_no hg hc
              refine lv_iconst (v := 0) hx hb dX2_strongestDriven_58 (by decide) ?_
              exact hJ1 _ bo_0 _ (lv_sub hl [0, 1, 2, 3, 4, 5] rfl) hg
            · replace hg := if_yes hg hc
              refine lv_iconst (v := 1) hx hb dX2_strongestDriven_54 (by decide) ?_
              refine lv_goto (tgt := 59) hx hb dX2_strongestDriven_55 (by decide) ?_
              exact hJ1 _ bo_1 _ (lv_sub hl [0, 1, 2, 3, 4, 5] rfl) hg
  exact L FU _ _ _ _ (lv_sub hl [0, 1, 2, 3, 4] rfl) hL
theorem hd_X2_isTaken : yX2_isTaken.cls = RX2 ∧ yX2_isTaken.cls ≠ "java/lang/invoke/MethodHandle" ∧ yX2_isTaken.cls ≠ "java/lang/invoke/VarHandle" ∧ (parseMethodDescriptor yX2_isTaken.desc).map (fun d => d.parameters.length) = some 1 := by decide +kernel
theorem in_X2_isTaken_X2 : ∀ w ∈ u_ws RX2 TX2 8, w ∈ wsX2_isTaken := fun _ h => List.mem_cons_of_mem _ (List.mem_append_left _ (List.mem_append_right _ h))
theorem wd_X2_isTaken_1 : Cond.fieldLink RX2 12 "FogOrders$Opening" "board" "LFogOrders$Board;" ∈ wsX2_isTaken := List.mem_of_getElem? (i := 1) rfl
theorem wd_X2_isTaken_2 : Cond.fieldLink RX2 37 "FogOrders$Opening" "stands" "[I" ∈ wsX2_isTaken := List.mem_of_getElem? (i := 2) rfl
theorem wd_X2_isTaken_10 : Cond.initialized RX4 ∈ wsX2_isTaken := List.mem_of_getElem? (i := 10) rfl
theorem wd_X2_isTaken_9 : Cond.static yX4_entry ∈ wsX2_isTaken := List.mem_of_getElem? (i := 9) rfl
abbrev rX2_isTaken : Room := { frames := 1, cells := 0, slots := 0, locals := 21 }
set_option maxHeartbeats 4000000 in
set_option maxRecDepth 100000 in
theorem c_X2_isTaken (l : Launch) (D : va_G) (cI cZ cB cJ : ClassId) (A_t : Nat) (A_t_board : Nat) (A_t_cut : Nat) (A_t_counts : Nat) (A_t_strength : Nat) (A_t_reason : Nat) (A_t_driver : Nat) (A_t_waits : Nat) (A_t_stands : Nat) (A_t_board_numbers : Nat) (A_t_board_owners : Nat) (A_t_board_cells : Nat) (V_t_board_numbers : Nat → Int32) (V_t_stands : Nat → Int32) (x1 : Int32) (r0 : Int32) (hg : g_X2_isTaken V_t_board_numbers V_t_stands x1 = some r0) : Met l yX2_isTaken wsX2_isTaken rX2_isTaken (PcR D cI cZ cB cJ [(A_t, .inr (2, [.ref A_t_board, .ref A_t_cut, .ref A_t_counts, .ref A_t_strength, .ref A_t_reason, .ref A_t_driver, .ref A_t_waits, .ref A_t_stands])), (A_t_board, .inr (0, [.ref A_t_board_numbers, .ref A_t_board_owners, .ref A_t_board_cells])), (A_t_board_numbers, .inl (cI, 10, .inl V_t_board_numbers)), (A_t_stands, .inl (cI, 9, .inl V_t_stands))] [.ref A_t, .int x1]) (vp_Si (fun r' => r' = r0 ∧ bo r0)) 0 0 (fun _ => False) := by
  refine bodyRz (cc := cX2_isTaken) (maxL := 3) (lv := [(0, .ref A_t), (1, .int x1)]) (by decide) rfl (Nat.le_of_ble_eq_true rfl) rfl ?_
  intro p e s m args below meth c Q hx hb hml hown hts hP hK fin ls hl
  replace hown : s.vm.findClass RX2 = some m.cls := hown
  have S : CallFix p m c cX2_isTaken 3 s args wsX2_isTaken RX2 := ⟨hx, hb, hml, hown, hts⟩
  unfold g_X2_isTaken at hg
  refine lv_iconst (v := 0) hx hb dX2_isTaken_0 (by decide) ?_
  refine lv_istore_n (lv' := [(2, .int 0), (0, .ref A_t), (1, .int x1)]) hx hb dX2_isTaken_1 rfl hl (by decide) rfl (fun ls hl => ?_)
  have L : ∀ (nf : Nat) (v1 : Int32), ∀ ls : Array Slot, lv_has ls 3 [(2, .int v1), (0, .ref A_t), (1, .int x1)] → g_X2_isTaken_L1 V_t_board_numbers V_t_stands x1 nf v1 = some r0 → W p l e rX2_isTaken s m args below meth c s.heap [] 0 0 Q (F0 m 2 ls []) := by
    intro nf
    induction nf with
    | zero =>
      intro v1 ls hl hg
      exact no_some hg
    | succ nf ih =>
      intro v1 ls hl hg
      rw [g_X2_isTaken_L1] at hg
      refine lv_iload_n hx hb dX2_isTaken_2 rfl (lv_at hl 0 rfl) ?_
      refine lv_aload_n hx hb dX2_isTaken_3 rfl (lv_at hl 1 rfl) ?_
      refine xget (ci := 2) (C := RX2) (T := TX2) (N := 8) (v := .ref A_t_board) hx hb hts in_X2_isTaken_X2 hown hK hP 0 rfl rfl 0 (by decide) wd_X2_isTaken_1 rfl dX2_isTaken_4 ?_
      refine lv_iconst (v := 0) hx hb dX2_isTaken_7 (by decide) ?_
      obtain ⟨v2, hq, hg⟩ := bind_ex hg
      refine callRVi (As := [.int 0]) (rest := [.int v1]) S hK hP (c_X0_number l D cI cZ cB cJ A_t_board A_t_board_numbers A_t_board_owners A_t_board_cells V_t_board_numbers 0 v2 hq) [1, 2] rfl (cwV 1 hts gX2_isTaken_X0_number rfl rfl rfl hd_X0_number ⟨Nat.le_of_ble_eq_true rfl, Nat.le_of_ble_eq_true rfl⟩) rfl rfl rfl hl.1 rfl (Nat.le_of_ble_eq_true rfl) dX2_isTaken_8 ⟨Nat.zero_le _, Nat.zero_le _⟩ ?_
      refine lv_icmp_ge (tgt := 34) hx hb dX2_isTaken_11 (by decide) (fun hc => ?_) (fun hc => ?_)
      · replace hg := if_yes hg hc
        refine lv_iconst (v := 0) hx hb dX2_isTaken_34 (by decide) ?_
        cases hg
        exact fin _ _ bo_0 dX2_isTaken_35
      · replace hg := if_no hg hc
        refine lv_aload_n hx hb dX2_isTaken_14 rfl (lv_at hl 1 rfl) ?_
        refine xget (ci := 2) (C := RX2) (T := TX2) (N := 8) (v := .ref A_t_stands) hx hb hts in_X2_isTaken_X2 hown hK hP 0 rfl rfl 7 (by decide) wd_X2_isTaken_2 rfl dX2_isTaken_15 ?_
        refine lv_iload_n hx hb dX2_isTaken_18 rfl (lv_at hl 0 rfl) ?_
        obtain ⟨v3, hq, hg⟩ := bind_ex hg
        refine callRNi (As := [.ref A_t_stands, .int v1]) (rest := []) S hK hP (c_X4_entry l D cI cZ cB cJ A_t_stands 9 V_t_stands v1 v3 hq) [3] rfl ⟨va_cnB 2 hts gX2_isTaken_X4_entry_n89 rfl rfl rfl (hK.2 _ (List.mem_of_getElem? (i := 8) rfl)) (hts _ wd_X2_isTaken_10) hd_X4_entry ⟨Nat.le_of_ble_eq_true rfl, Nat.le_of_ble_eq_true rfl⟩, hts _ wd_X2_isTaken_9, trivial⟩ rfl hl.1 rfl (Nat.le_of_ble_eq_true rfl) dX2_isTaken_19 ⟨Nat.zero_le _, Nat.zero_le _⟩ ?_
        refine lv_iload_n hx hb dX2_isTaken_22 rfl (lv_at hl 2 rfl) ?_
        refine lv_icmp_ne (tgt := 28) hx hb dX2_isTaken_23 (by decide) (fun hc => ?_) (fun hc => ?_)
        · replace hg := if_no hg hc
          refine lv_iinc (v := (v1 + 1)) (lv' := [(2, .int (v1 + 1)), (0, .ref A_t), (1, .int x1)]) hx hb dX2_isTaken_28 hl (k := 0) rfl rfl (by decide) rfl (fun ls hl => ?_)
          refine lv_goto (tgt := 2) hx hb dX2_isTaken_31 (by decide) ?_
          exact ih _ _ (lv_sub hl [0, 1, 2] rfl) hg
        · replace hg := if_yes hg hc
          refine lv_iconst (v := 1) hx hb dX2_isTaken_26 (by decide) ?_
          cases hg
          exact fin _ _ bo_1 dX2_isTaken_27
  exact L FU _ _ (lv_sub hl [0, 1, 2] rfl) hg
theorem hd_X2_wasFoughtFor : yX2_wasFoughtFor.cls = RX2 ∧ yX2_wasFoughtFor.cls ≠ "java/lang/invoke/MethodHandle" ∧ yX2_wasFoughtFor.cls ≠ "java/lang/invoke/VarHandle" ∧ (parseMethodDescriptor yX2_wasFoughtFor.desc).map (fun d => d.parameters.length) = some 1 := by decide +kernel
theorem in_X2_wasFoughtFor_X2 : ∀ w ∈ u_ws RX2 TX2 8, w ∈ wsX2_wasFoughtFor := fun _ h => List.mem_cons_of_mem _ (List.mem_append_left _ (List.mem_append_right _ h))
theorem wd_X2_wasFoughtFor_1 : Cond.fieldLink RX2 12 "FogOrders$Opening" "board" "LFogOrders$Board;" ∈ wsX2_wasFoughtFor := List.mem_of_getElem? (i := 1) rfl
theorem wd_X2_wasFoughtFor_2 : Cond.fieldLink RX2 28 "FogOrders$Opening" "reason" "[I" ∈ wsX2_wasFoughtFor := List.mem_of_getElem? (i := 2) rfl
theorem wd_X2_wasFoughtFor_10 : Cond.initialized RX4 ∈ wsX2_wasFoughtFor := List.mem_of_getElem? (i := 10) rfl
theorem wd_X2_wasFoughtFor_9 : Cond.static yX4_entry ∈ wsX2_wasFoughtFor := List.mem_of_getElem? (i := 9) rfl
abbrev rX2_wasFoughtFor : Room := { frames := 1, cells := 0, slots := 0, locals := 23 }
set_option maxHeartbeats 4000000 in
set_option maxRecDepth 100000 in
theorem c_X2_wasFoughtFor (l : Launch) (D : va_G) (cI cZ cB cJ : ClassId) (A_t : Nat) (A_t_board : Nat) (A_t_cut : Nat) (A_t_counts : Nat) (A_t_strength : Nat) (A_t_reason : Nat) (A_t_driver : Nat) (A_t_waits : Nat) (A_t_stands : Nat) (A_t_board_numbers : Nat) (A_t_board_owners : Nat) (A_t_board_cells : Nat) (V_t_board_numbers : Nat → Int32) (V_t_reason : Nat → Int32) (V_t_board_cells : Nat → Int32) (x1 : Int32) (r0 : Int32) (hg : g_X2_wasFoughtFor V_t_board_numbers V_t_reason V_t_board_cells x1 = some r0) : Met l yX2_wasFoughtFor wsX2_wasFoughtFor rX2_wasFoughtFor (PcR D cI cZ cB cJ [(A_t, .inr (2, [.ref A_t_board, .ref A_t_cut, .ref A_t_counts, .ref A_t_strength, .ref A_t_reason, .ref A_t_driver, .ref A_t_waits, .ref A_t_stands])), (A_t_board, .inr (0, [.ref A_t_board_numbers, .ref A_t_board_owners, .ref A_t_board_cells])), (A_t_board_numbers, .inl (cI, 10, .inl V_t_board_numbers)), (A_t_reason, .inl (cI, 9, .inl V_t_reason)), (A_t_board_cells, .inl (cI, 63, .inl V_t_board_cells))] [.ref A_t, .int x1]) (vp_Si (fun r' => r' = r0 ∧ bo r0)) 0 0 (fun _ => False) := by
  refine bodyRz (cc := cX2_wasFoughtFor) (maxL := 3) (lv := [(0, .ref A_t), (1, .int x1)]) (by decide) rfl (Nat.le_of_ble_eq_true rfl) rfl ?_
  intro p e s m args below meth c Q hx hb hml hown hts hP hK fin ls hl
  replace hown : s.vm.findClass RX2 = some m.cls := hown
  have S : CallFix p m c cX2_wasFoughtFor 3 s args wsX2_wasFoughtFor RX2 := ⟨hx, hb, hml, hown, hts⟩
  unfold g_X2_wasFoughtFor at hg
  refine lv_iconst (v := 0) hx hb dX2_wasFoughtFor_0 (by decide) ?_
  refine lv_istore_n (lv' := [(2, .int 0), (0, .ref A_t), (1, .int x1)]) hx hb dX2_wasFoughtFor_1 rfl hl (by decide) rfl (fun ls hl => ?_)
  have L : ∀ (nf : Nat) (v1 : Int32), ∀ ls : Array Slot, lv_has ls 3 [(2, .int v1), (0, .ref A_t), (1, .int x1)] → g_X2_wasFoughtFor_L1 V_t_board_numbers V_t_reason V_t_board_cells x1 nf v1 = some r0 → W p l e rX2_wasFoughtFor s m args below meth c s.heap [] 0 0 Q (F0 m 2 ls []) := by
    intro nf
    induction nf with
    | zero =>
      intro v1 ls hl hg
      exact no_some hg
    | succ nf ih =>
      intro v1 ls hl hg
      rw [g_X2_wasFoughtFor_L1] at hg
      refine lv_iload_n hx hb dX2_wasFoughtFor_2 rfl (lv_at hl 0 rfl) ?_
      refine lv_aload_n hx hb dX2_wasFoughtFor_3 rfl (lv_at hl 1 rfl) ?_
      refine xget (ci := 2) (C := RX2) (T := TX2) (N := 8) (v := .ref A_t_board) hx hb hts in_X2_wasFoughtFor_X2 hown hK hP 0 rfl rfl 0 (by decide) wd_X2_wasFoughtFor_1 rfl dX2_wasFoughtFor_4 ?_
      refine lv_iconst (v := 0) hx hb dX2_wasFoughtFor_7 (by decide) ?_
      obtain ⟨v2, hq, hg⟩ := bind_ex hg
      refine callRVi (As := [.int 0]) (rest := [.int v1]) S hK hP (c_X0_number l D cI cZ cB cJ A_t_board A_t_board_numbers A_t_board_owners A_t_board_cells V_t_board_numbers 0 v2 hq) [1, 2] rfl (cwV 1 hts gX2_wasFoughtFor_X0_number rfl rfl rfl hd_X0_number ⟨Nat.le_of_ble_eq_true rfl, Nat.le_of_ble_eq_true rfl⟩) rfl rfl rfl hl.1 rfl (Nat.le_of_ble_eq_true rfl) dX2_wasFoughtFor_8 ⟨Nat.zero_le _, Nat.zero_le _⟩ ?_
      refine lv_icmp_ge (tgt := 47) hx hb dX2_wasFoughtFor_11 (by decide) (fun hc => ?_) (fun hc => ?_)
      · replace hg := if_yes hg hc
        refine lv_iconst (v := 0) hx hb dX2_wasFoughtFor_47 (by decide) ?_
        cases hg
        exact fin _ _ bo_0 dX2_wasFoughtFor_48
      · replace hg := if_no hg hc
        refine lv_aload_n hx hb dX2_wasFoughtFor_14 rfl (lv_at hl 1 rfl) ?_
        refine xget (ci := 2) (C := RX2) (T := TX2) (N := 8) (v := .ref A_t_reason) hx hb hts in_X2_wasFoughtFor_X2 hown hK hP 0 rfl rfl 4 (by decide) wd_X2_wasFoughtFor_2 rfl dX2_wasFoughtFor_15 ?_
        refine lv_iload_n hx hb dX2_wasFoughtFor_18 rfl (lv_at hl 0 rfl) ?_
        obtain ⟨v3, hq, hg⟩ := bind_ex hg
        refine callRNi (As := [.ref A_t_reason, .int v1]) (rest := []) S hK hP (c_X4_entry l D cI cZ cB cJ A_t_reason 9 V_t_reason v1 v3 hq) [3] rfl ⟨va_cnB 2 hts gX2_wasFoughtFor_X4_entry_n89 rfl rfl rfl (hK.2 _ (List.mem_of_getElem? (i := 8) rfl)) (hts _ wd_X2_wasFoughtFor_10) hd_X4_entry ⟨Nat.le_of_ble_eq_true rfl, Nat.le_of_ble_eq_true rfl⟩, hts _ wd_X2_wasFoughtFor_9, trivial⟩ rfl hl.1 rfl (Nat.le_of_ble_eq_true rfl) dX2_wasFoughtFor_19 ⟨Nat.zero_le _, Nat.zero_le _⟩ ?_
        refine lv_iconst (v := 1) hx hb dX2_wasFoughtFor_22 (by decide) ?_
        refine lv_icmp_ne (tgt := 41) hx hb dX2_wasFoughtFor_23 (by decide) (fun hc => ?_) (fun hc => ?_)
        · replace hg := if_no hg hc
          refine lv_iinc (v := (v1 + 1)) (lv' := [(2, .int (v1 + 1)), (0, .ref A_t), (1, .int x1)]) hx hb dX2_wasFoughtFor_41 hl (k := 0) rfl rfl (by decide) rfl (fun ls hl => ?_)
          refine lv_goto (tgt := 2) hx hb dX2_wasFoughtFor_44 (by decide) ?_
          exact ih _ _ (lv_sub hl [0, 1, 2] rfl) hg
        · replace hg := if_yes hg hc
          refine lv_aload_n hx hb dX2_wasFoughtFor_26 rfl (lv_at hl 1 rfl) ?_
          refine xget (ci := 2) (C := RX2) (T := TX2) (N := 8) (v := .ref A_t_board) hx hb hts in_X2_wasFoughtFor_X2 hown hK hP 0 rfl rfl 0 (by decide) wd_X2_wasFoughtFor_1 rfl dX2_wasFoughtFor_27 ?_
          refine lv_iload_n hx hb dX2_wasFoughtFor_30 rfl (lv_at hl 0 rfl) ?_
          refine lv_iconst (v := 3) hx hb dX2_wasFoughtFor_31 (by decide) ?_
          obtain ⟨v4, hq, hg⟩ := bind_ex hg
          refine callRVi (As := [.int v1, .int 3]) (rest := []) S hK hP (c_X0_of l D cI cZ cB cJ A_t_board A_t_board_numbers A_t_board_owners A_t_board_cells V_t_board_cells v1 3 v4 hq) [1, 4] rfl (cwV 2 hts gX2_wasFoughtFor_X0_of rfl rfl rfl hd_X0_of ⟨Nat.le_of_ble_eq_true rfl, Nat.le_of_ble_eq_true rfl⟩) rfl rfl rfl hl.1 rfl (Nat.le_of_ble_eq_true rfl) dX2_wasFoughtFor_32 ⟨Nat.zero_le _, Nat.zero_le _⟩ ?_
          refine lv_iload_n hx hb dX2_wasFoughtFor_35 rfl (lv_at hl 2 rfl) ?_
          refine lv_icmp_ne (tgt := 41) hx hb dX2_wasFoughtFor_36 (by decide) (fun hc => ?_) (fun hc => ?_)
          · replace hg := if_no hg hc
            refine lv_iinc (v := (v1 + 1)) (lv' := [(2, .int (v1 + 1)), (0, .ref A_t), (1, .int x1)]) hx hb dX2_wasFoughtFor_41 hl (k := 0) rfl rfl (by decide) rfl (fun ls hl => ?_)
            refine lv_goto (tgt := 2) hx hb dX2_wasFoughtFor_44 (by decide) ?_
            exact ih _ _ (lv_sub hl [0, 1, 2] rfl) hg
          · replace hg := if_yes hg hc
            refine lv_iconst (v := 1) hx hb dX2_wasFoughtFor_39 (by decide) ?_
            cases hg
            exact fin _ _ bo_1 dX2_wasFoughtFor_40
  exact L FU _ _ (lv_sub hl [0, 1, 2] rfl) hg
theorem hd_X2_retreatField : yX2_retreatField.cls = RX2 ∧ yX2_retreatField.cls ≠ "java/lang/invoke/MethodHandle" ∧ yX2_retreatField.cls ≠ "java/lang/invoke/VarHandle" ∧ (parseMethodDescriptor yX2_retreatField.desc).map (fun d => d.parameters.length) = some 1 := by decide +kernel
theorem in_X2_retreatField_X2 : ∀ w ∈ u_ws RX2 TX2 8, w ∈ wsX2_retreatField := fun _ h => List.mem_cons_of_mem _ (List.mem_append_left _ (List.mem_append_right _ h))
theorem wd_X2_retreatField_1 : Cond.fieldLink RX2 12 "FogOrders$Opening" "board" "LFogOrders$Board;" ∈ wsX2_retreatField := List.mem_of_getElem? (i := 1) rfl
theorem wd_X2_retreatField_2 : Cond.fieldLink RX2 31 "FogOrders$Opening" "driver" "[I" ∈ wsX2_retreatField := List.mem_of_getElem? (i := 2) rfl
theorem wd_X2_retreatField_4 : Cond.initialized RX4 ∈ wsX2_retreatField := List.mem_of_getElem? (i := 4) rfl
theorem wd_X2_retreatField_3 : Cond.static yX4_entry ∈ wsX2_retreatField := List.mem_of_getElem? (i := 3) rfl
theorem wd_X2_retreatField_12 : Cond.static yX4_areNeighbours ∈ wsX2_retreatField := List.mem_of_getElem? (i := 12) rfl
abbrev rX2_retreatField : Room := { frames := 2, cells := 0, slots := 0, locals := 45 }
set_option maxHeartbeats 4000000 in
set_option maxRecDepth 100000 in
theorem c_X2_retreatField (l : Launch) (D : va_G) (cI cZ cB cJ : ClassId) (A_t : Nat) (A_t_board : Nat) (A_t_cut : Nat) (A_t_counts : Nat) (A_t_strength : Nat) (A_t_reason : Nat) (A_t_driver : Nat) (A_t_waits : Nat) (A_t_stands : Nat) (A_t_board_numbers : Nat) (A_t_board_owners : Nat) (A_t_board_cells : Nat) (V_t_driver : Nat → Int32) (V_t_board_cells : Nat → Int32) (V_t_board_numbers : Nat → Int32) (V_t_stands : Nat → Int32) (V_t_reason : Nat → Int32) (x1 : Int32) (r0 : Int32) (hg : g_X2_retreatField V_t_driver V_t_board_cells V_t_board_numbers V_t_stands V_t_reason x1 = some r0) : Met l yX2_retreatField wsX2_retreatField rX2_retreatField (PcR D cI cZ cB cJ [(A_t, .inr (2, [.ref A_t_board, .ref A_t_cut, .ref A_t_counts, .ref A_t_strength, .ref A_t_reason, .ref A_t_driver, .ref A_t_waits, .ref A_t_stands])), (A_t_driver, .inl (cI, 9, .inl V_t_driver)), (A_t_board, .inr (0, [.ref A_t_board_numbers, .ref A_t_board_owners, .ref A_t_board_cells])), (A_t_board_cells, .inl (cI, 63, .inl V_t_board_cells)), (A_t_board_numbers, .inl (cI, 10, .inl V_t_board_numbers)), (A_t_stands, .inl (cI, 9, .inl V_t_stands)), (A_t_reason, .inl (cI, 9, .inl V_t_reason))] [.ref A_t, .int x1]) (vp_Si (fun r' => r' = r0 ∧ True)) 0 0 (fun _ => False) := by
  refine bodyRi (cc := cX2_retreatField) (maxL := 4) (lv := [(0, .ref A_t), (1, .int x1)]) (by decide) rfl (Nat.le_of_ble_eq_true rfl) rfl ?_
  intro p e s m args below meth c Q hx hb hml hown hts hP hK fin ls hl
  replace hown : s.vm.findClass RX2 = some m.cls := hown
  have S : CallFix p m c cX2_retreatField 4 s args wsX2_retreatField RX2 := ⟨hx, hb, hml, hown, hts⟩
  unfold g_X2_retreatField at hg
  refine lv_aload_n hx hb dX2_retreatField_0 rfl (lv_at hl 0 rfl) ?_
  refine xget (ci := 2) (C := RX2) (T := TX2) (N := 8) (v := .ref A_t_board) hx hb hts in_X2_retreatField_X2 hown hK hP 0 rfl rfl 0 (by decide) wd_X2_retreatField_1 rfl dX2_retreatField_1 ?_
  refine lv_aload_n hx hb dX2_retreatField_4 rfl (lv_at hl 0 rfl) ?_
  refine xget (ci := 2) (C := RX2) (T := TX2) (N := 8) (v := .ref A_t_driver) hx hb hts in_X2_retreatField_X2 hown hK hP 0 rfl rfl 5 (by decide) wd_X2_retreatField_2 rfl dX2_retreatField_5 ?_
  refine lv_iload_n hx hb dX2_retreatField_8 rfl (lv_at hl 1 rfl) ?_
  obtain ⟨v1, hq, hg⟩ := bind_ex hg
  refine callRNi (As := [.ref A_t_driver, .int x1]) (rest := [.ref A_t_board]) S hK hP (c_X4_entry l D cI cZ cB cJ A_t_driver 9 V_t_driver x1 v1 hq) [1] rfl ⟨va_cnB 2 hts gX2_retreatField_X4_entry_n89 rfl rfl rfl (hK.2 _ (List.mem_of_getElem? (i := 8) rfl)) (hts _ wd_X2_retreatField_4) hd_X4_entry ⟨Nat.le_of_ble_eq_true rfl, Nat.le_of_ble_eq_true rfl⟩, hts _ wd_X2_retreatField_3, trivial⟩ rfl hl.1 rfl (Nat.le_of_ble_eq_true rfl) dX2_retreatField_9 ⟨Nat.zero_le _, Nat.zero_le _⟩ ?_
  refine lv_iconst (v := 1) hx hb dX2_retreatField_12 (by decide) ?_
  obtain ⟨v2, hq, hg⟩ := bind_ex hg
  refine callRVi (As := [.int v1, .int 1]) (rest := []) S hK hP (c_X0_of l D cI cZ cB cJ A_t_board A_t_board_numbers A_t_board_owners A_t_board_cells V_t_board_cells v1 1 v2 hq) [2, 3] rfl (cwV 2 hts gX2_retreatField_X0_of rfl rfl rfl hd_X0_of ⟨Nat.le_of_ble_eq_true rfl, Nat.le_of_ble_eq_true rfl⟩) rfl rfl rfl hl.1 rfl (Nat.le_of_ble_eq_true rfl) dX2_retreatField_13 ⟨Nat.zero_le _, Nat.zero_le _⟩ ?_
  refine lv_istore_n (lv' := [(2, .int v2), (0, .ref A_t), (1, .int x1)]) hx hb dX2_retreatField_16 rfl hl (by decide) rfl (fun ls hl => ?_)
  refine lv_iconst (v := 0) hx hb dX2_retreatField_17 (by decide) ?_
  refine lv_istore_n (lv' := [(3, .int 0), (2, .int v2), (0, .ref A_t), (1, .int x1)]) hx hb dX2_retreatField_18 rfl hl (by decide) rfl (fun ls hl => ?_)
  have L : ∀ (nf : Nat) (v3 : Int32), ∀ ls : Array Slot, lv_has ls 4 [(3, .int v3), (2, .int v2), (0, .ref A_t), (1, .int x1)] → g_X2_retreatField_L1 V_t_board_cells x1 v2 V_t_board_numbers V_t_stands V_t_reason nf v3 = some r0 → W p l e rX2_retreatField s m args below meth c s.heap [] 0 0 Q (F0 m 19 ls []) := by
    intro nf
    induction nf with
    | zero =>
      intro v3 ls hl hg
      exact no_some hg
    | succ nf ih =>
      intro v3 ls hl hg
      rw [g_X2_retreatField_L1] at hg
      refine lv_iload_n hx hb dX2_retreatField_19 rfl (lv_at hl 0 rfl) ?_
      refine lv_bipush (v := 12) hx hb dX2_retreatField_20 (by decide) ?_
      refine lv_icmp_ge (tgt := 70) hx hb dX2_retreatField_22 (by decide) (fun hc => ?_) (fun hc => ?_)
      · replace hg := if_yes hg hc
        refine lv_iconst (v := (-1)) hx hb dX2_retreatField_70 (by decide) ?_
        cases hg
        exact fin _ _ dX2_retreatField_71
      · replace hg := if_no hg hc
        refine lv_aload_n hx hb dX2_retreatField_25 rfl (lv_at hl 2 rfl) ?_
        refine xget (ci := 2) (C := RX2) (T := TX2) (N := 8) (v := .ref A_t_board) hx hb hts in_X2_retreatField_X2 hown hK hP 0 rfl rfl 0 (by decide) wd_X2_retreatField_1 rfl dX2_retreatField_26 ?_
        refine lv_iload_n hx hb dX2_retreatField_29 rfl (lv_at hl 3 rfl) ?_
        refine lv_iconst (v := 1) hx hb dX2_retreatField_30 (by decide) ?_
        obtain ⟨v4, hq, hg⟩ := bind_ex hg
        refine callRVi (As := [.int x1, .int 1]) (rest := []) S hK hP (c_X0_of l D cI cZ cB cJ A_t_board A_t_board_numbers A_t_board_owners A_t_board_cells V_t_board_cells x1 1 v4 hq) [2, 3] rfl (cwV 2 hts gX2_retreatField_X0_of rfl rfl rfl hd_X0_of ⟨Nat.le_of_ble_eq_true rfl, Nat.le_of_ble_eq_true rfl⟩) rfl rfl rfl hl.1 rfl (Nat.le_of_ble_eq_true rfl) dX2_retreatField_31 ⟨Nat.zero_le _, Nat.zero_le _⟩ ?_
        refine lv_iload_n hx hb dX2_retreatField_34 rfl (lv_at hl 0 rfl) ?_
        obtain ⟨v5, hq, hg⟩ := bind_ex hg
        refine callRNz (As := [.int v4, .int v3]) (rest := []) S hK hP (c_X4_areNeighbours l D cI cZ cB cJ v4 v3 v5 hq) [] rfl ⟨va_cnB 2 hts gX2_retreatField_X4_areNeighbours_n115 rfl rfl rfl (hK.2 _ (List.mem_of_getElem? (i := 9) rfl)) (hts _ wd_X2_retreatField_4) hd_X4_areNeighbours ⟨Nat.le_of_ble_eq_true rfl, Nat.le_of_ble_eq_true rfl⟩, hts _ wd_X2_retreatField_12, trivial⟩ rfl hl.1 rfl (Nat.le_of_ble_eq_true rfl) dX2_retreatField_35 ⟨Nat.zero_le _, Nat.zero_le _⟩ (fun hz_v5 => ?_)
        refine lv_if_eq (tgt := 64) hx hb dX2_retreatField_38 (by decide) (fun hc => ?_) (fun hc => ?_)
        · replace hg := if_yes hg hc
          refine lv_iinc (v := (v3 + 1)) (lv' := [(3, .int (v3 + 1)), (2, .int v2), (0, .ref A_t), (1, .int x1)]) hx hb dX2_retreatField_64 hl (k := 0) rfl rfl (by decide) rfl (fun ls hl => ?_)
          refine lv_goto (tgt := 19) hx hb dX2_retreatField_67 (by decide) ?_
          exact ih _ _ (lv_sub hl [0, 1, 2, 3] rfl) hg
        · replace hg := if_no hg hc
          refine lv_iload_n hx hb dX2_retreatField_41 rfl (lv_at hl 0 rfl) ?_
          refine lv_iload_n hx hb dX2_retreatField_42 rfl (lv_at hl 1 rfl) ?_
          refine lv_icmp_eq (tgt := 64) hx hb dX2_retreatField_43 (by decide) (fun hc => ?_) (fun hc => ?_)
          · replace hg := if_yes hg hc
            refine lv_iinc (v := (v3 + 1)) (lv' := [(3, .int (v3 + 1)), (2, .int v2), (0, .ref A_t), (1, .int x1)]) hx hb dX2_retreatField_64 hl (k := 0) rfl rfl (by decide) rfl (fun ls hl => ?_)
            refine lv_goto (tgt := 19) hx hb dX2_retreatField_67 (by decide) ?_
            exact ih _ _ (lv_sub hl [0, 1, 2, 3] rfl) hg
          · replace hg := if_no hg hc
            refine lv_aload_n hx hb dX2_retreatField_46 rfl (lv_at hl 2 rfl) ?_
            refine lv_iload_n hx hb dX2_retreatField_47 rfl (lv_at hl 0 rfl) ?_
            obtain ⟨v6, hq, hg⟩ := bind_ex hg
            refine callRVz (As := [.int v3]) (rest := []) S hK hP (c_X2_isTaken l D cI cZ cB cJ A_t A_t_board A_t_cut A_t_counts A_t_strength A_t_reason A_t_driver A_t_waits A_t_stands A_t_board_numbers A_t_board_owners A_t_board_cells V_t_board_numbers V_t_stands v3 v6 hq) [0, 2, 4, 5] rfl (cwV 1 hts gX2_retreatField_X2_isTaken rfl rfl rfl hd_X2_isTaken ⟨Nat.le_of_ble_eq_true rfl, Nat.le_of_ble_eq_true rfl⟩) rfl rfl rfl hl.1 rfl (Nat.le_of_ble_eq_true rfl) dX2_retreatField_48 ⟨Nat.zero_le _, Nat.zero_le _⟩ (fun hz_v6 => ?_)
            refine lv_if_ne (tgt := 64) hx hb dX2_retreatField_51 (by decide) (fun hc => ?_) (fun hc => ?_)
            · replace hg := if_no hg hc
              refine lv_iinc (v := (v3 + 1)) (lv' := [(3, .int (v3 + 1)), (2, .int v2), (0, .ref A_t), (1, .int x1)]) hx hb dX2_retreatField_64 hl (k := 0) rfl rfl (by decide) rfl (fun ls hl => ?_)
              refine lv_goto (tgt := 19) hx hb dX2_retreatField_67 (by decide) ?_
              exact ih _ _ (lv_sub hl [0, 1, 2, 3] rfl) hg
            · replace hg := if_yes hg hc
              refine lv_aload_n hx hb dX2_retreatField_54 rfl (lv_at hl 2 rfl) ?_
              refine lv_iload_n hx hb dX2_retreatField_55 rfl (lv_at hl 0 rfl) ?_
              obtain ⟨v7, hq, hg⟩ := bind_ex hg
              refine callRVz (As := [.int v3]) (rest := []) S hK hP (c_X2_wasFoughtFor l D cI cZ cB cJ A_t A_t_board A_t_cut A_t_counts A_t_strength A_t_reason A_t_driver A_t_waits A_t_stands A_t_board_numbers A_t_board_owners A_t_board_cells V_t_board_numbers V_t_reason V_t_board_cells v3 v7 hq) [0, 2, 4, 6, 3] rfl (cwV 1 hts gX2_retreatField_X2_wasFoughtFor rfl rfl rfl hd_X2_wasFoughtFor ⟨Nat.le_of_ble_eq_true rfl, Nat.le_of_ble_eq_true rfl⟩) rfl rfl rfl hl.1 rfl (Nat.le_of_ble_eq_true rfl) dX2_retreatField_56 ⟨Nat.zero_le _, Nat.zero_le _⟩ (fun hz_v7 => ?_)
              refine lv_if_ne (tgt := 64) hx hb dX2_retreatField_59 (by decide) (fun hc => ?_) (fun hc => ?_)
              · replace hg := if_no hg hc
                refine lv_iinc (v := (v3 + 1)) (lv' := [(3, .int (v3 + 1)), (2, .int v2), (0, .ref A_t), (1, .int x1)]) hx hb dX2_retreatField_64 hl (k := 0) rfl rfl (by decide) rfl (fun ls hl => ?_)
                refine lv_goto (tgt := 19) hx hb dX2_retreatField_67 (by decide) ?_
                exact ih _ _ (lv_sub hl [0, 1, 2, 3] rfl) hg
              · replace hg := if_yes hg hc
                refine lv_iload_n hx hb dX2_retreatField_62 rfl (lv_at hl 0 rfl) ?_
                cases hg
                exact fin _ _ dX2_retreatField_63
  exact L FU _ _ (lv_sub hl [0, 1, 2, 3] rfl) hg
theorem hd_X2_retreatAll : yX2_retreatAll.cls = RX2 ∧ yX2_retreatAll.cls ≠ "java/lang/invoke/MethodHandle" ∧ yX2_retreatAll.cls ≠ "java/lang/invoke/VarHandle" ∧ (parseMethodDescriptor yX2_retreatAll.desc).map (fun d => d.parameters.length) = some 0 := by decide +kernel
theorem in_X2_retreatAll_X2 : ∀ w ∈ u_ws RX2 TX2 8, w ∈ wsX2_retreatAll := fun _ h => List.mem_cons_of_mem _ (List.mem_append_left _ (List.mem_append_right _ h))
theorem wd_X2_retreatAll_1 : Cond.fieldLink RX2 12 "FogOrders$Opening" "board" "LFogOrders$Board;" ∈ wsX2_retreatAll := List.mem_of_getElem? (i := 1) rfl
theorem wd_X2_retreatAll_2 : Cond.fieldLink RX2 37 "FogOrders$Opening" "stands" "[I" ∈ wsX2_retreatAll := List.mem_of_getElem? (i := 2) rfl
theorem wd_X2_retreatAll_18 : Cond.initialized RX4 ∈ wsX2_retreatAll := List.mem_of_getElem? (i := 18) rfl
theorem wd_X2_retreatAll_40 : Cond.static yX4_enter ∈ wsX2_retreatAll := List.mem_of_getElem? (i := 40) rfl
theorem wd_X2_retreatAll_3 : Cond.fieldLink RX2 34 "FogOrders$Opening" "waits" "[I" ∈ wsX2_retreatAll := List.mem_of_getElem? (i := 3) rfl
abbrev rX2_retreatAll : Room := { frames := 3, cells := 0, slots := 0, locals := 68 }
set_option maxHeartbeats 4000000 in
set_option maxRecDepth 100000 in
theorem c_X2_retreatAll (l : Launch) (D : va_G) (cI cZ cB cJ : ClassId) (A_t : Nat) (A_t_board : Nat) (A_t_cut : Nat) (A_t_counts : Nat) (A_t_strength : Nat) (A_t_reason : Nat) (A_t_driver : Nat) (A_t_waits : Nat) (A_t_stands : Nat) (A_t_board_numbers : Nat) (A_t_board_owners : Nat) (A_t_board_cells : Nat) (sz : Nat) (V_t_board_numbers : Nat → Int32) (V_t_driver : Nat → Int32) (V_t_waits : Nat → Int32) (V_t_strength : Nat → Int32) (V_t_board_cells : Nat → Int32) (V_t_stands : Nat → Int32) (V_t_reason : Nat → Int32) (w1 : Nat → Int32) (w2 : Nat → Int32) (hg : g_X2_retreatAll V_t_board_numbers V_t_driver V_t_waits V_t_strength V_t_board_cells V_t_stands V_t_reason = some (w1, w2)) : Met l yX2_retreatAll wsX2_retreatAll rX2_retreatAll (PcW D cI cZ cB cJ sz [(A_t, .inr (2, [.ref A_t_board, .ref A_t_cut, .ref A_t_counts, .ref A_t_strength, .ref A_t_reason, .ref A_t_driver, .ref A_t_waits, .ref A_t_stands])), (A_t_board, .inr (0, [.ref A_t_board_numbers, .ref A_t_board_owners, .ref A_t_board_cells])), (A_t_board_numbers, .inl (cI, 10, .inl V_t_board_numbers)), (A_t_driver, .inl (cI, 9, .inl V_t_driver)), (A_t_waits, .inl (cI, 9, .inl V_t_waits)), (A_t_strength, .inl (cI, 9, .inl V_t_strength)), (A_t_board_cells, .inl (cI, 63, .inl V_t_board_cells)), (A_t_stands, .inl (cI, 9, .inl V_t_stands)), (A_t_reason, .inl (cI, 9, .inl V_t_reason))] [.ref A_t]) (QWv D cI cZ cB cJ sz [(A_t, .inr (2, [.ref A_t_board, .ref A_t_cut, .ref A_t_counts, .ref A_t_strength, .ref A_t_reason, .ref A_t_driver, .ref A_t_waits, .ref A_t_stands])), (A_t_board, .inr (0, [.ref A_t_board_numbers, .ref A_t_board_owners, .ref A_t_board_cells])), (A_t_board_numbers, .inl (cI, 10, .inl V_t_board_numbers)), (A_t_driver, .inl (cI, 9, .inl V_t_driver)), (A_t_waits, .inl (cI, 9, .inl V_t_waits)), (A_t_strength, .inl (cI, 9, .inl V_t_strength)), (A_t_board_cells, .inl (cI, 63, .inl V_t_board_cells)), (A_t_stands, .inl (cI, 9, .inl V_t_stands)), (A_t_reason, .inl (cI, 9, .inl V_t_reason))] [(A_t, .inr (2, [.ref A_t_board, .ref A_t_cut, .ref A_t_counts, .ref A_t_strength, .ref A_t_reason, .ref A_t_driver, .ref A_t_waits, .ref A_t_stands])), (A_t_board, .inr (0, [.ref A_t_board_numbers, .ref A_t_board_owners, .ref A_t_board_cells])), (A_t_board_numbers, .inl (cI, 10, .inl V_t_board_numbers)), (A_t_driver, .inl (cI, 9, .inl V_t_driver)), (A_t_waits, .inl (cI, 9, .inl w1)), (A_t_strength, .inl (cI, 9, .inl V_t_strength)), (A_t_board_cells, .inl (cI, 63, .inl V_t_board_cells)), (A_t_stands, .inl (cI, 9, .inl w2)), (A_t_reason, .inl (cI, 9, .inl V_t_reason))]) 0 0 (va_A [(A_t, .inr (2, [.ref A_t_board, .ref A_t_cut, .ref A_t_counts, .ref A_t_strength, .ref A_t_reason, .ref A_t_driver, .ref A_t_waits, .ref A_t_stands])), (A_t_board, .inr (0, [.ref A_t_board_numbers, .ref A_t_board_owners, .ref A_t_board_cells])), (A_t_board_numbers, .inl (cI, 10, .inl V_t_board_numbers)), (A_t_driver, .inl (cI, 9, .inl V_t_driver)), (A_t_waits, .inl (cI, 9, .inl V_t_waits)), (A_t_strength, .inl (cI, 9, .inl V_t_strength)), (A_t_board_cells, .inl (cI, 63, .inl V_t_board_cells)), (A_t_stands, .inl (cI, 9, .inl V_t_stands)), (A_t_reason, .inl (cI, 9, .inl V_t_reason))] sz) := by
  refine bodyWv (cc := cX2_retreatAll) (maxL := 3) (lv := [(0, .ref A_t)]) (by decide) rfl (Nat.le_of_ble_eq_true rfl) rfl ?_
  intro p e s m args below meth c Q hx hb hml hown hts A hP hK hD hA hS fin ls hl
  replace hown : s.vm.findClass RX2 = some m.cls := hown
  have S : CallFix p m c cX2_retreatAll 3 s args wsX2_retreatAll RX2 := ⟨hx, hb, hml, hown, hts⟩
  unfold g_X2_retreatAll at hg
  refine lv_iconst (v := 0) hx hb dX2_retreatAll_0 (by decide) ?_
  refine lv_istore_n (lv' := [(1, .int 0), (0, .ref A_t)]) hx hb dX2_retreatAll_1 rfl hl (by decide) rfl (fun ls hl => ?_)
  have L : ∀ (nf : Nat) (v1 : Int32) (f2 : Nat → Int32) (f3 : Nat → Int32), ∀ (H : Heap) (locs : List Loc), va_P D vwCl [(A_t, .inr (2, [.ref A_t_board, .ref A_t_cut, .ref A_t_counts, .ref A_t_strength, .ref A_t_reason, .ref A_t_driver, .ref A_t_waits, .ref A_t_stands])), (A_t_board, .inr (0, [.ref A_t_board_numbers, .ref A_t_board_owners, .ref A_t_board_cells])), (A_t_board_numbers, .inl (cI, 10, .inl V_t_board_numbers)), (A_t_driver, .inl (cI, 9, .inl V_t_driver)), (A_t_waits, .inl (cI, 9, .inl f3)), (A_t_strength, .inl (cI, 9, .inl V_t_strength)), (A_t_board_cells, .inl (cI, 63, .inl V_t_board_cells)), (A_t_stands, .inl (cI, 9, .inl f2)), (A_t_reason, .inl (cI, 9, .inl V_t_reason))] H → va_D A [(A_t, .inr (2, [.ref A_t_board, .ref A_t_cut, .ref A_t_counts, .ref A_t_strength, .ref A_t_reason, .ref A_t_driver, .ref A_t_waits, .ref A_t_stands])), (A_t_board, .inr (0, [.ref A_t_board_numbers, .ref A_t_board_owners, .ref A_t_board_cells])), (A_t_board_numbers, .inl (cI, 10, .inl V_t_board_numbers)), (A_t_driver, .inl (cI, 9, .inl V_t_driver)), (A_t_waits, .inl (cI, 9, .inl f3)), (A_t_strength, .inl (cI, 9, .inl V_t_strength)), (A_t_board_cells, .inl (cI, 63, .inl V_t_board_cells)), (A_t_stands, .inl (cI, 9, .inl f2)), (A_t_reason, .inl (cI, 9, .inl V_t_reason))] → va_S A s.heap H locs → ∀ ls : Array Slot, lv_has ls 3 [(1, .int v1), (0, .ref A_t)] → g_X2_retreatAll_L1 V_t_board_numbers V_t_driver V_t_strength V_t_board_cells V_t_reason nf v1 f2 f3 = some (w1, w2) → W p l e rX2_retreatAll s m args below meth c H locs 0 0 Q (F0 m 2 ls []) := by
    intro nf
    induction nf with
    | zero =>
      intro v1 f2 f3 H locs hP hD hS ls hl hg
      exact no_some hg
    | succ nf ih =>
      intro v1 f2 f3 H locs hP hD hS ls hl hg
      rw [g_X2_retreatAll_L1] at hg
      refine lv_iload_n hx hb dX2_retreatAll_2 rfl (lv_at hl 0 rfl) ?_
      refine lv_aload_n hx hb dX2_retreatAll_3 rfl (lv_at hl 1 rfl) ?_
      refine xget (ci := 2) (C := RX2) (T := TX2) (N := 8) (v := .ref A_t_board) hx hb hts in_X2_retreatAll_X2 hown hK hP 0 rfl rfl 0 (by decide) wd_X2_retreatAll_1 rfl dX2_retreatAll_4 ?_
      refine lv_iconst (v := 0) hx hb dX2_retreatAll_7 (by decide) ?_
      obtain ⟨v4, hq, hg⟩ := bind_ex hg
      refine callRVi (As := [.int 0]) (rest := [.int v1]) S hK hP (c_X0_number l D cI cZ cB cJ A_t_board A_t_board_numbers A_t_board_owners A_t_board_cells V_t_board_numbers 0 v4 hq) [1, 2] rfl (cwV 1 hts gX2_retreatAll_X0_number rfl rfl rfl hd_X0_number ⟨Nat.le_of_ble_eq_true rfl, Nat.le_of_ble_eq_true rfl⟩) rfl rfl rfl hl.1 rfl (Nat.le_of_ble_eq_true rfl) dX2_retreatAll_8 ⟨Nat.zero_le _, Nat.zero_le _⟩ ?_
      refine lv_icmp_ge (tgt := 54) hx hb dX2_retreatAll_11 (by decide) (fun hc => ?_) (fun hc => ?_)
      · replace hg := if_yes hg hc
        cases hg
        exact fin _ _ _ _ dX2_retreatAll_54 hP hD hS
      · replace hg := if_no hg hc
        refine lv_aload_n hx hb dX2_retreatAll_14 rfl (lv_at hl 1 rfl) ?_
        refine lv_iconst (v := 1) hx hb dX2_retreatAll_15 (by decide) ?_
        obtain ⟨v5, hq, hg⟩ := bind_ex hg
        refine callRVi (As := [.int 1]) (rest := []) S hK hP (c_X2_strongestDriven l D cI cZ cB cJ A_t A_t_board A_t_cut A_t_counts A_t_strength A_t_reason A_t_driver A_t_waits A_t_stands A_t_board_numbers A_t_board_owners A_t_board_cells V_t_board_numbers V_t_driver f3 V_t_strength 1 v5 hq) [0, 1, 2, 3, 4, 5] rfl (cwV 1 hts gX2_retreatAll_X2_strongestDriven rfl rfl rfl hd_X2_strongestDriven ⟨Nat.le_of_ble_eq_true rfl, Nat.le_of_ble_eq_true rfl⟩) rfl rfl rfl hl.1 rfl (Nat.le_of_ble_eq_true rfl) dX2_retreatAll_16 ⟨Nat.zero_le _, Nat.zero_le _⟩ ?_
        refine lv_istore_n (lv' := [(2, .int v5), (1, .int v1), (0, .ref A_t)]) hx hb dX2_retreatAll_19 rfl hl (by decide) rfl (fun ls hl => ?_)
        refine lv_iload_n hx hb dX2_retreatAll_20 rfl (lv_at hl 0 rfl) ?_
        refine lv_iconst (v := (-1)) hx hb dX2_retreatAll_21 (by decide) ?_
        refine lv_icmp_ne (tgt := 26) hx hb dX2_retreatAll_22 (by decide) (fun hc => ?_) (fun hc => ?_)
        · replace hg := if_no hg hc
          refine lv_aload_n hx hb dX2_retreatAll_26 rfl (lv_at hl 2 rfl) ?_
          refine xget (ci := 2) (C := RX2) (T := TX2) (N := 8) (v := .ref A_t_stands) hx hb hts in_X2_retreatAll_X2 hown hK hP 0 rfl rfl 7 (by decide) wd_X2_retreatAll_2 rfl dX2_retreatAll_27 ?_
          refine lv_iload_n hx hb dX2_retreatAll_30 rfl (lv_at hl 0 rfl) ?_
          refine lv_aload_n hx hb dX2_retreatAll_31 rfl (lv_at hl 2 rfl) ?_
          refine lv_iload_n hx hb dX2_retreatAll_32 rfl (lv_at hl 0 rfl) ?_
          obtain ⟨v6, hq, hg⟩ := bind_ex hg
          refine callRVi (As := [.int v5]) (rest := [.int v5, .ref A_t_stands]) S hK hP (c_X2_retreatField l D cI cZ cB cJ A_t A_t_board A_t_cut A_t_counts A_t_strength A_t_reason A_t_driver A_t_waits A_t_stands A_t_board_numbers A_t_board_owners A_t_board_cells V_t_driver V_t_board_cells V_t_board_numbers f2 V_t_reason v5 v6 hq) [0, 3, 1, 6, 2, 7, 8] rfl (cwV 1 hts gX2_retreatAll_X2_retreatField rfl rfl rfl hd_X2_retreatField ⟨Nat.le_of_ble_eq_true rfl, Nat.le_of_ble_eq_true rfl⟩) rfl rfl rfl hl.1 rfl (Nat.le_of_ble_eq_true rfl) dX2_retreatAll_33 ⟨Nat.zero_le _, Nat.zero_le _⟩ ?_
          obtain ⟨f7, hq, hg⟩ := bind_ex hg
          refine callWNv (As := [.ref A_t_stands, .int v5, .int v6]) (rest := []) (wr := [(A_t, .inr (2, [.ref A_t_board, .ref A_t_cut, .ref A_t_counts, .ref A_t_strength, .ref A_t_reason, .ref A_t_driver, .ref A_t_waits, .ref A_t_stands])), (A_t_board, .inr (0, [.ref A_t_board_numbers, .ref A_t_board_owners, .ref A_t_board_cells])), (A_t_board_numbers, .inl (cI, 10, .inl V_t_board_numbers)), (A_t_driver, .inl (cI, 9, .inl V_t_driver)), (A_t_waits, .inl (cI, 9, .inl f3)), (A_t_strength, .inl (cI, 9, .inl V_t_strength)), (A_t_board_cells, .inl (cI, 63, .inl V_t_board_cells)), (A_t_reason, .inl (cI, 9, .inl V_t_reason))]) S hK hP hD hS hA (c_X4_enter l D cI cZ cB cJ A_t_stands 9 _ f2 v5 v6 f7 hq) [7] [0, 1, 2, 3, 4, 5, 6, 8] rfl rfl (by decide +kernel) (by decide +kernel) (by decide +kernel) ⟨va_cnB 3 hts gX2_retreatAll_X4_enter_n76 rfl rfl rfl (hK.2 _ (List.mem_of_getElem? (i := 7) rfl)) (hts _ wd_X2_retreatAll_18) hd_X4_enter ⟨Nat.le_of_ble_eq_true rfl, Nat.le_of_ble_eq_true rfl⟩, hts _ wd_X2_retreatAll_40, trivial⟩ rfl hl.1 rfl (Nat.le_of_ble_eq_true rfl) dX2_retreatAll_36 ⟨Nat.zero_le _, Nat.zero_le _⟩ (fun H locs hP hD hS => ?_)
          replace hP : va_P D vwCl [(A_t, .inr (2, [.ref A_t_board, .ref A_t_cut, .ref A_t_counts, .ref A_t_strength, .ref A_t_reason, .ref A_t_driver, .ref A_t_waits, .ref A_t_stands])), (A_t_board, .inr (0, [.ref A_t_board_numbers, .ref A_t_board_owners, .ref A_t_board_cells])), (A_t_board_numbers, .inl (cI, 10, .inl V_t_board_numbers)), (A_t_driver, .inl (cI, 9, .inl V_t_driver)), (A_t_waits, .inl (cI, 9, .inl f3)), (A_t_strength, .inl (cI, 9, .inl V_t_strength)), (A_t_board_cells, .inl (cI, 63, .inl V_t_board_cells)), (A_t_reason, .inl (cI, 9, .inl V_t_reason)), (A_t_stands, .inl (cI, 9, .inl f7))] H := hP
          replace hD : va_D A [(A_t, .inr (2, [.ref A_t_board, .ref A_t_cut, .ref A_t_counts, .ref A_t_strength, .ref A_t_reason, .ref A_t_driver, .ref A_t_waits, .ref A_t_stands])), (A_t_board, .inr (0, [.ref A_t_board_numbers, .ref A_t_board_owners, .ref A_t_board_cells])), (A_t_board_numbers, .inl (cI, 10, .inl V_t_board_numbers)), (A_t_driver, .inl (cI, 9, .inl V_t_driver)), (A_t_waits, .inl (cI, 9, .inl f3)), (A_t_strength, .inl (cI, 9, .inl V_t_strength)), (A_t_board_cells, .inl (cI, 63, .inl V_t_board_cells)), (A_t_reason, .inl (cI, 9, .inl V_t_reason)), (A_t_stands, .inl (cI, 9, .inl f7))] := hD
          refine lv_aload_n hx hb dX2_retreatAll_39 rfl (lv_at hl 2 rfl) ?_
          refine xget (ci := 2) (C := RX2) (T := TX2) (N := 8) (v := .ref A_t_waits) hx hb hts in_X2_retreatAll_X2 hown hK hP 0 rfl rfl 6 (by decide) wd_X2_retreatAll_3 rfl dX2_retreatAll_40 ?_
          refine lv_iload_n hx hb dX2_retreatAll_43 rfl (lv_at hl 0 rfl) ?_
          refine lv_iconst (v := 0) hx hb dX2_retreatAll_44 (by decide) ?_
          obtain ⟨f8, hq, hg⟩ := bind_ex hg
          refine callWNv (As := [.ref A_t_waits, .int v5, .int 0]) (rest := []) (wr := [(A_t, .inr (2, [.ref A_t_board, .ref A_t_cut, .ref A_t_counts, .ref A_t_strength, .ref A_t_reason, .ref A_t_driver, .ref A_t_waits, .ref A_t_stands])), (A_t_board, .inr (0, [.ref A_t_board_numbers, .ref A_t_board_owners, .ref A_t_board_cells])), (A_t_board_numbers, .inl (cI, 10, .inl V_t_board_numbers)), (A_t_driver, .inl (cI, 9, .inl V_t_driver)), (A_t_strength, .inl (cI, 9, .inl V_t_strength)), (A_t_board_cells, .inl (cI, 63, .inl V_t_board_cells)), (A_t_reason, .inl (cI, 9, .inl V_t_reason)), (A_t_stands, .inl (cI, 9, .inl f7))]) S hK hP hD hS hA (c_X4_enter l D cI cZ cB cJ A_t_waits 9 _ f3 v5 0 f8 hq) [4] [0, 1, 2, 3, 5, 6, 7, 8] rfl rfl (by decide +kernel) (by decide +kernel) (by decide +kernel) ⟨va_cnB 3 hts gX2_retreatAll_X4_enter_n76 rfl rfl rfl (hK.2 _ (List.mem_of_getElem? (i := 7) rfl)) (hts _ wd_X2_retreatAll_18) hd_X4_enter ⟨Nat.le_of_ble_eq_true rfl, Nat.le_of_ble_eq_true rfl⟩, hts _ wd_X2_retreatAll_40, trivial⟩ rfl hl.1 rfl (Nat.le_of_ble_eq_true rfl) dX2_retreatAll_45 ⟨Nat.zero_le _, Nat.zero_le _⟩ (fun H locs hP hD hS => ?_)
          replace hP : va_P D vwCl [(A_t, .inr (2, [.ref A_t_board, .ref A_t_cut, .ref A_t_counts, .ref A_t_strength, .ref A_t_reason, .ref A_t_driver, .ref A_t_waits, .ref A_t_stands])), (A_t_board, .inr (0, [.ref A_t_board_numbers, .ref A_t_board_owners, .ref A_t_board_cells])), (A_t_board_numbers, .inl (cI, 10, .inl V_t_board_numbers)), (A_t_driver, .inl (cI, 9, .inl V_t_driver)), (A_t_strength, .inl (cI, 9, .inl V_t_strength)), (A_t_board_cells, .inl (cI, 63, .inl V_t_board_cells)), (A_t_reason, .inl (cI, 9, .inl V_t_reason)), (A_t_stands, .inl (cI, 9, .inl f7)), (A_t_waits, .inl (cI, 9, .inl f8))] H := hP
          replace hD : va_D A [(A_t, .inr (2, [.ref A_t_board, .ref A_t_cut, .ref A_t_counts, .ref A_t_strength, .ref A_t_reason, .ref A_t_driver, .ref A_t_waits, .ref A_t_stands])), (A_t_board, .inr (0, [.ref A_t_board_numbers, .ref A_t_board_owners, .ref A_t_board_cells])), (A_t_board_numbers, .inl (cI, 10, .inl V_t_board_numbers)), (A_t_driver, .inl (cI, 9, .inl V_t_driver)), (A_t_strength, .inl (cI, 9, .inl V_t_strength)), (A_t_board_cells, .inl (cI, 63, .inl V_t_board_cells)), (A_t_reason, .inl (cI, 9, .inl V_t_reason)), (A_t_stands, .inl (cI, 9, .inl f7)), (A_t_waits, .inl (cI, 9, .inl f8))] := hD
          refine lv_iinc (v := (v1 + 1)) (lv' := [(1, .int (v1 + 1)), (2, .int v5), (0, .ref A_t)]) hx hb dX2_retreatAll_48 hl (k := 1) rfl rfl (by decide) rfl (fun ls hl => ?_)
          refine lv_goto (tgt := 2) hx hb dX2_retreatAll_51 (by decide) ?_
          exact ih _ _ _ _ _ (hP.sub [0, 1, 2, 3, 8, 4, 5, 7, 6] rfl) (hD.sub [0, 1, 2, 3, 8, 4, 5, 7, 6] (by decide) rfl) hS _ (lv_sub hl [0, 2] rfl) hg
        · replace hg := if_yes hg hc
          cases hg
          exact fin _ _ _ _ dX2_retreatAll_25 hP hD hS
  exact L FU _ _ _ _ _ hP hD hS _ (lv_sub hl [0, 1] rfl) hg
theorem hd_X2_study : yX2_study.cls = RX2 ∧ yX2_study.cls ≠ "java/lang/invoke/MethodHandle" ∧ yX2_study.cls ≠ "java/lang/invoke/VarHandle" ∧ (parseMethodDescriptor yX2_study.desc).map (fun d => d.parameters.length) = some 0 := by decide +kernel
abbrev rX2_study : Room := { frames := 5, cells := 0, slots := 0, locals := 112 }
set_option maxHeartbeats 4000000 in
set_option maxRecDepth 100000 in
theorem c_X2_study (l : Launch) (D : va_G) (cI cZ cB cJ : ClassId) (A_t : Nat) (A_t_board : Nat) (A_t_cut : Nat) (A_t_counts : Nat) (A_t_strength : Nat) (A_t_reason : Nat) (A_t_driver : Nat) (A_t_waits : Nat) (A_t_stands : Nat) (A_t_board_numbers : Nat) (A_t_board_owners : Nat) (A_t_board_cells : Nat) (sz : Nat) (V_t_board_numbers : Nat → Int32) (V_t_board_cells : Nat → Int32) (V_t_cut : Nat → Int32) (V_t_counts : Nat → Int32) (V_t_strength : Nat → Int32) (V_t_reason : Nat → Int32) (V_t_driver : Nat → Int32) (V_t_waits : Nat → Int32) (V_t_stands : Nat → Int32) (w1 : Nat → Int32) (w2 : Nat → Int32) (w3 : Nat → Int32) (w4 : Nat → Int32) (w5 : Nat → Int32) (w6 : Nat → Int32) (w7 : Nat → Int32) (hg : g_X2_study V_t_board_numbers V_t_board_cells V_t_cut V_t_counts V_t_strength V_t_reason V_t_driver V_t_waits V_t_stands = some (w1, w2, w3, w4, w5, w6, w7)) : Met l yX2_study wsX2_study rX2_study (PcW D cI cZ cB cJ sz [(A_t, .inr (2, [.ref A_t_board, .ref A_t_cut, .ref A_t_counts, .ref A_t_strength, .ref A_t_reason, .ref A_t_driver, .ref A_t_waits, .ref A_t_stands])), (A_t_board, .inr (0, [.ref A_t_board_numbers, .ref A_t_board_owners, .ref A_t_board_cells])), (A_t_board_numbers, .inl (cI, 10, .inl V_t_board_numbers)), (A_t_board_cells, .inl (cI, 63, .inl V_t_board_cells)), (A_t_cut, .inl (cI, 9, .inl V_t_cut)), (A_t_counts, .inl (cI, 9, .inl V_t_counts)), (A_t_strength, .inl (cI, 9, .inl V_t_strength)), (A_t_reason, .inl (cI, 9, .inl V_t_reason)), (A_t_driver, .inl (cI, 9, .inl V_t_driver)), (A_t_waits, .inl (cI, 9, .inl V_t_waits)), (A_t_stands, .inl (cI, 9, .inl V_t_stands))] [.ref A_t]) (QWv D cI cZ cB cJ sz [(A_t, .inr (2, [.ref A_t_board, .ref A_t_cut, .ref A_t_counts, .ref A_t_strength, .ref A_t_reason, .ref A_t_driver, .ref A_t_waits, .ref A_t_stands])), (A_t_board, .inr (0, [.ref A_t_board_numbers, .ref A_t_board_owners, .ref A_t_board_cells])), (A_t_board_numbers, .inl (cI, 10, .inl V_t_board_numbers)), (A_t_board_cells, .inl (cI, 63, .inl V_t_board_cells)), (A_t_cut, .inl (cI, 9, .inl V_t_cut)), (A_t_counts, .inl (cI, 9, .inl V_t_counts)), (A_t_strength, .inl (cI, 9, .inl V_t_strength)), (A_t_reason, .inl (cI, 9, .inl V_t_reason)), (A_t_driver, .inl (cI, 9, .inl V_t_driver)), (A_t_waits, .inl (cI, 9, .inl V_t_waits)), (A_t_stands, .inl (cI, 9, .inl V_t_stands))] [(A_t, .inr (2, [.ref A_t_board, .ref A_t_cut, .ref A_t_counts, .ref A_t_strength, .ref A_t_reason, .ref A_t_driver, .ref A_t_waits, .ref A_t_stands])), (A_t_board, .inr (0, [.ref A_t_board_numbers, .ref A_t_board_owners, .ref A_t_board_cells])), (A_t_board_numbers, .inl (cI, 10, .inl V_t_board_numbers)), (A_t_board_cells, .inl (cI, 63, .inl V_t_board_cells)), (A_t_cut, .inl (cI, 9, .inl w1)), (A_t_counts, .inl (cI, 9, .inl w2)), (A_t_strength, .inl (cI, 9, .inl w3)), (A_t_reason, .inl (cI, 9, .inl w4)), (A_t_driver, .inl (cI, 9, .inl w5)), (A_t_waits, .inl (cI, 9, .inl w6)), (A_t_stands, .inl (cI, 9, .inl w7))]) 0 0 (va_A [(A_t, .inr (2, [.ref A_t_board, .ref A_t_cut, .ref A_t_counts, .ref A_t_strength, .ref A_t_reason, .ref A_t_driver, .ref A_t_waits, .ref A_t_stands])), (A_t_board, .inr (0, [.ref A_t_board_numbers, .ref A_t_board_owners, .ref A_t_board_cells])), (A_t_board_numbers, .inl (cI, 10, .inl V_t_board_numbers)), (A_t_board_cells, .inl (cI, 63, .inl V_t_board_cells)), (A_t_cut, .inl (cI, 9, .inl V_t_cut)), (A_t_counts, .inl (cI, 9, .inl V_t_counts)), (A_t_strength, .inl (cI, 9, .inl V_t_strength)), (A_t_reason, .inl (cI, 9, .inl V_t_reason)), (A_t_driver, .inl (cI, 9, .inl V_t_driver)), (A_t_waits, .inl (cI, 9, .inl V_t_waits)), (A_t_stands, .inl (cI, 9, .inl V_t_stands))] sz) := by
  refine bodyWv (cc := cX2_study) (maxL := 1) (lv := [(0, .ref A_t)]) (by decide) rfl (Nat.le_of_ble_eq_true rfl) rfl ?_
  intro p e s m args below meth c Q hx hb hml hown hts A hP hK hD hA hS fin ls hl
  replace hown : s.vm.findClass RX2 = some m.cls := hown
  have S : CallFix p m c cX2_study 1 s args wsX2_study RX2 := ⟨hx, hb, hml, hown, hts⟩
  unfold g_X2_study at hg
  refine lv_aload_n hx hb dX2_study_0 rfl (lv_at hl 0 rfl) ?_
  obtain ⟨f1, f2, f3, f4, hq, hg⟩ := b4_ex hg
  refine callWVv (As := []) (rest := []) (wr := [(A_t_driver, .inl (cI, 9, .inl V_t_driver)), (A_t_waits, .inl (cI, 9, .inl V_t_waits)), (A_t_stands, .inl (cI, 9, .inl V_t_stands))]) S hK hP hD hS hA (c_X2_decideMoves l D cI cZ cB cJ A_t A_t_board A_t_cut A_t_counts A_t_strength A_t_reason A_t_driver A_t_waits A_t_stands A_t_board_numbers A_t_board_owners A_t_board_cells _ V_t_board_numbers V_t_board_cells V_t_cut V_t_counts V_t_strength V_t_reason f1 f2 f3 f4 hq) [0, 1, 2, 3, 4, 5, 6, 7] [8, 9, 10] rfl rfl (by decide +kernel) (by decide +kernel) (by decide +kernel) (cwV 0 hts gX2_study_X2_decideMoves rfl rfl rfl hd_X2_decideMoves ⟨Nat.le_of_ble_eq_true rfl, Nat.le_of_ble_eq_true rfl⟩) rfl rfl rfl hl.1 rfl (Nat.le_of_ble_eq_true rfl) dX2_study_1 ⟨Nat.zero_le _, Nat.zero_le _⟩ (fun H locs hP hD hS => ?_)
  replace hP : va_P D vwCl [(A_t_driver, .inl (cI, 9, .inl V_t_driver)), (A_t_waits, .inl (cI, 9, .inl V_t_waits)), (A_t_stands, .inl (cI, 9, .inl V_t_stands)), (A_t, .inr (2, [.ref A_t_board, .ref A_t_cut, .ref A_t_counts, .ref A_t_strength, .ref A_t_reason, .ref A_t_driver, .ref A_t_waits, .ref A_t_stands])), (A_t_board, .inr (0, [.ref A_t_board_numbers, .ref A_t_board_owners, .ref A_t_board_cells])), (A_t_board_numbers, .inl (cI, 10, .inl V_t_board_numbers)), (A_t_board_cells, .inl (cI, 63, .inl V_t_board_cells)), (A_t_cut, .inl (cI, 9, .inl f1)), (A_t_counts, .inl (cI, 9, .inl f2)), (A_t_strength, .inl (cI, 9, .inl f3)), (A_t_reason, .inl (cI, 9, .inl f4))] H := hP
  replace hD : va_D A [(A_t_driver, .inl (cI, 9, .inl V_t_driver)), (A_t_waits, .inl (cI, 9, .inl V_t_waits)), (A_t_stands, .inl (cI, 9, .inl V_t_stands)), (A_t, .inr (2, [.ref A_t_board, .ref A_t_cut, .ref A_t_counts, .ref A_t_strength, .ref A_t_reason, .ref A_t_driver, .ref A_t_waits, .ref A_t_stands])), (A_t_board, .inr (0, [.ref A_t_board_numbers, .ref A_t_board_owners, .ref A_t_board_cells])), (A_t_board_numbers, .inl (cI, 10, .inl V_t_board_numbers)), (A_t_board_cells, .inl (cI, 63, .inl V_t_board_cells)), (A_t_cut, .inl (cI, 9, .inl f1)), (A_t_counts, .inl (cI, 9, .inl f2)), (A_t_strength, .inl (cI, 9, .inl f3)), (A_t_reason, .inl (cI, 9, .inl f4))] := hD
  refine lv_aload_n hx hb dX2_study_4 rfl (lv_at hl 0 rfl) ?_
  obtain ⟨f5, f6, f7, hq, hg⟩ := b3_ex hg
  refine callWVv (As := []) (rest := []) (wr := [(A_t_cut, .inl (cI, 9, .inl f1)), (A_t_counts, .inl (cI, 9, .inl f2)), (A_t_strength, .inl (cI, 9, .inl f3))]) S hK hP hD hS hA (c_X2_comeToFields l D cI cZ cB cJ A_t A_t_board A_t_cut A_t_counts A_t_strength A_t_reason A_t_driver A_t_waits A_t_stands A_t_board_numbers A_t_board_owners A_t_board_cells _ V_t_board_numbers V_t_board_cells f4 V_t_driver V_t_waits V_t_stands f5 f6 f7 hq) [3, 4, 5, 6, 10, 0, 1, 2] [7, 8, 9] rfl rfl (by decide +kernel) (by decide +kernel) (by decide +kernel) (cwV 0 hts gX2_study_X2_comeToFields rfl rfl rfl hd_X2_comeToFields ⟨Nat.le_of_ble_eq_true rfl, Nat.le_of_ble_eq_true rfl⟩) rfl rfl rfl hl.1 rfl (Nat.le_of_ble_eq_true rfl) dX2_study_5 ⟨Nat.zero_le _, Nat.zero_le _⟩ (fun H locs hP hD hS => ?_)
  replace hP : va_P D vwCl [(A_t_cut, .inl (cI, 9, .inl f1)), (A_t_counts, .inl (cI, 9, .inl f2)), (A_t_strength, .inl (cI, 9, .inl f3)), (A_t, .inr (2, [.ref A_t_board, .ref A_t_cut, .ref A_t_counts, .ref A_t_strength, .ref A_t_reason, .ref A_t_driver, .ref A_t_waits, .ref A_t_stands])), (A_t_board, .inr (0, [.ref A_t_board_numbers, .ref A_t_board_owners, .ref A_t_board_cells])), (A_t_board_numbers, .inl (cI, 10, .inl V_t_board_numbers)), (A_t_board_cells, .inl (cI, 63, .inl V_t_board_cells)), (A_t_reason, .inl (cI, 9, .inl f4)), (A_t_driver, .inl (cI, 9, .inl f5)), (A_t_waits, .inl (cI, 9, .inl f6)), (A_t_stands, .inl (cI, 9, .inl f7))] H := hP
  replace hD : va_D A [(A_t_cut, .inl (cI, 9, .inl f1)), (A_t_counts, .inl (cI, 9, .inl f2)), (A_t_strength, .inl (cI, 9, .inl f3)), (A_t, .inr (2, [.ref A_t_board, .ref A_t_cut, .ref A_t_counts, .ref A_t_strength, .ref A_t_reason, .ref A_t_driver, .ref A_t_waits, .ref A_t_stands])), (A_t_board, .inr (0, [.ref A_t_board_numbers, .ref A_t_board_owners, .ref A_t_board_cells])), (A_t_board_numbers, .inl (cI, 10, .inl V_t_board_numbers)), (A_t_board_cells, .inl (cI, 63, .inl V_t_board_cells)), (A_t_reason, .inl (cI, 9, .inl f4)), (A_t_driver, .inl (cI, 9, .inl f5)), (A_t_waits, .inl (cI, 9, .inl f6)), (A_t_stands, .inl (cI, 9, .inl f7))] := hD
  refine lv_aload_n hx hb dX2_study_8 rfl (lv_at hl 0 rfl) ?_
  obtain ⟨f8, f9, hq, hg⟩ := b2_ex hg
  refine callWVv (As := []) (rest := []) (wr := [(A_t_cut, .inl (cI, 9, .inl f1)), (A_t_counts, .inl (cI, 9, .inl f2))]) S hK hP hD hS hA (c_X2_retreatAll l D cI cZ cB cJ A_t A_t_board A_t_cut A_t_counts A_t_strength A_t_reason A_t_driver A_t_waits A_t_stands A_t_board_numbers A_t_board_owners A_t_board_cells _ V_t_board_numbers f5 f6 f3 V_t_board_cells f7 f4 f8 f9 hq) [3, 4, 5, 8, 9, 2, 6, 10, 7] [0, 1] rfl rfl (by decide +kernel) (by decide +kernel) (by decide +kernel) (cwV 0 hts gX2_study_X2_retreatAll rfl rfl rfl hd_X2_retreatAll ⟨Nat.le_of_ble_eq_true rfl, Nat.le_of_ble_eq_true rfl⟩) rfl rfl rfl hl.1 rfl (Nat.le_of_ble_eq_true rfl) dX2_study_9 ⟨Nat.zero_le _, Nat.zero_le _⟩ (fun H locs hP hD hS => ?_)
  replace hP : va_P D vwCl [(A_t_cut, .inl (cI, 9, .inl f1)), (A_t_counts, .inl (cI, 9, .inl f2)), (A_t, .inr (2, [.ref A_t_board, .ref A_t_cut, .ref A_t_counts, .ref A_t_strength, .ref A_t_reason, .ref A_t_driver, .ref A_t_waits, .ref A_t_stands])), (A_t_board, .inr (0, [.ref A_t_board_numbers, .ref A_t_board_owners, .ref A_t_board_cells])), (A_t_board_numbers, .inl (cI, 10, .inl V_t_board_numbers)), (A_t_driver, .inl (cI, 9, .inl f5)), (A_t_waits, .inl (cI, 9, .inl f8)), (A_t_strength, .inl (cI, 9, .inl f3)), (A_t_board_cells, .inl (cI, 63, .inl V_t_board_cells)), (A_t_stands, .inl (cI, 9, .inl f9)), (A_t_reason, .inl (cI, 9, .inl f4))] H := hP
  replace hD : va_D A [(A_t_cut, .inl (cI, 9, .inl f1)), (A_t_counts, .inl (cI, 9, .inl f2)), (A_t, .inr (2, [.ref A_t_board, .ref A_t_cut, .ref A_t_counts, .ref A_t_strength, .ref A_t_reason, .ref A_t_driver, .ref A_t_waits, .ref A_t_stands])), (A_t_board, .inr (0, [.ref A_t_board_numbers, .ref A_t_board_owners, .ref A_t_board_cells])), (A_t_board_numbers, .inl (cI, 10, .inl V_t_board_numbers)), (A_t_driver, .inl (cI, 9, .inl f5)), (A_t_waits, .inl (cI, 9, .inl f8)), (A_t_strength, .inl (cI, 9, .inl f3)), (A_t_board_cells, .inl (cI, 63, .inl V_t_board_cells)), (A_t_stands, .inl (cI, 9, .inl f9)), (A_t_reason, .inl (cI, 9, .inl f4))] := hD
  cases hg
  exact fin _ _ _ _ dX2_study_12 (hP.sub [2, 3, 4, 8, 0, 1, 7, 10, 5, 6, 9] rfl) (hD.sub [2, 3, 4, 8, 0, 1, 7, 10, 5, 6, 9] (by decide) rfl) hS
theorem hd_X2_outcome : yX2_outcome.cls = RX2 ∧ yX2_outcome.cls ≠ "java/lang/invoke/MethodHandle" ∧ yX2_outcome.cls ≠ "java/lang/invoke/VarHandle" ∧ (parseMethodDescriptor yX2_outcome.desc).map (fun d => d.parameters.length) = some 2 := by decide +kernel
theorem in_X2_outcome_X2 : ∀ w ∈ u_ws RX2 TX2 8, w ∈ wsX2_outcome := fun _ h => List.mem_cons_of_mem _ (List.mem_append_right _ h)
theorem wd_X2_outcome_1 : Cond.fieldLink RX2 37 "FogOrders$Opening" "stands" "[I" ∈ wsX2_outcome := List.mem_of_getElem? (i := 1) rfl
theorem wd_X2_outcome_8 : Cond.initialized RX4 ∈ wsX2_outcome := List.mem_of_getElem? (i := 8) rfl
theorem wd_X2_outcome_7 : Cond.static yX4_entry ∈ wsX2_outcome := List.mem_of_getElem? (i := 7) rfl
theorem wd_X2_outcome_2 : Cond.fieldLink RX2 25 "FogOrders$Opening" "strength" "[I" ∈ wsX2_outcome := List.mem_of_getElem? (i := 2) rfl
theorem wd_X2_outcome_3 : Cond.fieldLink RX2 28 "FogOrders$Opening" "reason" "[I" ∈ wsX2_outcome := List.mem_of_getElem? (i := 3) rfl
theorem wd_X2_outcome_4 : Cond.fieldLink RX2 31 "FogOrders$Opening" "driver" "[I" ∈ wsX2_outcome := List.mem_of_getElem? (i := 4) rfl
theorem wd_X2_outcome_5 : Cond.fieldLink RX2 22 "FogOrders$Opening" "counts" "[I" ∈ wsX2_outcome := List.mem_of_getElem? (i := 5) rfl
theorem wd_X2_outcome_6 : Cond.fieldLink RX2 18 "FogOrders$Opening" "cut" "[I" ∈ wsX2_outcome := List.mem_of_getElem? (i := 6) rfl
abbrev rX2_outcome : Room := { frames := 1, cells := 0, slots := 0, locals := 21 }
set_option maxHeartbeats 4000000 in
set_option maxRecDepth 100000 in
theorem c_X2_outcome (l : Launch) (D : va_G) (cI cZ cB cJ : ClassId) (A_t : Nat) (A_t_board : Nat) (A_t_cut : Nat) (A_t_counts : Nat) (A_t_strength : Nat) (A_t_reason : Nat) (A_t_driver : Nat) (A_t_waits : Nat) (A_t_stands : Nat) (V_t_stands : Nat → Int32) (V_t_strength : Nat → Int32) (V_t_reason : Nat → Int32) (V_t_driver : Nat → Int32) (V_t_counts : Nat → Int32) (V_t_cut : Nat → Int32) (x1 : Int32) (x2 : Int32) (r0 : Int32) (hg : g_X2_outcome V_t_stands V_t_strength V_t_reason V_t_driver V_t_counts V_t_cut x1 x2 = some r0) : Met l yX2_outcome wsX2_outcome rX2_outcome (PcR D cI cZ cB cJ [(A_t, .inr (2, [.ref A_t_board, .ref A_t_cut, .ref A_t_counts, .ref A_t_strength, .ref A_t_reason, .ref A_t_driver, .ref A_t_waits, .ref A_t_stands])), (A_t_stands, .inl (cI, 9, .inl V_t_stands)), (A_t_strength, .inl (cI, 9, .inl V_t_strength)), (A_t_reason, .inl (cI, 9, .inl V_t_reason)), (A_t_driver, .inl (cI, 9, .inl V_t_driver)), (A_t_counts, .inl (cI, 9, .inl V_t_counts)), (A_t_cut, .inl (cI, 9, .inl V_t_cut))] [.ref A_t, .int x1, .int x2]) (vp_Si (fun r' => r' = r0 ∧ True)) 0 0 (fun _ => False) := by
  refine bodyRi (cc := cX2_outcome) (maxL := 3) (lv := [(0, .ref A_t), (1, .int x1), (2, .int x2)]) (by decide) rfl (Nat.le_of_ble_eq_true rfl) rfl ?_
  intro p e s m args below meth c Q hx hb hml hown hts hP hK fin ls hl
  replace hown : s.vm.findClass RX2 = some m.cls := hown
  have S : CallFix p m c cX2_outcome 3 s args wsX2_outcome RX2 := ⟨hx, hb, hml, hown, hts⟩
  unfold g_X2_outcome at hg
  refine lv_iload_n hx hb dX2_outcome_0 rfl (lv_at hl 2 rfl) ?_
  by_cases hk0 : x2 = 0
  · replace hg := if_yes hg hk0
    refine lv_tableIn (off := 35) (tgt := 36) hx hb dX2_outcome_1 (by rw [hk0]; decide) (by rw [hk0]; decide) (by rw [hk0]; decide) (by decide) ?_
    refine lv_aload_n hx hb dX2_outcome_36 rfl (lv_at hl 0 rfl) ?_
    refine xget (ci := 2) (C := RX2) (T := TX2) (N := 8) (v := .ref A_t_stands) hx hb hts in_X2_outcome_X2 hown hK hP 0 rfl rfl 7 (by decide) wd_X2_outcome_1 rfl dX2_outcome_37 ?_
    refine lv_iload_n hx hb dX2_outcome_40 rfl (lv_at hl 1 rfl) ?_
    obtain ⟨v1, hq, hg⟩ := bind_ex hg
    refine callRNi (As := [.ref A_t_stands, .int x1]) (rest := []) S hK hP (c_X4_entry l D cI cZ cB cJ A_t_stands 9 V_t_stands x1 v1 hq) [1] rfl ⟨va_cnB 2 hts gX2_outcome_X4_entry_n89 rfl rfl rfl (hK.2 _ (List.mem_of_getElem? (i := 8) rfl)) (hts _ wd_X2_outcome_8) hd_X4_entry ⟨Nat.le_of_ble_eq_true rfl, Nat.le_of_ble_eq_true rfl⟩, hts _ wd_X2_outcome_7, trivial⟩ rfl hl.1 rfl (Nat.le_of_ble_eq_true rfl) dX2_outcome_41 ⟨Nat.zero_le _, Nat.zero_le _⟩ ?_
    cases hg
    exact fin _ _ dX2_outcome_44
  · replace hg := if_no hg hk0
    by_cases hk1 : x2 = 1
    · replace hg := if_yes hg hk1
      refine lv_tableIn (off := 44) (tgt := 45) hx hb dX2_outcome_1 (by rw [hk1]; decide) (by rw [hk1]; decide) (by rw [hk1]; decide) (by decide) ?_
      refine lv_aload_n hx hb dX2_outcome_45 rfl (lv_at hl 0 rfl) ?_
      refine xget (ci := 2) (C := RX2) (T := TX2) (N := 8) (v := .ref A_t_strength) hx hb hts in_X2_outcome_X2 hown hK hP 0 rfl rfl 3 (by decide) wd_X2_outcome_2 rfl dX2_outcome_46 ?_
      refine lv_iload_n hx hb dX2_outcome_49 rfl (lv_at hl 1 rfl) ?_
      obtain ⟨v2, hq, hg⟩ := bind_ex hg
      refine callRNi (As := [.ref A_t_strength, .int x1]) (rest := []) S hK hP (c_X4_entry l D cI cZ cB cJ A_t_strength 9 V_t_strength x1 v2 hq) [2] rfl ⟨va_cnB 2 hts gX2_outcome_X4_entry_n89 rfl rfl rfl (hK.2 _ (List.mem_of_getElem? (i := 8) rfl)) (hts _ wd_X2_outcome_8) hd_X4_entry ⟨Nat.le_of_ble_eq_true rfl, Nat.le_of_ble_eq_true rfl⟩, hts _ wd_X2_outcome_7, trivial⟩ rfl hl.1 rfl (Nat.le_of_ble_eq_true rfl) dX2_outcome_50 ⟨Nat.zero_le _, Nat.zero_le _⟩ ?_
      cases hg
      exact fin _ _ dX2_outcome_53
    · replace hg := if_no hg hk1
      by_cases hk2 : x2 = 2
      · replace hg := if_yes hg hk2
        refine lv_tableIn (off := 53) (tgt := 54) hx hb dX2_outcome_1 (by rw [hk2]; decide) (by rw [hk2]; decide) (by rw [hk2]; decide) (by decide) ?_
        refine lv_aload_n hx hb dX2_outcome_54 rfl (lv_at hl 0 rfl) ?_
        refine xget (ci := 2) (C := RX2) (T := TX2) (N := 8) (v := .ref A_t_reason) hx hb hts in_X2_outcome_X2 hown hK hP 0 rfl rfl 4 (by decide) wd_X2_outcome_3 rfl dX2_outcome_55 ?_
        refine lv_iload_n hx hb dX2_outcome_58 rfl (lv_at hl 1 rfl) ?_
        obtain ⟨v3, hq, hg⟩ := bind_ex hg
        refine callRNi (As := [.ref A_t_reason, .int x1]) (rest := []) S hK hP (c_X4_entry l D cI cZ cB cJ A_t_reason 9 V_t_reason x1 v3 hq) [3] rfl ⟨va_cnB 2 hts gX2_outcome_X4_entry_n89 rfl rfl rfl (hK.2 _ (List.mem_of_getElem? (i := 8) rfl)) (hts _ wd_X2_outcome_8) hd_X4_entry ⟨Nat.le_of_ble_eq_true rfl, Nat.le_of_ble_eq_true rfl⟩, hts _ wd_X2_outcome_7, trivial⟩ rfl hl.1 rfl (Nat.le_of_ble_eq_true rfl) dX2_outcome_59 ⟨Nat.zero_le _, Nat.zero_le _⟩ ?_
        cases hg
        exact fin _ _ dX2_outcome_62
      · replace hg := if_no hg hk2
        by_cases hk3 : x2 = 3
        · replace hg := if_yes hg hk3
          refine lv_tableIn (off := 62) (tgt := 63) hx hb dX2_outcome_1 (by rw [hk3]; decide) (by rw [hk3]; decide) (by rw [hk3]; decide) (by decide) ?_
          refine lv_aload_n hx hb dX2_outcome_63 rfl (lv_at hl 0 rfl) ?_
          refine xget (ci := 2) (C := RX2) (T := TX2) (N := 8) (v := .ref A_t_driver) hx hb hts in_X2_outcome_X2 hown hK hP 0 rfl rfl 5 (by decide) wd_X2_outcome_4 rfl dX2_outcome_64 ?_
          refine lv_iload_n hx hb dX2_outcome_67 rfl (lv_at hl 1 rfl) ?_
          obtain ⟨v4, hq, hg⟩ := bind_ex hg
          refine callRNi (As := [.ref A_t_driver, .int x1]) (rest := []) S hK hP (c_X4_entry l D cI cZ cB cJ A_t_driver 9 V_t_driver x1 v4 hq) [4] rfl ⟨va_cnB 2 hts gX2_outcome_X4_entry_n89 rfl rfl rfl (hK.2 _ (List.mem_of_getElem? (i := 8) rfl)) (hts _ wd_X2_outcome_8) hd_X4_entry ⟨Nat.le_of_ble_eq_true rfl, Nat.le_of_ble_eq_true rfl⟩, hts _ wd_X2_outcome_7, trivial⟩ rfl hl.1 rfl (Nat.le_of_ble_eq_true rfl) dX2_outcome_68 ⟨Nat.zero_le _, Nat.zero_le _⟩ ?_
          refine lv_iconst (v := (-1)) hx hb dX2_outcome_71 (by decide) ?_
          refine lv_icmp_ne (tgt := 79) hx hb dX2_outcome_72 (by decide) (fun hc => ?_) (fun hc => ?_)
          · replace hg := if_no hg hc
            refine lv_iconst (v := 1) hx hb dX2_outcome_79 (by decide) ?_
            cases hg
            exact fin _ _ dX2_outcome_80
          · replace hg := if_yes hg hc
            refine lv_iconst (v := 0) hx hb dX2_outcome_75 (by decide) ?_
            refine lv_goto (tgt := 80) hx hb dX2_outcome_76 (by decide) ?_
            cases hg
            exact fin _ _ dX2_outcome_80
        · replace hg := if_no hg hk3
          by_cases hk4 : x2 = 4
          · replace hg := if_yes hg hk4
            refine lv_tableIn (off := 80) (tgt := 81) hx hb dX2_outcome_1 (by rw [hk4]; decide) (by rw [hk4]; decide) (by rw [hk4]; decide) (by decide) ?_
            refine lv_aload_n hx hb dX2_outcome_81 rfl (lv_at hl 0 rfl) ?_
            refine xget (ci := 2) (C := RX2) (T := TX2) (N := 8) (v := .ref A_t_counts) hx hb hts in_X2_outcome_X2 hown hK hP 0 rfl rfl 2 (by decide) wd_X2_outcome_5 rfl dX2_outcome_82 ?_
            refine lv_iload_n hx hb dX2_outcome_85 rfl (lv_at hl 1 rfl) ?_
            obtain ⟨v5, hq, hg⟩ := bind_ex hg
            refine callRNi (As := [.ref A_t_counts, .int x1]) (rest := []) S hK hP (c_X4_entry l D cI cZ cB cJ A_t_counts 9 V_t_counts x1 v5 hq) [5] rfl ⟨va_cnB 2 hts gX2_outcome_X4_entry_n89 rfl rfl rfl (hK.2 _ (List.mem_of_getElem? (i := 8) rfl)) (hts _ wd_X2_outcome_8) hd_X4_entry ⟨Nat.le_of_ble_eq_true rfl, Nat.le_of_ble_eq_true rfl⟩, hts _ wd_X2_outcome_7, trivial⟩ rfl hl.1 rfl (Nat.le_of_ble_eq_true rfl) dX2_outcome_86 ⟨Nat.zero_le _, Nat.zero_le _⟩ ?_
            cases hg
            exact fin _ _ dX2_outcome_89
          · replace hg := if_no hg hk4
            refine lv_tableOut (tgt := 90) hx hb dX2_outcome_1 (sw_out (fun k h1 h2 => by rcases (show k = 0 ∨ k = 1 ∨ k = 2 ∨ k = 3 ∨ k = 4 by omega) with rfl | rfl | rfl | rfl | rfl <;> first | exact hk0 | exact hk1 | exact hk2 | exact hk3 | exact hk4)) (by decide) ?_
            refine lv_aload_n hx hb dX2_outcome_90 rfl (lv_at hl 0 rfl) ?_
            refine xget (ci := 2) (C := RX2) (T := TX2) (N := 8) (v := .ref A_t_cut) hx hb hts in_X2_outcome_X2 hown hK hP 0 rfl rfl 1 (by decide) wd_X2_outcome_6 rfl dX2_outcome_91 ?_
            refine lv_iload_n hx hb dX2_outcome_94 rfl (lv_at hl 1 rfl) ?_
            obtain ⟨v6, hq, hg⟩ := bind_ex hg
            refine callRNi (As := [.ref A_t_cut, .int x1]) (rest := []) S hK hP (c_X4_entry l D cI cZ cB cJ A_t_cut 9 V_t_cut x1 v6 hq) [6] rfl ⟨va_cnB 2 hts gX2_outcome_X4_entry_n89 rfl rfl rfl (hK.2 _ (List.mem_of_getElem? (i := 8) rfl)) (hts _ wd_X2_outcome_8) hd_X4_entry ⟨Nat.le_of_ble_eq_true rfl, Nat.le_of_ble_eq_true rfl⟩, hts _ wd_X2_outcome_7, trivial⟩ rfl hl.1 rfl (Nat.le_of_ble_eq_true rfl) dX2_outcome_95 ⟨Nat.zero_le _, Nat.zero_le _⟩ ?_
            cases hg
            exact fin _ _ dX2_outcome_98
theorem hd_X2_mostInDanger : yX2_mostInDanger.cls = RX2 ∧ yX2_mostInDanger.cls ≠ "java/lang/invoke/MethodHandle" ∧ yX2_mostInDanger.cls ≠ "java/lang/invoke/VarHandle" ∧ (parseMethodDescriptor yX2_mostInDanger.desc).map (fun d => d.parameters.length) = some 0 := by decide +kernel
abbrev rX2_mostInDanger : Room := { frames := 2, cells := 0, slots := 0, locals := 47 }
set_option maxHeartbeats 4000000 in
set_option maxRecDepth 100000 in
theorem c_X2_mostInDanger (l : Launch) (D : va_G) (cI cZ cB cJ : ClassId) (A_t : Nat) (A_t_board : Nat) (A_t_cut : Nat) (A_t_counts : Nat) (A_t_strength : Nat) (A_t_reason : Nat) (A_t_driver : Nat) (A_t_waits : Nat) (A_t_stands : Nat) (A_t_board_numbers : Nat) (A_t_board_owners : Nat) (A_t_board_cells : Nat) (V_t_board_numbers : Nat → Int32) (V_t_driver : Nat → Int32) (V_t_waits : Nat → Int32) (V_t_strength : Nat → Int32) (r0 : Int32) (hg : g_X2_mostInDanger V_t_board_numbers V_t_driver V_t_waits V_t_strength = some r0) : Met l yX2_mostInDanger wsX2_mostInDanger rX2_mostInDanger (PcR D cI cZ cB cJ [(A_t, .inr (2, [.ref A_t_board, .ref A_t_cut, .ref A_t_counts, .ref A_t_strength, .ref A_t_reason, .ref A_t_driver, .ref A_t_waits, .ref A_t_stands])), (A_t_board, .inr (0, [.ref A_t_board_numbers, .ref A_t_board_owners, .ref A_t_board_cells])), (A_t_board_numbers, .inl (cI, 10, .inl V_t_board_numbers)), (A_t_driver, .inl (cI, 9, .inl V_t_driver)), (A_t_waits, .inl (cI, 9, .inl V_t_waits)), (A_t_strength, .inl (cI, 9, .inl V_t_strength))] [.ref A_t]) (vp_Si (fun r' => r' = r0 ∧ True)) 0 0 (fun _ => False) := by
  refine bodyRi (cc := cX2_mostInDanger) (maxL := 1) (lv := [(0, .ref A_t)]) (by decide) rfl (Nat.le_of_ble_eq_true rfl) rfl ?_
  intro p e s m args below meth c Q hx hb hml hown hts hP hK fin ls hl
  replace hown : s.vm.findClass RX2 = some m.cls := hown
  have S : CallFix p m c cX2_mostInDanger 1 s args wsX2_mostInDanger RX2 := ⟨hx, hb, hml, hown, hts⟩
  unfold g_X2_mostInDanger at hg
  refine lv_aload_n hx hb dX2_mostInDanger_0 rfl (lv_at hl 0 rfl) ?_
  refine lv_iconst (v := 0) hx hb dX2_mostInDanger_1 (by decide) ?_
  obtain ⟨v1, hq, hg⟩ := bind_ex hg
  refine callRVi (As := [.int 0]) (rest := []) S hK hP (c_X2_strongestDriven l D cI cZ cB cJ A_t A_t_board A_t_cut A_t_counts A_t_strength A_t_reason A_t_driver A_t_waits A_t_stands A_t_board_numbers A_t_board_owners A_t_board_cells V_t_board_numbers V_t_driver V_t_waits V_t_strength 0 v1 hq) [0, 1, 2, 3, 4, 5] rfl (cwV 1 hts gX2_mostInDanger_X2_strongestDriven rfl rfl rfl hd_X2_strongestDriven ⟨Nat.le_of_ble_eq_true rfl, Nat.le_of_ble_eq_true rfl⟩) rfl rfl rfl hl.1 rfl (Nat.le_of_ble_eq_true rfl) dX2_mostInDanger_2 ⟨Nat.zero_le _, Nat.zero_le _⟩ ?_
  cases hg
  exact fin _ _ dX2_mostInDanger_5
theorem hd_X2_ownerThen : yX2_ownerThen.cls = RX2 ∧ yX2_ownerThen.cls ≠ "java/lang/invoke/MethodHandle" ∧ yX2_ownerThen.cls ≠ "java/lang/invoke/VarHandle" ∧ (parseMethodDescriptor yX2_ownerThen.desc).map (fun d => d.parameters.length) = some 1 := by decide +kernel
theorem in_X2_ownerThen_X2 : ∀ w ∈ u_ws RX2 TX2 8, w ∈ wsX2_ownerThen := fun _ h => List.mem_cons_of_mem _ (List.mem_append_left _ (List.mem_append_right _ h))
theorem wd_X2_ownerThen_1 : Cond.fieldLink RX2 12 "FogOrders$Opening" "board" "LFogOrders$Board;" ∈ wsX2_ownerThen := List.mem_of_getElem? (i := 1) rfl
theorem wd_X2_ownerThen_2 : Cond.fieldLink RX2 37 "FogOrders$Opening" "stands" "[I" ∈ wsX2_ownerThen := List.mem_of_getElem? (i := 2) rfl
theorem wd_X2_ownerThen_10 : Cond.initialized RX4 ∈ wsX2_ownerThen := List.mem_of_getElem? (i := 10) rfl
theorem wd_X2_ownerThen_9 : Cond.static yX4_entry ∈ wsX2_ownerThen := List.mem_of_getElem? (i := 9) rfl
abbrev rX2_ownerThen : Room := { frames := 1, cells := 0, slots := 0, locals := 23 }
set_option maxHeartbeats 4000000 in
set_option maxRecDepth 100000 in
theorem c_X2_ownerThen (l : Launch) (D : va_G) (cI cZ cB cJ : ClassId) (A_t : Nat) (A_t_board : Nat) (A_t_cut : Nat) (A_t_counts : Nat) (A_t_strength : Nat) (A_t_reason : Nat) (A_t_driver : Nat) (A_t_waits : Nat) (A_t_stands : Nat) (A_t_board_numbers : Nat) (A_t_board_owners : Nat) (A_t_board_cells : Nat) (V_t_board_numbers : Nat → Int32) (V_t_board_owners : Nat → Int32) (V_t_stands : Nat → Int32) (V_t_board_cells : Nat → Int32) (x1 : Int32) (r0 : Int32) (hg : g_X2_ownerThen V_t_board_numbers V_t_board_owners V_t_stands V_t_board_cells x1 = some r0) : Met l yX2_ownerThen wsX2_ownerThen rX2_ownerThen (PcR D cI cZ cB cJ [(A_t, .inr (2, [.ref A_t_board, .ref A_t_cut, .ref A_t_counts, .ref A_t_strength, .ref A_t_reason, .ref A_t_driver, .ref A_t_waits, .ref A_t_stands])), (A_t_board, .inr (0, [.ref A_t_board_numbers, .ref A_t_board_owners, .ref A_t_board_cells])), (A_t_board_numbers, .inl (cI, 10, .inl V_t_board_numbers)), (A_t_board_owners, .inl (cI, 12, .inl V_t_board_owners)), (A_t_stands, .inl (cI, 9, .inl V_t_stands)), (A_t_board_cells, .inl (cI, 63, .inl V_t_board_cells))] [.ref A_t, .int x1]) (vp_Si (fun r' => r' = r0 ∧ True)) 0 0 (fun _ => False) := by
  refine bodyRi (cc := cX2_ownerThen) (maxL := 3) (lv := [(0, .ref A_t), (1, .int x1)]) (by decide) rfl (Nat.le_of_ble_eq_true rfl) rfl ?_
  intro p e s m args below meth c Q hx hb hml hown hts hP hK fin ls hl
  replace hown : s.vm.findClass RX2 = some m.cls := hown
  have S : CallFix p m c cX2_ownerThen 3 s args wsX2_ownerThen RX2 := ⟨hx, hb, hml, hown, hts⟩
  unfold g_X2_ownerThen at hg
  refine lv_iconst (v := 0) hx hb dX2_ownerThen_0 (by decide) ?_
  refine lv_istore_n (lv' := [(2, .int 0), (0, .ref A_t), (1, .int x1)]) hx hb dX2_ownerThen_1 rfl hl (by decide) rfl (fun ls hl => ?_)
  have L : ∀ (nf : Nat) (v1 : Int32), ∀ ls : Array Slot, lv_has ls 3 [(2, .int v1), (0, .ref A_t), (1, .int x1)] → g_X2_ownerThen_L1 V_t_board_numbers V_t_board_owners x1 V_t_stands V_t_board_cells nf v1 = some r0 → W p l e rX2_ownerThen s m args below meth c s.heap [] 0 0 Q (F0 m 2 ls []) := by
    intro nf
    induction nf with
    | zero =>
      intro v1 ls hl hg
      exact no_some hg
    | succ nf ih =>
      intro v1 ls hl hg
      rw [g_X2_ownerThen_L1] at hg
      refine lv_iload_n hx hb dX2_ownerThen_2 rfl (lv_at hl 0 rfl) ?_
      refine lv_aload_n hx hb dX2_ownerThen_3 rfl (lv_at hl 1 rfl) ?_
      refine xget (ci := 2) (C := RX2) (T := TX2) (N := 8) (v := .ref A_t_board) hx hb hts in_X2_ownerThen_X2 hown hK hP 0 rfl rfl 0 (by decide) wd_X2_ownerThen_1 rfl dX2_ownerThen_4 ?_
      refine lv_iconst (v := 0) hx hb dX2_ownerThen_7 (by decide) ?_
      obtain ⟨v2, hq, hg⟩ := bind_ex hg
      refine callRVi (As := [.int 0]) (rest := [.int v1]) S hK hP (c_X0_number l D cI cZ cB cJ A_t_board A_t_board_numbers A_t_board_owners A_t_board_cells V_t_board_numbers 0 v2 hq) [1, 2] rfl (cwV 1 hts gX2_ownerThen_X0_number rfl rfl rfl hd_X0_number ⟨Nat.le_of_ble_eq_true rfl, Nat.le_of_ble_eq_true rfl⟩) rfl rfl rfl hl.1 rfl (Nat.le_of_ble_eq_true rfl) dX2_ownerThen_8 ⟨Nat.zero_le _, Nat.zero_le _⟩ ?_
      refine lv_icmp_ge (tgt := 42) hx hb dX2_ownerThen_11 (by decide) (fun hc => ?_) (fun hc => ?_)
      · replace hg := if_yes hg hc
        refine lv_aload_n hx hb dX2_ownerThen_42 rfl (lv_at hl 1 rfl) ?_
        refine xget (ci := 2) (C := RX2) (T := TX2) (N := 8) (v := .ref A_t_board) hx hb hts in_X2_ownerThen_X2 hown hK hP 0 rfl rfl 0 (by decide) wd_X2_ownerThen_1 rfl dX2_ownerThen_43 ?_
        refine lv_iload_n hx hb dX2_ownerThen_46 rfl (lv_at hl 2 rfl) ?_
        obtain ⟨v3, hq, hg⟩ := bind_ex hg
        refine callRVi (As := [.int x1]) (rest := []) S hK hP (c_X0_owner l D cI cZ cB cJ A_t_board A_t_board_numbers A_t_board_owners A_t_board_cells V_t_board_owners x1 v3 hq) [1, 3] rfl (cwV 1 hts gX2_ownerThen_X0_owner rfl rfl rfl hd_X0_owner ⟨Nat.le_of_ble_eq_true rfl, Nat.le_of_ble_eq_true rfl⟩) rfl rfl rfl hl.1 rfl (Nat.le_of_ble_eq_true rfl) dX2_ownerThen_47 ⟨Nat.zero_le _, Nat.zero_le _⟩ ?_
        cases hg
        exact fin _ _ dX2_ownerThen_50
      · replace hg := if_no hg hc
        refine lv_aload_n hx hb dX2_ownerThen_14 rfl (lv_at hl 1 rfl) ?_
        refine xget (ci := 2) (C := RX2) (T := TX2) (N := 8) (v := .ref A_t_stands) hx hb hts in_X2_ownerThen_X2 hown hK hP 0 rfl rfl 7 (by decide) wd_X2_ownerThen_2 rfl dX2_ownerThen_15 ?_
        refine lv_iload_n hx hb dX2_ownerThen_18 rfl (lv_at hl 0 rfl) ?_
        obtain ⟨v4, hq, hg⟩ := bind_ex hg
        refine callRNi (As := [.ref A_t_stands, .int v1]) (rest := []) S hK hP (c_X4_entry l D cI cZ cB cJ A_t_stands 9 V_t_stands v1 v4 hq) [4] rfl ⟨va_cnB 2 hts gX2_ownerThen_X4_entry_n89 rfl rfl rfl (hK.2 _ (List.mem_of_getElem? (i := 8) rfl)) (hts _ wd_X2_ownerThen_10) hd_X4_entry ⟨Nat.le_of_ble_eq_true rfl, Nat.le_of_ble_eq_true rfl⟩, hts _ wd_X2_ownerThen_9, trivial⟩ rfl hl.1 rfl (Nat.le_of_ble_eq_true rfl) dX2_ownerThen_19 ⟨Nat.zero_le _, Nat.zero_le _⟩ ?_
        refine lv_iload_n hx hb dX2_ownerThen_22 rfl (lv_at hl 2 rfl) ?_
        refine lv_icmp_ne (tgt := 36) hx hb dX2_ownerThen_23 (by decide) (fun hc => ?_) (fun hc => ?_)
        · replace hg := if_no hg hc
          refine lv_iinc (v := (v1 + 1)) (lv' := [(2, .int (v1 + 1)), (0, .ref A_t), (1, .int x1)]) hx hb dX2_ownerThen_36 hl (k := 0) rfl rfl (by decide) rfl (fun ls hl => ?_)
          refine lv_goto (tgt := 2) hx hb dX2_ownerThen_39 (by decide) ?_
          exact ih _ _ (lv_sub hl [0, 1, 2] rfl) hg
        · replace hg := if_yes hg hc
          refine lv_aload_n hx hb dX2_ownerThen_26 rfl (lv_at hl 1 rfl) ?_
          refine xget (ci := 2) (C := RX2) (T := TX2) (N := 8) (v := .ref A_t_board) hx hb hts in_X2_ownerThen_X2 hown hK hP 0 rfl rfl 0 (by decide) wd_X2_ownerThen_1 rfl dX2_ownerThen_27 ?_
          refine lv_iload_n hx hb dX2_ownerThen_30 rfl (lv_at hl 0 rfl) ?_
          refine lv_iconst (v := 0) hx hb dX2_ownerThen_31 (by decide) ?_
          obtain ⟨v5, hq, hg⟩ := bind_ex hg
          refine callRVi (As := [.int v1, .int 0]) (rest := []) S hK hP (c_X0_of l D cI cZ cB cJ A_t_board A_t_board_numbers A_t_board_owners A_t_board_cells V_t_board_cells v1 0 v5 hq) [1, 5] rfl (cwV 2 hts gX2_ownerThen_X0_of rfl rfl rfl hd_X0_of ⟨Nat.le_of_ble_eq_true rfl, Nat.le_of_ble_eq_true rfl⟩) rfl rfl rfl hl.1 rfl (Nat.le_of_ble_eq_true rfl) dX2_ownerThen_32 ⟨Nat.zero_le _, Nat.zero_le _⟩ ?_
          cases hg
          exact fin _ _ dX2_ownerThen_35
  exact L FU _ _ (lv_sub hl [0, 1, 2] rfl) hg
theorem hd_X2_centresThen : yX2_centresThen.cls = RX2 ∧ yX2_centresThen.cls ≠ "java/lang/invoke/MethodHandle" ∧ yX2_centresThen.cls ≠ "java/lang/invoke/VarHandle" ∧ (parseMethodDescriptor yX2_centresThen.desc).map (fun d => d.parameters.length) = some 1 := by decide +kernel
theorem wd_X2_centresThen_2 : Cond.initialized RX4 ∈ wsX2_centresThen := List.mem_of_getElem? (i := 2) rfl
theorem wd_X2_centresThen_1 : Cond.static yX4_isCentre ∈ wsX2_centresThen := List.mem_of_getElem? (i := 1) rfl
abbrev rX2_centresThen : Room := { frames := 2, cells := 0, slots := 0, locals := 45 }
set_option maxHeartbeats 4000000 in
set_option maxRecDepth 100000 in
theorem c_X2_centresThen (l : Launch) (D : va_G) (cI cZ cB cJ : ClassId) (A_t : Nat) (A_t_board : Nat) (A_t_cut : Nat) (A_t_counts : Nat) (A_t_strength : Nat) (A_t_reason : Nat) (A_t_driver : Nat) (A_t_waits : Nat) (A_t_stands : Nat) (A_t_board_numbers : Nat) (A_t_board_owners : Nat) (A_t_board_cells : Nat) (V_t_board_numbers : Nat → Int32) (V_t_board_owners : Nat → Int32) (V_t_stands : Nat → Int32) (V_t_board_cells : Nat → Int32) (x1 : Int32) (r0 : Int32) (hg : g_X2_centresThen V_t_board_numbers V_t_board_owners V_t_stands V_t_board_cells x1 = some r0) : Met l yX2_centresThen wsX2_centresThen rX2_centresThen (PcR D cI cZ cB cJ [(A_t, .inr (2, [.ref A_t_board, .ref A_t_cut, .ref A_t_counts, .ref A_t_strength, .ref A_t_reason, .ref A_t_driver, .ref A_t_waits, .ref A_t_stands])), (A_t_board, .inr (0, [.ref A_t_board_numbers, .ref A_t_board_owners, .ref A_t_board_cells])), (A_t_board_numbers, .inl (cI, 10, .inl V_t_board_numbers)), (A_t_board_owners, .inl (cI, 12, .inl V_t_board_owners)), (A_t_stands, .inl (cI, 9, .inl V_t_stands)), (A_t_board_cells, .inl (cI, 63, .inl V_t_board_cells))] [.ref A_t, .int x1]) (vp_Si (fun r' => r' = r0 ∧ True)) 0 0 (fun _ => False) := by
  refine bodyRi (cc := cX2_centresThen) (maxL := 4) (lv := [(0, .ref A_t), (1, .int x1)]) (by decide) rfl (Nat.le_of_ble_eq_true rfl) rfl ?_
  intro p e s m args below meth c Q hx hb hml hown hts hP hK fin ls hl
  replace hown : s.vm.findClass RX2 = some m.cls := hown
  have S : CallFix p m c cX2_centresThen 4 s args wsX2_centresThen RX2 := ⟨hx, hb, hml, hown, hts⟩
  unfold g_X2_centresThen at hg
  refine lv_iconst (v := 0) hx hb dX2_centresThen_0 (by decide) ?_
  refine lv_istore_n (lv' := [(2, .int 0), (0, .ref A_t), (1, .int x1)]) hx hb dX2_centresThen_1 rfl hl (by decide) rfl (fun ls hl => ?_)
  refine lv_iconst (v := 0) hx hb dX2_centresThen_2 (by decide) ?_
  refine lv_istore_n (lv' := [(3, .int 0), (2, .int 0), (0, .ref A_t), (1, .int x1)]) hx hb dX2_centresThen_3 rfl hl (by decide) rfl (fun ls hl => ?_)
  obtain ⟨v5, hL, hg⟩ := bind_ex hg
  have kx : ∀ ls : Array Slot, lv_has ls 4 [(2, .int v5)] → W p l e rX2_centresThen s m args below meth c s.heap [] 0 0 Q (F0 m 40 ls []) := by
    intro ls hl
    refine lv_iload_n hx hb dX2_centresThen_40 rfl (lv_at hl 0 rfl) ?_
    cases hg
    exact fin _ _ dX2_centresThen_41
  have L : ∀ (nf : Nat) (v1 : Int32) (v2 : Int32), ∀ ls : Array Slot, lv_has ls 4 [(3, .int v2), (2, .int v1), (0, .ref A_t), (1, .int x1)] → g_X2_centresThen_L1 V_t_board_numbers V_t_board_owners V_t_stands V_t_board_cells x1 nf v1 v2 = some v5 → W p l e rX2_centresThen s m args below meth c s.heap [] 0 0 Q (F0 m 4 ls []) := by
    intro nf
    induction nf with
    | zero =>
      intro v1 v2 ls hl hg
      exact no_some hg
    | succ nf ih =>
      intro v1 v2 ls hl hg
      rw [g_X2_centresThen_L1] at hg
      refine lv_iload_n hx hb dX2_centresThen_4 rfl (lv_at hl 0 rfl) ?_
      refine lv_bipush (v := 12) hx hb dX2_centresThen_5 (by decide) ?_
      refine lv_icmp_ge (tgt := 40) hx hb dX2_centresThen_7 (by decide) (fun hc => ?_) (fun hc => ?_)
      · replace hg := if_yes hg hc
        cases hg
        exact kx _ (lv_sub hl [1] rfl)
      · replace hg := if_no hg hc
        refine lv_iload_n hx hb dX2_centresThen_10 rfl (lv_at hl 1 rfl) ?_
        refine lv_iload_n hx hb dX2_centresThen_11 rfl (lv_at hl 0 rfl) ?_
        obtain ⟨v3, hq, hg⟩ := bind_ex hg
        refine callRNz (As := [.int v2]) (rest := [.int v1]) S hK hP (c_X4_isCentre l D cI cZ cB cJ v2 v3 hq) [] rfl ⟨va_cnB 1 hts gX2_centresThen_X4_isCentre_n125 rfl rfl rfl (hK.2 _ (List.mem_of_getElem? (i := 15) rfl)) (hts _ wd_X2_centresThen_2) hd_X4_isCentre ⟨Nat.le_of_ble_eq_true rfl, Nat.le_of_ble_eq_true rfl⟩, hts _ wd_X2_centresThen_1, trivial⟩ rfl hl.1 rfl (Nat.le_of_ble_eq_true rfl) dX2_centresThen_12 ⟨Nat.zero_le _, Nat.zero_le _⟩ (fun hz_v3 => ?_)
        refine lv_if_eq (tgt := 31) hx hb dX2_centresThen_15 (by decide) (fun hc => ?_) (fun hc => ?_)
        · replace hg := if_yes hg hc
          refine lv_iconst (v := 0) hx hb dX2_centresThen_31 (by decide) ?_
          refine lv_iadd hx hb dX2_centresThen_32 ?_
          refine lv_istore_n (lv' := [(2, .int (v1 + 0)), (3, .int v2), (0, .ref A_t), (1, .int x1)]) hx hb dX2_centresThen_33 rfl hl (by decide) rfl (fun ls hl => ?_)
          refine lv_iinc (v := (v2 + 1)) (lv' := [(3, .int (v2 + 1)), (2, .int (v1 + 0)), (0, .ref A_t), (1, .int x1)]) hx hb dX2_centresThen_34 hl (k := 1) rfl rfl (by decide) rfl (fun ls hl => ?_)
          refine lv_goto (tgt := 4) hx hb dX2_centresThen_37 (by decide) ?_
          exact ih _ _ _ (lv_sub hl [0, 1, 2, 3] rfl) hg
        · replace hg := if_no hg hc
          refine lv_aload_n hx hb dX2_centresThen_18 rfl (lv_at hl 2 rfl) ?_
          refine lv_iload_n hx hb dX2_centresThen_19 rfl (lv_at hl 0 rfl) ?_
          obtain ⟨v4, hq, hg⟩ := bind_ex hg
          refine callRVi (As := [.int v2]) (rest := [.int v1]) S hK hP (c_X2_ownerThen l D cI cZ cB cJ A_t A_t_board A_t_cut A_t_counts A_t_strength A_t_reason A_t_driver A_t_waits A_t_stands A_t_board_numbers A_t_board_owners A_t_board_cells V_t_board_numbers V_t_board_owners V_t_stands V_t_board_cells v2 v4 hq) [0, 1, 2, 3, 4, 5] rfl (cwV 1 hts gX2_centresThen_X2_ownerThen rfl rfl rfl hd_X2_ownerThen ⟨Nat.le_of_ble_eq_true rfl, Nat.le_of_ble_eq_true rfl⟩) rfl rfl rfl hl.1 rfl (Nat.le_of_ble_eq_true rfl) dX2_centresThen_20 ⟨Nat.zero_le _, Nat.zero_le _⟩ ?_
          refine lv_iload_n hx hb dX2_centresThen_23 rfl (lv_at hl 3 rfl) ?_
          refine lv_icmp_ne (tgt := 31) hx hb dX2_centresThen_24 (by decide) (fun hc => ?_) (fun hc => ?_)
          · replace hg := if_no hg hc
            refine lv_iconst (v := 0) hx hb dX2_centresThen_31 (by decide) ?_
            refine lv_iadd hx hb dX2_centresThen_32 ?_
            refine lv_istore_n (lv' := [(2, .int (v1 + 0)), (3, .int v2), (0, .ref A_t), (1, .int x1)]) hx hb dX2_centresThen_33 rfl hl (by decide) rfl (fun ls hl => ?_)
            refine lv_iinc (v := (v2 + 1)) (lv' := [(3, .int (v2 + 1)), (2, .int (v1 + 0)), (0, .ref A_t), (1, .int x1)]) hx hb dX2_centresThen_34 hl (k := 1) rfl rfl (by decide) rfl (fun ls hl => ?_)
            refine lv_goto (tgt := 4) hx hb dX2_centresThen_37 (by decide) ?_
            exact ih _ _ _ (lv_sub hl [0, 1, 2, 3] rfl) hg
          · replace hg := if_yes hg hc
            refine lv_iconst (v := 1) hx hb dX2_centresThen_27 (by decide) ?_
            refine lv_goto (tgt := 32) hx hb dX2_centresThen_28 (by decide) ?_
            refine lv_iadd hx hb dX2_centresThen_32 ?_
            refine lv_istore_n (lv' := [(2, .int (v1 + 1)), (3, .int v2), (0, .ref A_t), (1, .int x1)]) hx hb dX2_centresThen_33 rfl hl (by decide) rfl (fun ls hl => ?_)
            refine lv_iinc (v := (v2 + 1)) (lv' := [(3, .int (v2 + 1)), (2, .int (v1 + 1)), (0, .ref A_t), (1, .int x1)]) hx hb dX2_centresThen_34 hl (k := 1) rfl rfl (by decide) rfl (fun ls hl => ?_)
            refine lv_goto (tgt := 4) hx hb dX2_centresThen_37 (by decide) ?_
            exact ih _ _ _ (lv_sub hl [0, 1, 2, 3] rfl) hg
  exact L FU _ _ _ (lv_sub hl [0, 1, 2, 3] rfl) hL
theorem hd_X2_countMove : yX2_countMove.cls = RX2 ∧ yX2_countMove.cls ≠ "java/lang/invoke/MethodHandle" ∧ yX2_countMove.cls ≠ "java/lang/invoke/VarHandle" ∧ (parseMethodDescriptor yX2_countMove.desc).map (fun d => d.parameters.length) = some 2 := by decide +kernel
theorem in_X2_countMove_X2 : ∀ w ∈ u_ws RX2 TX2 8, w ∈ wsX2_countMove := fun _ h => List.mem_cons_of_mem _ (List.mem_append_left _ (List.mem_append_right _ h))
theorem wd_X2_countMove_1 : Cond.fieldLink RX2 12 "FogOrders$Opening" "board" "LFogOrders$Board;" ∈ wsX2_countMove := List.mem_of_getElem? (i := 1) rfl
abbrev rX2_countMove : Room := { frames := 2, cells := 0, slots := 0, locals := 43 }
set_option maxHeartbeats 4000000 in
set_option maxRecDepth 100000 in
theorem c_X2_countMove (l : Launch) (D : va_G) (cI cZ cB cJ : ClassId) (A_t : Nat) (A_t_board : Nat) (A_t_cut : Nat) (A_t_counts : Nat) (A_t_strength : Nat) (A_t_reason : Nat) (A_t_driver : Nat) (A_t_waits : Nat) (A_t_stands : Nat) (A_t_board_numbers : Nat) (A_t_board_owners : Nat) (A_t_board_cells : Nat) (sz : Nat) (V_t_board_cells : Nat → Int32) (V_t_board_numbers : Nat → Int32) (x1 : Int32) (x2 : Int32) (w1 : Nat → Int32) (w2 : Nat → Int32) (hg : g_X2_countMove V_t_board_cells V_t_board_numbers x1 x2 = some (w1, w2)) : Met l yX2_countMove wsX2_countMove rX2_countMove (PcW D cI cZ cB cJ sz [(A_t, .inr (2, [.ref A_t_board, .ref A_t_cut, .ref A_t_counts, .ref A_t_strength, .ref A_t_reason, .ref A_t_driver, .ref A_t_waits, .ref A_t_stands])), (A_t_board, .inr (0, [.ref A_t_board_numbers, .ref A_t_board_owners, .ref A_t_board_cells])), (A_t_board_cells, .inl (cI, 63, .inl V_t_board_cells)), (A_t_board_numbers, .inl (cI, 10, .inl V_t_board_numbers))] [.ref A_t, .int x1, .int x2]) (QWv D cI cZ cB cJ sz [(A_t, .inr (2, [.ref A_t_board, .ref A_t_cut, .ref A_t_counts, .ref A_t_strength, .ref A_t_reason, .ref A_t_driver, .ref A_t_waits, .ref A_t_stands])), (A_t_board, .inr (0, [.ref A_t_board_numbers, .ref A_t_board_owners, .ref A_t_board_cells])), (A_t_board_cells, .inl (cI, 63, .inl V_t_board_cells)), (A_t_board_numbers, .inl (cI, 10, .inl V_t_board_numbers))] [(A_t, .inr (2, [.ref A_t_board, .ref A_t_cut, .ref A_t_counts, .ref A_t_strength, .ref A_t_reason, .ref A_t_driver, .ref A_t_waits, .ref A_t_stands])), (A_t_board, .inr (0, [.ref A_t_board_numbers, .ref A_t_board_owners, .ref A_t_board_cells])), (A_t_board_cells, .inl (cI, 63, .inl w1)), (A_t_board_numbers, .inl (cI, 10, .inl w2))]) 0 0 (va_A [(A_t, .inr (2, [.ref A_t_board, .ref A_t_cut, .ref A_t_counts, .ref A_t_strength, .ref A_t_reason, .ref A_t_driver, .ref A_t_waits, .ref A_t_stands])), (A_t_board, .inr (0, [.ref A_t_board_numbers, .ref A_t_board_owners, .ref A_t_board_cells])), (A_t_board_cells, .inl (cI, 63, .inl V_t_board_cells)), (A_t_board_numbers, .inl (cI, 10, .inl V_t_board_numbers))] sz) := by
  refine bodyWv (cc := cX2_countMove) (maxL := 4) (lv := [(0, .ref A_t), (1, .int x1), (2, .int x2)]) (by decide) rfl (Nat.le_of_ble_eq_true rfl) rfl ?_
  intro p e s m args below meth c Q hx hb hml hown hts A hP hK hD hA hS fin ls hl
  replace hown : s.vm.findClass RX2 = some m.cls := hown
  have S : CallFix p m c cX2_countMove 4 s args wsX2_countMove RX2 := ⟨hx, hb, hml, hown, hts⟩
  unfold g_X2_countMove at hg
  refine lv_iload_n hx hb dX2_countMove_0 rfl (lv_at hl 2 rfl) ?_
  have hJ1 : ∀ (v1 : Int32), ∀ (H : Heap) (locs : List Loc), va_P D vwCl [(A_t, .inr (2, [.ref A_t_board, .ref A_t_cut, .ref A_t_counts, .ref A_t_strength, .ref A_t_reason, .ref A_t_driver, .ref A_t_waits, .ref A_t_stands])), (A_t_board, .inr (0, [.ref A_t_board_numbers, .ref A_t_board_owners, .ref A_t_board_cells])), (A_t_board_cells, .inl (cI, 63, .inl V_t_board_cells)), (A_t_board_numbers, .inl (cI, 10, .inl V_t_board_numbers))] H → va_D A [(A_t, .inr (2, [.ref A_t_board, .ref A_t_cut, .ref A_t_counts, .ref A_t_strength, .ref A_t_reason, .ref A_t_driver, .ref A_t_waits, .ref A_t_stands])), (A_t_board, .inr (0, [.ref A_t_board_numbers, .ref A_t_board_owners, .ref A_t_board_cells])), (A_t_board_cells, .inl (cI, 63, .inl V_t_board_cells)), (A_t_board_numbers, .inl (cI, 10, .inl V_t_board_numbers))] → va_S A s.heap H locs → ∀ ls : Array Slot, lv_has ls 4 [(0, .ref A_t), (1, .int x1), (2, .int x2)] → g_X2_countMove_J1 V_t_board_cells x1 x2 V_t_board_numbers v1 = some (w1, w2) → W p l e rX2_countMove s m args below meth c H locs 0 0 Q (F0 m 10 ls [.int v1]) := by
    intro v1 H locs hP hD hS ls hl hg
    unfold g_X2_countMove_J1 at hg
    refine lv_istore_n (lv' := [(3, .int v1), (0, .ref A_t), (1, .int x1), (2, .int x2)]) hx hb dX2_countMove_10 rfl hl (by decide) rfl (fun ls hl => ?_)
    refine lv_aload_n hx hb dX2_countMove_11 rfl (lv_at hl 1 rfl) ?_
    refine xget (ci := 2) (C := RX2) (T := TX2) (N := 8) (v := .ref A_t_board) hx hb hts in_X2_countMove_X2 hown hK hP 0 rfl rfl 0 (by decide) wd_X2_countMove_1 rfl dX2_countMove_12 ?_
    refine lv_iload_n hx hb dX2_countMove_15 rfl (lv_at hl 2 rfl) ?_
    refine lv_iload_n hx hb dX2_countMove_16 rfl (lv_at hl 0 rfl) ?_
    refine lv_aload_n hx hb dX2_countMove_17 rfl (lv_at hl 1 rfl) ?_
    refine xget (ci := 2) (C := RX2) (T := TX2) (N := 8) (v := .ref A_t_board) hx hb hts in_X2_countMove_X2 hown hK hP 0 rfl rfl 0 (by decide) wd_X2_countMove_1 rfl dX2_countMove_18 ?_
    refine lv_iload_n hx hb dX2_countMove_21 rfl (lv_at hl 2 rfl) ?_
    refine lv_iload_n hx hb dX2_countMove_22 rfl (lv_at hl 0 rfl) ?_
    obtain ⟨v2, hq, hg⟩ := bind_ex hg
    refine callRVi (As := [.int x1, .int v1]) (rest := [.int v1, .int x1, .ref A_t_board]) S hK hP (c_X0_of l D cI cZ cB cJ A_t_board A_t_board_numbers A_t_board_owners A_t_board_cells V_t_board_cells x1 v1 v2 hq) [1, 2] rfl (cwV 2 hts gX2_countMove_X0_of rfl rfl rfl hd_X0_of ⟨Nat.le_of_ble_eq_true rfl, Nat.le_of_ble_eq_true rfl⟩) rfl rfl rfl hl.1 rfl (Nat.le_of_ble_eq_true rfl) dX2_countMove_23 ⟨Nat.zero_le _, Nat.zero_le _⟩ ?_
    refine lv_iconst (v := 1) hx hb dX2_countMove_26 (by decide) ?_
    refine lv_iadd hx hb dX2_countMove_27 ?_
    obtain ⟨f3, hq, hg⟩ := bind_ex hg
    refine callWVv (As := [.int x1, .int v1, .int (v2 + 1)]) (rest := []) (wr := [(A_t, .inr (2, [.ref A_t_board, .ref A_t_cut, .ref A_t_counts, .ref A_t_strength, .ref A_t_reason, .ref A_t_driver, .ref A_t_waits, .ref A_t_stands])), (A_t_board_numbers, .inl (cI, 10, .inl V_t_board_numbers))]) S hK hP hD hS hA (c_X0_put l D cI cZ cB cJ A_t_board A_t_board_numbers A_t_board_owners A_t_board_cells _ V_t_board_cells x1 v1 (v2 + 1) f3 hq) [1, 2] [0, 3] rfl rfl (by decide +kernel) (by decide +kernel) (by decide +kernel) (cwV 3 hts gX2_countMove_X0_put rfl rfl rfl hd_X0_put ⟨Nat.le_of_ble_eq_true rfl, Nat.le_of_ble_eq_true rfl⟩) rfl rfl rfl hl.1 rfl (Nat.le_of_ble_eq_true rfl) dX2_countMove_28 ⟨Nat.zero_le _, Nat.zero_le _⟩ (fun H locs hP hD hS => ?_)
    replace hP : va_P D vwCl [(A_t, .inr (2, [.ref A_t_board, .ref A_t_cut, .ref A_t_counts, .ref A_t_strength, .ref A_t_reason, .ref A_t_driver, .ref A_t_waits, .ref A_t_stands])), (A_t_board_numbers, .inl (cI, 10, .inl V_t_board_numbers)), (A_t_board, .inr (0, [.ref A_t_board_numbers, .ref A_t_board_owners, .ref A_t_board_cells])), (A_t_board_cells, .inl (cI, 63, .inl f3))] H := hP
    replace hD : va_D A [(A_t, .inr (2, [.ref A_t_board, .ref A_t_cut, .ref A_t_counts, .ref A_t_strength, .ref A_t_reason, .ref A_t_driver, .ref A_t_waits, .ref A_t_stands])), (A_t_board_numbers, .inl (cI, 10, .inl V_t_board_numbers)), (A_t_board, .inr (0, [.ref A_t_board_numbers, .ref A_t_board_owners, .ref A_t_board_cells])), (A_t_board_cells, .inl (cI, 63, .inl f3))] := hD
    refine lv_aload_n hx hb dX2_countMove_31 rfl (lv_at hl 1 rfl) ?_
    refine xget (ci := 2) (C := RX2) (T := TX2) (N := 8) (v := .ref A_t_board) hx hb hts in_X2_countMove_X2 hown hK hP 0 rfl rfl 0 (by decide) wd_X2_countMove_1 rfl dX2_countMove_32 ?_
    refine lv_iload_n hx hb dX2_countMove_35 rfl (lv_at hl 3 rfl) ?_
    have hJ2 : ∀ (v4 : Int32), ∀ (H : Heap) (locs : List Loc), va_P D vwCl [(A_t, .inr (2, [.ref A_t_board, .ref A_t_cut, .ref A_t_counts, .ref A_t_strength, .ref A_t_reason, .ref A_t_driver, .ref A_t_waits, .ref A_t_stands])), (A_t_board_numbers, .inl (cI, 10, .inl V_t_board_numbers)), (A_t_board, .inr (0, [.ref A_t_board_numbers, .ref A_t_board_owners, .ref A_t_board_cells])), (A_t_board_cells, .inl (cI, 63, .inl f3))] H → va_D A [(A_t, .inr (2, [.ref A_t_board, .ref A_t_cut, .ref A_t_counts, .ref A_t_strength, .ref A_t_reason, .ref A_t_driver, .ref A_t_waits, .ref A_t_stands])), (A_t_board_numbers, .inl (cI, 10, .inl V_t_board_numbers)), (A_t_board, .inr (0, [.ref A_t_board_numbers, .ref A_t_board_owners, .ref A_t_board_cells])), (A_t_board_cells, .inl (cI, 63, .inl f3))] → va_S A s.heap H locs → ∀ ls : Array Slot, lv_has ls 4 [] → g_X2_countMove_J2 V_t_board_numbers f3 v4 = some (w1, w2) → W p l e rX2_countMove s m args below meth c H locs 0 0 Q (F0 m 44 ls [.int v4, .ref A_t_board]) := by
      intro v4 H locs hP hD hS ls hl hg
      unfold g_X2_countMove_J2 at hg
      obtain ⟨f5, hq, hg⟩ := bind_ex hg
      refine callWVv (As := [.int v4]) (rest := []) (wr := [(A_t, .inr (2, [.ref A_t_board, .ref A_t_cut, .ref A_t_counts, .ref A_t_strength, .ref A_t_reason, .ref A_t_driver, .ref A_t_waits, .ref A_t_stands])), (A_t_board_cells, .inl (cI, 63, .inl f3))]) S hK hP hD hS hA (c_X0_countOne l D cI cZ cB cJ A_t_board A_t_board_numbers A_t_board_owners A_t_board_cells _ V_t_board_numbers v4 f5 hq) [2, 1] [0, 3] rfl rfl (by decide +kernel) (by decide +kernel) (by decide +kernel) (cwV 1 hts gX2_countMove_X0_countOne rfl rfl rfl hd_X0_countOne ⟨Nat.le_of_ble_eq_true rfl, Nat.le_of_ble_eq_true rfl⟩) rfl rfl rfl hl.1 rfl (Nat.le_of_ble_eq_true rfl) dX2_countMove_44 ⟨Nat.zero_le _, Nat.zero_le _⟩ (fun H locs hP hD hS => ?_)
      replace hP : va_P D vwCl [(A_t, .inr (2, [.ref A_t_board, .ref A_t_cut, .ref A_t_counts, .ref A_t_strength, .ref A_t_reason, .ref A_t_driver, .ref A_t_waits, .ref A_t_stands])), (A_t_board_cells, .inl (cI, 63, .inl f3)), (A_t_board, .inr (0, [.ref A_t_board_numbers, .ref A_t_board_owners, .ref A_t_board_cells])), (A_t_board_numbers, .inl (cI, 10, .inl f5))] H := hP
      replace hD : va_D A [(A_t, .inr (2, [.ref A_t_board, .ref A_t_cut, .ref A_t_counts, .ref A_t_strength, .ref A_t_reason, .ref A_t_driver, .ref A_t_waits, .ref A_t_stands])), (A_t_board_cells, .inl (cI, 63, .inl f3)), (A_t_board, .inr (0, [.ref A_t_board_numbers, .ref A_t_board_owners, .ref A_t_board_cells])), (A_t_board_numbers, .inl (cI, 10, .inl f5))] := hD
      cases hg
      exact fin _ _ _ _ dX2_countMove_47 (hP.sub [0, 2, 1, 3] rfl) (hD.sub [0, 2, 1, 3] (by decide) rfl) hS
    refine lv_if_eq (tgt := 43) hx hb dX2_countMove_36 (by decide) (fun hc => ?_) (fun hc => ?_)
    · replace hg := if_yes hg hc
      refine lv_iconst (v := 5) hx hb dX2_countMove_43 (by decide) ?_
      exact hJ2 _ _ _ hP hD hS _ (lv_sub hl [] rfl) hg
    · replace hg := if_no hg hc
      refine lv_iconst (v := 4) hx hb dX2_countMove_39 (by decide) ?_
      refine lv_goto (tgt := 44) hx hb dX2_countMove_40 (by decide) ?_
      exact hJ2 _ _ _ hP hD hS _ (lv_sub hl [] rfl) hg
  refine lv_if_eq (tgt := 8) hx hb dX2_countMove_1 (by decide) (fun hc => ?_) (fun hc => ?_)
  · replace hg := if_yes hg hc
    refine lv_bipush (v := 6) hx hb dX2_countMove_8 (by decide) ?_
    exact hJ1 _ _ _ hP hD hS _ (lv_sub hl [0, 1, 2] rfl) hg
  · replace hg := if_no hg hc
    refine lv_iconst (v := 5) hx hb dX2_countMove_4 (by decide) ?_
    refine lv_goto (tgt := 10) hx hb dX2_countMove_5 (by decide) ?_
    exact hJ1 _ _ _ hP hD hS _ (lv_sub hl [0, 1, 2] rfl) hg
theorem hd_X2_settle : yX2_settle.cls = RX2 ∧ yX2_settle.cls ≠ "java/lang/invoke/MethodHandle" ∧ yX2_settle.cls ≠ "java/lang/invoke/VarHandle" ∧ (parseMethodDescriptor yX2_settle.desc).map (fun d => d.parameters.length) = some 0 := by decide +kernel
theorem in_X2_settle_X2 : ∀ w ∈ u_ws RX2 TX2 8, w ∈ wsX2_settle := fun _ h => List.mem_cons_of_mem _ (List.mem_append_left _ (List.mem_append_right _ h))
theorem wd_X2_settle_1 : Cond.fieldLink RX2 12 "FogOrders$Opening" "board" "LFogOrders$Board;" ∈ wsX2_settle := List.mem_of_getElem? (i := 1) rfl
theorem wd_X2_settle_2 : Cond.fieldLink RX2 37 "FogOrders$Opening" "stands" "[I" ∈ wsX2_settle := List.mem_of_getElem? (i := 2) rfl
theorem wd_X2_settle_10 : Cond.initialized RX4 ∈ wsX2_settle := List.mem_of_getElem? (i := 10) rfl
theorem wd_X2_settle_9 : Cond.static yX4_entry ∈ wsX2_settle := List.mem_of_getElem? (i := 9) rfl
abbrev rX2_settle : Room := { frames := 2, cells := 0, slots := 0, locals := 49 }
set_option maxHeartbeats 4000000 in
set_option maxRecDepth 100000 in
theorem c_X2_settle (l : Launch) (D : va_G) (cI cZ cB cJ : ClassId) (A_t : Nat) (A_t_board : Nat) (A_t_cut : Nat) (A_t_counts : Nat) (A_t_strength : Nat) (A_t_reason : Nat) (A_t_driver : Nat) (A_t_waits : Nat) (A_t_stands : Nat) (A_t_board_numbers : Nat) (A_t_board_owners : Nat) (A_t_board_cells : Nat) (sz : Nat) (V_t_board_numbers : Nat → Int32) (V_t_stands : Nat → Int32) (V_t_board_cells : Nat → Int32) (w1 : Nat → Int32) (w2 : Nat → Int32) (hg : g_X2_settle V_t_board_numbers V_t_stands V_t_board_cells = some (w1, w2)) : Met l yX2_settle wsX2_settle rX2_settle (PcW D cI cZ cB cJ sz [(A_t, .inr (2, [.ref A_t_board, .ref A_t_cut, .ref A_t_counts, .ref A_t_strength, .ref A_t_reason, .ref A_t_driver, .ref A_t_waits, .ref A_t_stands])), (A_t_board, .inr (0, [.ref A_t_board_numbers, .ref A_t_board_owners, .ref A_t_board_cells])), (A_t_board_numbers, .inl (cI, 10, .inl V_t_board_numbers)), (A_t_stands, .inl (cI, 9, .inl V_t_stands)), (A_t_board_cells, .inl (cI, 63, .inl V_t_board_cells))] [.ref A_t]) (QWv D cI cZ cB cJ sz [(A_t, .inr (2, [.ref A_t_board, .ref A_t_cut, .ref A_t_counts, .ref A_t_strength, .ref A_t_reason, .ref A_t_driver, .ref A_t_waits, .ref A_t_stands])), (A_t_board, .inr (0, [.ref A_t_board_numbers, .ref A_t_board_owners, .ref A_t_board_cells])), (A_t_board_numbers, .inl (cI, 10, .inl V_t_board_numbers)), (A_t_stands, .inl (cI, 9, .inl V_t_stands)), (A_t_board_cells, .inl (cI, 63, .inl V_t_board_cells))] [(A_t, .inr (2, [.ref A_t_board, .ref A_t_cut, .ref A_t_counts, .ref A_t_strength, .ref A_t_reason, .ref A_t_driver, .ref A_t_waits, .ref A_t_stands])), (A_t_board, .inr (0, [.ref A_t_board_numbers, .ref A_t_board_owners, .ref A_t_board_cells])), (A_t_board_numbers, .inl (cI, 10, .inl w1)), (A_t_stands, .inl (cI, 9, .inl V_t_stands)), (A_t_board_cells, .inl (cI, 63, .inl w2))]) 0 0 (va_A [(A_t, .inr (2, [.ref A_t_board, .ref A_t_cut, .ref A_t_counts, .ref A_t_strength, .ref A_t_reason, .ref A_t_driver, .ref A_t_waits, .ref A_t_stands])), (A_t_board, .inr (0, [.ref A_t_board_numbers, .ref A_t_board_owners, .ref A_t_board_cells])), (A_t_board_numbers, .inl (cI, 10, .inl V_t_board_numbers)), (A_t_stands, .inl (cI, 9, .inl V_t_stands)), (A_t_board_cells, .inl (cI, 63, .inl V_t_board_cells))] sz) := by
  refine bodyWv (cc := cX2_settle) (maxL := 2) (lv := [(0, .ref A_t)]) (by decide) rfl (Nat.le_of_ble_eq_true rfl) rfl ?_
  intro p e s m args below meth c Q hx hb hml hown hts A hP hK hD hA hS fin ls hl
  replace hown : s.vm.findClass RX2 = some m.cls := hown
  have S : CallFix p m c cX2_settle 2 s args wsX2_settle RX2 := ⟨hx, hb, hml, hown, hts⟩
  unfold g_X2_settle at hg
  refine lv_aload_n hx hb dX2_settle_0 rfl (lv_at hl 0 rfl) ?_
  refine xget (ci := 2) (C := RX2) (T := TX2) (N := 8) (v := .ref A_t_board) hx hb hts in_X2_settle_X2 hown hK hP 0 rfl rfl 0 (by decide) wd_X2_settle_1 rfl dX2_settle_1 ?_
  refine lv_iconst (v := 0) hx hb dX2_settle_4 (by decide) ?_
  obtain ⟨v1, hq, hg⟩ := bind_ex hg
  refine callRVi (As := [.int 0]) (rest := []) S hK hP (c_X0_number l D cI cZ cB cJ A_t_board A_t_board_numbers A_t_board_owners A_t_board_cells V_t_board_numbers 0 v1 hq) [1, 2] rfl (cwV 1 hts gX2_settle_X0_number rfl rfl rfl hd_X0_number ⟨Nat.le_of_ble_eq_true rfl, Nat.le_of_ble_eq_true rfl⟩) rfl rfl rfl hl.1 rfl (Nat.le_of_ble_eq_true rfl) dX2_settle_5 ⟨Nat.zero_le _, Nat.zero_le _⟩ ?_
  refine lv_iconst (v := 1) hx hb dX2_settle_8 (by decide) ?_
  refine lv_isub hx hb dX2_settle_9 ?_
  refine lv_istore_n (lv' := [(1, .int (v1 - 1)), (0, .ref A_t)]) hx hb dX2_settle_10 rfl hl (by decide) rfl (fun ls hl => ?_)
  obtain ⟨f13, f14, hL, hg⟩ := b2_ex hg
  have kx : ∀ (H : Heap) (locs : List Loc), va_P D vwCl [(A_t, .inr (2, [.ref A_t_board, .ref A_t_cut, .ref A_t_counts, .ref A_t_strength, .ref A_t_reason, .ref A_t_driver, .ref A_t_waits, .ref A_t_stands])), (A_t_board, .inr (0, [.ref A_t_board_numbers, .ref A_t_board_owners, .ref A_t_board_cells])), (A_t_board_numbers, .inl (cI, 10, .inl f14)), (A_t_stands, .inl (cI, 9, .inl V_t_stands)), (A_t_board_cells, .inl (cI, 63, .inl f13))] H → va_D A [(A_t, .inr (2, [.ref A_t_board, .ref A_t_cut, .ref A_t_counts, .ref A_t_strength, .ref A_t_reason, .ref A_t_driver, .ref A_t_waits, .ref A_t_stands])), (A_t_board, .inr (0, [.ref A_t_board_numbers, .ref A_t_board_owners, .ref A_t_board_cells])), (A_t_board_numbers, .inl (cI, 10, .inl f14)), (A_t_stands, .inl (cI, 9, .inl V_t_stands)), (A_t_board_cells, .inl (cI, 63, .inl f13))] → va_S A s.heap H locs → ∀ ls : Array Slot, lv_has ls 2 [] → W p l e rX2_settle s m args below meth c H locs 0 0 Q (F0 m 79 ls []) := by
    intro H locs hP hD hS ls hl
    cases hg
    exact fin _ _ _ _ dX2_settle_79 hP hD hS
  have L : ∀ (nf : Nat) (v2 : Int32) (f3 : Nat → Int32) (f4 : Nat → Int32), ∀ (H : Heap) (locs : List Loc), va_P D vwCl [(A_t, .inr (2, [.ref A_t_board, .ref A_t_cut, .ref A_t_counts, .ref A_t_strength, .ref A_t_reason, .ref A_t_driver, .ref A_t_waits, .ref A_t_stands])), (A_t_board, .inr (0, [.ref A_t_board_numbers, .ref A_t_board_owners, .ref A_t_board_cells])), (A_t_board_numbers, .inl (cI, 10, .inl f4)), (A_t_stands, .inl (cI, 9, .inl V_t_stands)), (A_t_board_cells, .inl (cI, 63, .inl f3))] H → va_D A [(A_t, .inr (2, [.ref A_t_board, .ref A_t_cut, .ref A_t_counts, .ref A_t_strength, .ref A_t_reason, .ref A_t_driver, .ref A_t_waits, .ref A_t_stands])), (A_t_board, .inr (0, [.ref A_t_board_numbers, .ref A_t_board_owners, .ref A_t_board_cells])), (A_t_board_numbers, .inl (cI, 10, .inl f4)), (A_t_stands, .inl (cI, 9, .inl V_t_stands)), (A_t_board_cells, .inl (cI, 63, .inl f3))] → va_S A s.heap H locs → ∀ ls : Array Slot, lv_has ls 2 [(1, .int v2), (0, .ref A_t)] → g_X2_settle_L1 V_t_stands nf v2 f3 f4 = some (f13, f14) → W p l e rX2_settle s m args below meth c H locs 0 0 Q (F0 m 11 ls []) := by
    intro nf
    induction nf with
    | zero =>
      intro v2 f3 f4 H locs hP hD hS ls hl hg
      exact no_some hg
    | succ nf ih =>
      intro v2 f3 f4 H locs hP hD hS ls hl hg
      rw [g_X2_settle_L1] at hg
      refine lv_iload_n hx hb dX2_settle_11 rfl (lv_at hl 0 rfl) ?_
      refine lv_if_lt (tgt := 79) hx hb dX2_settle_12 (by decide) (fun hc => ?_) (fun hc => ?_)
      · replace hg := if_yes hg hc
        cases hg
        exact kx _ _ hP hD hS _ (lv_sub hl [] rfl)
      · replace hg := if_no hg hc
        refine lv_aload_n hx hb dX2_settle_15 rfl (lv_at hl 1 rfl) ?_
        refine xget (ci := 2) (C := RX2) (T := TX2) (N := 8) (v := .ref A_t_board) hx hb hts in_X2_settle_X2 hown hK hP 0 rfl rfl 0 (by decide) wd_X2_settle_1 rfl dX2_settle_16 ?_
        refine lv_iload_n hx hb dX2_settle_19 rfl (lv_at hl 0 rfl) ?_
        refine lv_iconst (v := 1) hx hb dX2_settle_20 (by decide) ?_
        refine lv_aload_n hx hb dX2_settle_21 rfl (lv_at hl 1 rfl) ?_
        refine xget (ci := 2) (C := RX2) (T := TX2) (N := 8) (v := .ref A_t_stands) hx hb hts in_X2_settle_X2 hown hK hP 0 rfl rfl 7 (by decide) wd_X2_settle_2 rfl dX2_settle_22 ?_
        refine lv_iload_n hx hb dX2_settle_25 rfl (lv_at hl 0 rfl) ?_
        obtain ⟨v5, hq, hg⟩ := bind_ex hg
        refine callRNi (As := [.ref A_t_stands, .int v2]) (rest := [.int 1, .int v2, .ref A_t_board]) S hK hP (c_X4_entry l D cI cZ cB cJ A_t_stands 9 V_t_stands v2 v5 hq) [3] rfl ⟨va_cnB 2 hts gX2_settle_X4_entry_n89 rfl rfl rfl (hK.2 _ (List.mem_of_getElem? (i := 8) rfl)) (hts _ wd_X2_settle_10) hd_X4_entry ⟨Nat.le_of_ble_eq_true rfl, Nat.le_of_ble_eq_true rfl⟩, hts _ wd_X2_settle_9, trivial⟩ rfl hl.1 rfl (Nat.le_of_ble_eq_true rfl) dX2_settle_26 ⟨Nat.zero_le _, Nat.zero_le _⟩ ?_
        obtain ⟨f6, hq, hg⟩ := bind_ex hg
        refine callWVv (As := [.int v2, .int 1, .int v5]) (rest := []) (wr := [(A_t, .inr (2, [.ref A_t_board, .ref A_t_cut, .ref A_t_counts, .ref A_t_strength, .ref A_t_reason, .ref A_t_driver, .ref A_t_waits, .ref A_t_stands])), (A_t_board_numbers, .inl (cI, 10, .inl f4)), (A_t_stands, .inl (cI, 9, .inl V_t_stands))]) S hK hP hD hS hA (c_X0_put l D cI cZ cB cJ A_t_board A_t_board_numbers A_t_board_owners A_t_board_cells _ f3 v2 1 v5 f6 hq) [1, 4] [0, 2, 3] rfl rfl (by decide +kernel) (by decide +kernel) (by decide +kernel) (cwV 3 hts gX2_settle_X0_put rfl rfl rfl hd_X0_put ⟨Nat.le_of_ble_eq_true rfl, Nat.le_of_ble_eq_true rfl⟩) rfl rfl rfl hl.1 rfl (Nat.le_of_ble_eq_true rfl) dX2_settle_29 ⟨Nat.zero_le _, Nat.zero_le _⟩ (fun H locs hP hD hS => ?_)
        replace hP : va_P D vwCl [(A_t, .inr (2, [.ref A_t_board, .ref A_t_cut, .ref A_t_counts, .ref A_t_strength, .ref A_t_reason, .ref A_t_driver, .ref A_t_waits, .ref A_t_stands])), (A_t_board_numbers, .inl (cI, 10, .inl f4)), (A_t_stands, .inl (cI, 9, .inl V_t_stands)), (A_t_board, .inr (0, [.ref A_t_board_numbers, .ref A_t_board_owners, .ref A_t_board_cells])), (A_t_board_cells, .inl (cI, 63, .inl f6))] H := hP
        replace hD : va_D A [(A_t, .inr (2, [.ref A_t_board, .ref A_t_cut, .ref A_t_counts, .ref A_t_strength, .ref A_t_reason, .ref A_t_driver, .ref A_t_waits, .ref A_t_stands])), (A_t_board_numbers, .inl (cI, 10, .inl f4)), (A_t_stands, .inl (cI, 9, .inl V_t_stands)), (A_t_board, .inr (0, [.ref A_t_board_numbers, .ref A_t_board_owners, .ref A_t_board_cells])), (A_t_board_cells, .inl (cI, 63, .inl f6))] := hD
        refine lv_aload_n hx hb dX2_settle_32 rfl (lv_at hl 1 rfl) ?_
        refine xget (ci := 2) (C := RX2) (T := TX2) (N := 8) (v := .ref A_t_board) hx hb hts in_X2_settle_X2 hown hK hP 0 rfl rfl 0 (by decide) wd_X2_settle_1 rfl dX2_settle_33 ?_
        refine lv_iload_n hx hb dX2_settle_36 rfl (lv_at hl 0 rfl) ?_
        refine lv_iconst (v := 0) hx hb dX2_settle_37 (by decide) ?_
        refine lv_iconst (v := (-1)) hx hb dX2_settle_38 (by decide) ?_
        refine lv_iconst (v := (-1)) hx hb dX2_settle_39 (by decide) ?_
        obtain ⟨v8, f7, hq, hg⟩ := b2_ex hg
        refine callWV (As := [.int v2, .int 0, .int (-1), .int (-1)]) (rest := []) (wr := [(A_t, .inr (2, [.ref A_t_board, .ref A_t_cut, .ref A_t_counts, .ref A_t_strength, .ref A_t_reason, .ref A_t_driver, .ref A_t_waits, .ref A_t_stands])), (A_t_board_numbers, .inl (cI, 10, .inl f4)), (A_t_stands, .inl (cI, 9, .inl V_t_stands))]) S hK hP hD hS hA (c_X0_give l D cI cZ cB cJ A_t_board A_t_board_numbers A_t_board_owners A_t_board_cells _ f6 v2 0 (-1) (-1) v8 f7 hq) [3, 4] [0, 1, 2] rfl rfl (by decide +kernel) (by decide +kernel) (by decide +kernel) (cwV 4 hts gX2_settle_X0_give rfl rfl rfl hd_X0_give ⟨Nat.le_of_ble_eq_true rfl, Nat.le_of_ble_eq_true rfl⟩) rfl rfl rfl hl.1 rfl (Nat.le_of_ble_eq_true rfl) dX2_settle_40 ⟨Nat.zero_le _, Nat.zero_le _⟩ (fun H locs hP hD hS => ?_)
        replace hP : va_P D vwCl [(A_t, .inr (2, [.ref A_t_board, .ref A_t_cut, .ref A_t_counts, .ref A_t_strength, .ref A_t_reason, .ref A_t_driver, .ref A_t_waits, .ref A_t_stands])), (A_t_board_numbers, .inl (cI, 10, .inl f4)), (A_t_stands, .inl (cI, 9, .inl V_t_stands)), (A_t_board, .inr (0, [.ref A_t_board_numbers, .ref A_t_board_owners, .ref A_t_board_cells])), (A_t_board_cells, .inl (cI, 63, .inl f7))] H := hP
        replace hD : va_D A [(A_t, .inr (2, [.ref A_t_board, .ref A_t_cut, .ref A_t_counts, .ref A_t_strength, .ref A_t_reason, .ref A_t_driver, .ref A_t_waits, .ref A_t_stands])), (A_t_board_numbers, .inl (cI, 10, .inl f4)), (A_t_stands, .inl (cI, 9, .inl V_t_stands)), (A_t_board, .inr (0, [.ref A_t_board_numbers, .ref A_t_board_owners, .ref A_t_board_cells])), (A_t_board_cells, .inl (cI, 63, .inl f7))] := hD
        refine lv_pop hx hb dX2_settle_43 rfl ?_
        refine lv_aload_n hx hb dX2_settle_44 rfl (lv_at hl 1 rfl) ?_
        refine xget (ci := 2) (C := RX2) (T := TX2) (N := 8) (v := .ref A_t_stands) hx hb hts in_X2_settle_X2 hown hK hP 0 rfl rfl 7 (by decide) wd_X2_settle_2 rfl dX2_settle_45 ?_
        refine lv_iload_n hx hb dX2_settle_48 rfl (lv_at hl 0 rfl) ?_
        obtain ⟨v9, hq, hg⟩ := bind_ex hg
        refine callRNi (As := [.ref A_t_stands, .int v2]) (rest := []) S hK hP (c_X4_entry l D cI cZ cB cJ A_t_stands 9 V_t_stands v2 v9 hq) [2] rfl ⟨va_cnB 2 hts gX2_settle_X4_entry_n89 rfl rfl rfl (hK.2 _ (List.mem_of_getElem? (i := 8) rfl)) (hts _ wd_X2_settle_10) hd_X4_entry ⟨Nat.le_of_ble_eq_true rfl, Nat.le_of_ble_eq_true rfl⟩, hts _ wd_X2_settle_9, trivial⟩ rfl hl.1 rfl (Nat.le_of_ble_eq_true rfl) dX2_settle_49 ⟨Nat.zero_le _, Nat.zero_le _⟩ ?_
        refine lv_iconst (v := (-1)) hx hb dX2_settle_52 (by decide) ?_
        refine lv_icmp_ne (tgt := 73) hx hb dX2_settle_53 (by decide) (fun hc => ?_) (fun hc => ?_)
        · replace hg := if_no hg hc
          refine lv_iinc (v := (v2 + (-1))) (lv' := [(1, .int (v2 + (-1))), (0, .ref A_t)]) hx hb dX2_settle_73 hl (k := 0) rfl rfl (by decide) rfl (fun ls hl => ?_)
          refine lv_goto (tgt := 11) hx hb dX2_settle_76 (by decide) ?_
          exact ih _ _ _ _ _ (hP.sub [0, 3, 1, 2, 4] rfl) (hD.sub [0, 3, 1, 2, 4] (by decide) rfl) hS _ (lv_sub hl [0, 1] rfl) hg
        · replace hg := if_yes hg hc
          refine lv_aload_n hx hb dX2_settle_56 rfl (lv_at hl 1 rfl) ?_
          refine xget (ci := 2) (C := RX2) (T := TX2) (N := 8) (v := .ref A_t_board) hx hb hts in_X2_settle_X2 hown hK hP 0 rfl rfl 0 (by decide) wd_X2_settle_1 rfl dX2_settle_57 ?_
          refine lv_iload_n hx hb dX2_settle_60 rfl (lv_at hl 0 rfl) ?_
          obtain ⟨f10, f11, hq, hg⟩ := b2_ex hg
          refine callWVv (As := [.int v2]) (rest := []) (wr := [(A_t, .inr (2, [.ref A_t_board, .ref A_t_cut, .ref A_t_counts, .ref A_t_strength, .ref A_t_reason, .ref A_t_driver, .ref A_t_waits, .ref A_t_stands])), (A_t_stands, .inl (cI, 9, .inl V_t_stands))]) S hK hP hD hS hA (c_X0_remove l D cI cZ cB cJ A_t_board A_t_board_numbers A_t_board_owners A_t_board_cells _ f4 f7 v2 f10 f11 hq) [3, 1, 4] [0, 2] rfl rfl (by decide +kernel) (by decide +kernel) (by decide +kernel) (cwV 1 hts gX2_settle_X0_remove rfl rfl rfl hd_X0_remove ⟨Nat.le_of_ble_eq_true rfl, Nat.le_of_ble_eq_true rfl⟩) rfl rfl rfl hl.1 rfl (Nat.le_of_ble_eq_true rfl) dX2_settle_61 ⟨Nat.zero_le _, Nat.zero_le _⟩ (fun H locs hP hD hS => ?_)
          replace hP : va_P D vwCl [(A_t, .inr (2, [.ref A_t_board, .ref A_t_cut, .ref A_t_counts, .ref A_t_strength, .ref A_t_reason, .ref A_t_driver, .ref A_t_waits, .ref A_t_stands])), (A_t_stands, .inl (cI, 9, .inl V_t_stands)), (A_t_board, .inr (0, [.ref A_t_board_numbers, .ref A_t_board_owners, .ref A_t_board_cells])), (A_t_board_numbers, .inl (cI, 10, .inl f10)), (A_t_board_cells, .inl (cI, 63, .inl f11))] H := hP
          replace hD : va_D A [(A_t, .inr (2, [.ref A_t_board, .ref A_t_cut, .ref A_t_counts, .ref A_t_strength, .ref A_t_reason, .ref A_t_driver, .ref A_t_waits, .ref A_t_stands])), (A_t_stands, .inl (cI, 9, .inl V_t_stands)), (A_t_board, .inr (0, [.ref A_t_board_numbers, .ref A_t_board_owners, .ref A_t_board_cells])), (A_t_board_numbers, .inl (cI, 10, .inl f10)), (A_t_board_cells, .inl (cI, 63, .inl f11))] := hD
          refine lv_aload_n hx hb dX2_settle_64 rfl (lv_at hl 1 rfl) ?_
          refine xget (ci := 2) (C := RX2) (T := TX2) (N := 8) (v := .ref A_t_board) hx hb hts in_X2_settle_X2 hown hK hP 0 rfl rfl 0 (by decide) wd_X2_settle_1 rfl dX2_settle_65 ?_
          refine lv_bipush (v := 7) hx hb dX2_settle_68 (by decide) ?_
          obtain ⟨f12, hq, hg⟩ := bind_ex hg
          refine callWVv (As := [.int 7]) (rest := []) (wr := [(A_t, .inr (2, [.ref A_t_board, .ref A_t_cut, .ref A_t_counts, .ref A_t_strength, .ref A_t_reason, .ref A_t_driver, .ref A_t_waits, .ref A_t_stands])), (A_t_stands, .inl (cI, 9, .inl V_t_stands)), (A_t_board_cells, .inl (cI, 63, .inl f11))]) S hK hP hD hS hA (c_X0_countOne l D cI cZ cB cJ A_t_board A_t_board_numbers A_t_board_owners A_t_board_cells _ f10 7 f12 hq) [2, 3] [0, 1, 4] rfl rfl (by decide +kernel) (by decide +kernel) (by decide +kernel) (cwV 1 hts gX2_settle_X0_countOne rfl rfl rfl hd_X0_countOne ⟨Nat.le_of_ble_eq_true rfl, Nat.le_of_ble_eq_true rfl⟩) rfl rfl rfl hl.1 rfl (Nat.le_of_ble_eq_true rfl) dX2_settle_70 ⟨Nat.zero_le _, Nat.zero_le _⟩ (fun H locs hP hD hS => ?_)
          replace hP : va_P D vwCl [(A_t, .inr (2, [.ref A_t_board, .ref A_t_cut, .ref A_t_counts, .ref A_t_strength, .ref A_t_reason, .ref A_t_driver, .ref A_t_waits, .ref A_t_stands])), (A_t_stands, .inl (cI, 9, .inl V_t_stands)), (A_t_board_cells, .inl (cI, 63, .inl f11)), (A_t_board, .inr (0, [.ref A_t_board_numbers, .ref A_t_board_owners, .ref A_t_board_cells])), (A_t_board_numbers, .inl (cI, 10, .inl f12))] H := hP
          replace hD : va_D A [(A_t, .inr (2, [.ref A_t_board, .ref A_t_cut, .ref A_t_counts, .ref A_t_strength, .ref A_t_reason, .ref A_t_driver, .ref A_t_waits, .ref A_t_stands])), (A_t_stands, .inl (cI, 9, .inl V_t_stands)), (A_t_board_cells, .inl (cI, 63, .inl f11)), (A_t_board, .inr (0, [.ref A_t_board_numbers, .ref A_t_board_owners, .ref A_t_board_cells])), (A_t_board_numbers, .inl (cI, 10, .inl f12))] := hD
          refine lv_iinc (v := (v2 + (-1))) (lv' := [(1, .int (v2 + (-1))), (0, .ref A_t)]) hx hb dX2_settle_73 hl (k := 0) rfl rfl (by decide) rfl (fun ls hl => ?_)
          refine lv_goto (tgt := 11) hx hb dX2_settle_76 (by decide) ?_
          exact ih _ _ _ _ _ (hP.sub [0, 3, 4, 1, 2] rfl) (hD.sub [0, 3, 4, 1, 2] (by decide) rfl) hS _ (lv_sub hl [0, 1] rfl) hg
  exact L FU _ _ _ _ _ hP hD hS _ (lv_sub hl [0, 1] rfl) hL
