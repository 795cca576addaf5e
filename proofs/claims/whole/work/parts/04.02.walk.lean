theorem hd_X2_carryOut : yX2_carryOut.cls = RX2 ∧ yX2_carryOut.cls ≠ "java/lang/invoke/MethodHandle" ∧ yX2_carryOut.cls ≠ "java/lang/invoke/VarHandle" ∧ (parseMethodDescriptor yX2_carryOut.desc).map (fun d => d.parameters.length) = some 0 := by decide +kernel
theorem in_X2_carryOut_X2 : ∀ w ∈ u_ws RX2 TX2 8, w ∈ wsX2_carryOut := fun _ h => List.mem_cons_of_mem _ (List.mem_append_left _ (List.mem_append_right _ h))
theorem wd_X2_carryOut_1 : Cond.fieldLink RX2 12 "FogOrders$Opening" "board" "LFogOrders$Board;" ∈ wsX2_carryOut := List.mem_of_getElem? (i := 1) rfl
theorem wd_X2_carryOut_2 : Cond.fieldLink RX2 31 "FogOrders$Opening" "driver" "[I" ∈ wsX2_carryOut := List.mem_of_getElem? (i := 2) rfl
theorem wd_X2_carryOut_25 : Cond.initialized RX4 ∈ wsX2_carryOut := List.mem_of_getElem? (i := 25) rfl
theorem wd_X2_carryOut_24 : Cond.static yX4_entry ∈ wsX2_carryOut := List.mem_of_getElem? (i := 24) rfl
abbrev rX2_carryOut : Room := { frames := 5, cells := 0, slots := 0, locals := 113 }
set_option maxHeartbeats 4000000 in
set_option maxRecDepth 100000 in
theorem c_X2_carryOut (l : Launch) (D : va_G) (cI cZ cB cJ : ClassId) (A_t : Nat) (A_t_board : Nat) (A_t_cut : Nat) (A_t_counts : Nat) (A_t_strength : Nat) (A_t_reason : Nat) (A_t_driver : Nat) (A_t_waits : Nat) (A_t_stands : Nat) (A_t_board_numbers : Nat) (A_t_board_owners : Nat) (A_t_board_cells : Nat) (sz : Nat) (V_t_board_numbers : Nat → Int32) (V_t_board_cells : Nat → Int32) (V_t_reason : Nat → Int32) (V_t_driver : Nat → Int32) (V_t_stands : Nat → Int32) (V_t_board_owners : Nat → Int32) (r0 : Int32) (w1 : Nat → Int32) (w2 : Nat → Int32) (w3 : Nat → Int32) (hg : g_X2_carryOut V_t_board_numbers V_t_board_cells V_t_reason V_t_driver V_t_stands V_t_board_owners = some (r0, w1, w2, w3)) : Met l yX2_carryOut wsX2_carryOut rX2_carryOut (PcW D cI cZ cB cJ sz [(A_t, .inr (2, [.ref A_t_board, .ref A_t_cut, .ref A_t_counts, .ref A_t_strength, .ref A_t_reason, .ref A_t_driver, .ref A_t_waits, .ref A_t_stands])), (A_t_board, .inr (0, [.ref A_t_board_numbers, .ref A_t_board_owners, .ref A_t_board_cells])), (A_t_board_numbers, .inl (cI, 10, .inl V_t_board_numbers)), (A_t_board_cells, .inl (cI, 63, .inl V_t_board_cells)), (A_t_reason, .inl (cI, 9, .inl V_t_reason)), (A_t_driver, .inl (cI, 9, .inl V_t_driver)), (A_t_stands, .inl (cI, 9, .inl V_t_stands)), (A_t_board_owners, .inl (cI, 12, .inl V_t_board_owners))] [.ref A_t]) (QWi D cI cZ cB cJ sz [(A_t, .inr (2, [.ref A_t_board, .ref A_t_cut, .ref A_t_counts, .ref A_t_strength, .ref A_t_reason, .ref A_t_driver, .ref A_t_waits, .ref A_t_stands])), (A_t_board, .inr (0, [.ref A_t_board_numbers, .ref A_t_board_owners, .ref A_t_board_cells])), (A_t_board_numbers, .inl (cI, 10, .inl V_t_board_numbers)), (A_t_board_cells, .inl (cI, 63, .inl V_t_board_cells)), (A_t_reason, .inl (cI, 9, .inl V_t_reason)), (A_t_driver, .inl (cI, 9, .inl V_t_driver)), (A_t_stands, .inl (cI, 9, .inl V_t_stands)), (A_t_board_owners, .inl (cI, 12, .inl V_t_board_owners))] [(A_t, .inr (2, [.ref A_t_board, .ref A_t_cut, .ref A_t_counts, .ref A_t_strength, .ref A_t_reason, .ref A_t_driver, .ref A_t_waits, .ref A_t_stands])), (A_t_board, .inr (0, [.ref A_t_board_numbers, .ref A_t_board_owners, .ref A_t_board_cells])), (A_t_board_numbers, .inl (cI, 10, .inl w1)), (A_t_board_cells, .inl (cI, 63, .inl w2)), (A_t_reason, .inl (cI, 9, .inl V_t_reason)), (A_t_driver, .inl (cI, 9, .inl V_t_driver)), (A_t_stands, .inl (cI, 9, .inl V_t_stands)), (A_t_board_owners, .inl (cI, 12, .inl w3))] r0) 0 0 (va_A [(A_t, .inr (2, [.ref A_t_board, .ref A_t_cut, .ref A_t_counts, .ref A_t_strength, .ref A_t_reason, .ref A_t_driver, .ref A_t_waits, .ref A_t_stands])), (A_t_board, .inr (0, [.ref A_t_board_numbers, .ref A_t_board_owners, .ref A_t_board_cells])), (A_t_board_numbers, .inl (cI, 10, .inl V_t_board_numbers)), (A_t_board_cells, .inl (cI, 63, .inl V_t_board_cells)), (A_t_reason, .inl (cI, 9, .inl V_t_reason)), (A_t_driver, .inl (cI, 9, .inl V_t_driver)), (A_t_stands, .inl (cI, 9, .inl V_t_stands)), (A_t_board_owners, .inl (cI, 12, .inl V_t_board_owners))] sz) := by
  refine bodyWi (cc := cX2_carryOut) (maxL := 3) (lv := [(0, .ref A_t)]) (by decide) rfl (Nat.le_of_ble_eq_true rfl) rfl ?_
  intro p e s m args below meth c Q hx hb hml hown hts A hP hK hD hA hS fin ls hl
  replace hown : s.vm.findClass RX2 = some m.cls := hown
  have S : CallFix p m c cX2_carryOut 3 s args wsX2_carryOut RX2 := ⟨hx, hb, hml, hown, hts⟩
  unfold g_X2_carryOut at hg
  refine lv_iconst (v := 0) hx hb dX2_carryOut_0 (by decide) ?_
  refine lv_istore_n (lv' := [(1, .int 0), (0, .ref A_t)]) hx hb dX2_carryOut_1 rfl hl (by decide) rfl (fun ls hl => ?_)
  refine lv_iconst (v := 0) hx hb dX2_carryOut_2 (by decide) ?_
  refine lv_istore_n (lv' := [(2, .int 0), (1, .int 0), (0, .ref A_t)]) hx hb dX2_carryOut_3 rfl hl (by decide) rfl (fun ls hl => ?_)
  obtain ⟨v17, f18, f19, hL, hg⟩ := b3_ex hg
  have kx : ∀ (H : Heap) (locs : List Loc), va_P D vwCl [(A_t, .inr (2, [.ref A_t_board, .ref A_t_cut, .ref A_t_counts, .ref A_t_strength, .ref A_t_reason, .ref A_t_driver, .ref A_t_waits, .ref A_t_stands])), (A_t_board, .inr (0, [.ref A_t_board_numbers, .ref A_t_board_owners, .ref A_t_board_cells])), (A_t_board_numbers, .inl (cI, 10, .inl f19)), (A_t_board_cells, .inl (cI, 63, .inl f18)), (A_t_reason, .inl (cI, 9, .inl V_t_reason)), (A_t_driver, .inl (cI, 9, .inl V_t_driver)), (A_t_stands, .inl (cI, 9, .inl V_t_stands)), (A_t_board_owners, .inl (cI, 12, .inl V_t_board_owners))] H → va_D A [(A_t, .inr (2, [.ref A_t_board, .ref A_t_cut, .ref A_t_counts, .ref A_t_strength, .ref A_t_reason, .ref A_t_driver, .ref A_t_waits, .ref A_t_stands])), (A_t_board, .inr (0, [.ref A_t_board_numbers, .ref A_t_board_owners, .ref A_t_board_cells])), (A_t_board_numbers, .inl (cI, 10, .inl f19)), (A_t_board_cells, .inl (cI, 63, .inl f18)), (A_t_reason, .inl (cI, 9, .inl V_t_reason)), (A_t_driver, .inl (cI, 9, .inl V_t_driver)), (A_t_stands, .inl (cI, 9, .inl V_t_stands)), (A_t_board_owners, .inl (cI, 12, .inl V_t_board_owners))] → va_S A s.heap H locs → ∀ ls : Array Slot, lv_has ls 3 [(1, .int v17), (0, .ref A_t)] → W p l e rX2_carryOut s m args below meth c H locs 0 0 Q (F0 m 77 ls []) := by
    intro H locs hP hD hS ls hl
    refine lv_aload_n hx hb dX2_carryOut_77 rfl (lv_at hl 1 rfl) ?_
    obtain ⟨f20, f21, hq, hg⟩ := b2_ex hg
    refine callWVv (As := []) (rest := []) (wr := [(A_t_reason, .inl (cI, 9, .inl V_t_reason)), (A_t_driver, .inl (cI, 9, .inl V_t_driver)), (A_t_board_owners, .inl (cI, 12, .inl V_t_board_owners))]) S hK hP hD hS hA (c_X2_settle l D cI cZ cB cJ A_t A_t_board A_t_cut A_t_counts A_t_strength A_t_reason A_t_driver A_t_waits A_t_stands A_t_board_numbers A_t_board_owners A_t_board_cells _ f19 V_t_stands f18 f20 f21 hq) [0, 1, 2, 6, 3] [4, 5, 7] rfl rfl (by decide +kernel) (by decide +kernel) (by decide +kernel) (cwV 0 hts gX2_carryOut_X2_settle rfl rfl rfl hd_X2_settle ⟨Nat.le_of_ble_eq_true rfl, Nat.le_of_ble_eq_true rfl⟩) rfl rfl rfl hl.1 rfl (Nat.le_of_ble_eq_true rfl) dX2_carryOut_78 ⟨Nat.zero_le _, Nat.zero_le _⟩ (fun H locs hP hD hS => ?_)
    replace hP : va_P D vwCl [(A_t_reason, .inl (cI, 9, .inl V_t_reason)), (A_t_driver, .inl (cI, 9, .inl V_t_driver)), (A_t_board_owners, .inl (cI, 12, .inl V_t_board_owners)), (A_t, .inr (2, [.ref A_t_board, .ref A_t_cut, .ref A_t_counts, .ref A_t_strength, .ref A_t_reason, .ref A_t_driver, .ref A_t_waits, .ref A_t_stands])), (A_t_board, .inr (0, [.ref A_t_board_numbers, .ref A_t_board_owners, .ref A_t_board_cells])), (A_t_board_numbers, .inl (cI, 10, .inl f20)), (A_t_stands, .inl (cI, 9, .inl V_t_stands)), (A_t_board_cells, .inl (cI, 63, .inl f21))] H := hP
    replace hD : va_D A [(A_t_reason, .inl (cI, 9, .inl V_t_reason)), (A_t_driver, .inl (cI, 9, .inl V_t_driver)), (A_t_board_owners, .inl (cI, 12, .inl V_t_board_owners)), (A_t, .inr (2, [.ref A_t_board, .ref A_t_cut, .ref A_t_counts, .ref A_t_strength, .ref A_t_reason, .ref A_t_driver, .ref A_t_waits, .ref A_t_stands])), (A_t_board, .inr (0, [.ref A_t_board_numbers, .ref A_t_board_owners, .ref A_t_board_cells])), (A_t_board_numbers, .inl (cI, 10, .inl f20)), (A_t_stands, .inl (cI, 9, .inl V_t_stands)), (A_t_board_cells, .inl (cI, 63, .inl f21))] := hD
    refine lv_aload_n hx hb dX2_carryOut_81 rfl (lv_at hl 1 rfl) ?_
    refine xget (ci := 2) (C := RX2) (T := TX2) (N := 8) (v := .ref A_t_board) hx hb hts in_X2_carryOut_X2 hown hK hP 3 rfl rfl 0 (by decide) wd_X2_carryOut_1 rfl dX2_carryOut_82 ?_
    refine lv_iconst (v := 3) hx hb dX2_carryOut_85 (by decide) ?_
    obtain ⟨f22, hq, hg⟩ := bind_ex hg
    refine callWVv (As := [.int 3]) (rest := []) (wr := [(A_t_reason, .inl (cI, 9, .inl V_t_reason)), (A_t_driver, .inl (cI, 9, .inl V_t_driver)), (A_t_board_owners, .inl (cI, 12, .inl V_t_board_owners)), (A_t, .inr (2, [.ref A_t_board, .ref A_t_cut, .ref A_t_counts, .ref A_t_strength, .ref A_t_reason, .ref A_t_driver, .ref A_t_waits, .ref A_t_stands])), (A_t_stands, .inl (cI, 9, .inl V_t_stands)), (A_t_board_cells, .inl (cI, 63, .inl f21))]) S hK hP hD hS hA (c_X0_countOne l D cI cZ cB cJ A_t_board A_t_board_numbers A_t_board_owners A_t_board_cells _ f20 3 f22 hq) [4, 5] [0, 1, 2, 3, 6, 7] rfl rfl (by decide +kernel) (by decide +kernel) (by decide +kernel) (cwV 1 hts gX2_carryOut_X0_countOne rfl rfl rfl hd_X0_countOne ⟨Nat.le_of_ble_eq_true rfl, Nat.le_of_ble_eq_true rfl⟩) rfl rfl rfl hl.1 rfl (Nat.le_of_ble_eq_true rfl) dX2_carryOut_86 ⟨Nat.zero_le _, Nat.zero_le _⟩ (fun H locs hP hD hS => ?_)
    replace hP : va_P D vwCl [(A_t_reason, .inl (cI, 9, .inl V_t_reason)), (A_t_driver, .inl (cI, 9, .inl V_t_driver)), (A_t_board_owners, .inl (cI, 12, .inl V_t_board_owners)), (A_t, .inr (2, [.ref A_t_board, .ref A_t_cut, .ref A_t_counts, .ref A_t_strength, .ref A_t_reason, .ref A_t_driver, .ref A_t_waits, .ref A_t_stands])), (A_t_stands, .inl (cI, 9, .inl V_t_stands)), (A_t_board_cells, .inl (cI, 63, .inl f21)), (A_t_board, .inr (0, [.ref A_t_board_numbers, .ref A_t_board_owners, .ref A_t_board_cells])), (A_t_board_numbers, .inl (cI, 10, .inl f22))] H := hP
    replace hD : va_D A [(A_t_reason, .inl (cI, 9, .inl V_t_reason)), (A_t_driver, .inl (cI, 9, .inl V_t_driver)), (A_t_board_owners, .inl (cI, 12, .inl V_t_board_owners)), (A_t, .inr (2, [.ref A_t_board, .ref A_t_cut, .ref A_t_counts, .ref A_t_strength, .ref A_t_reason, .ref A_t_driver, .ref A_t_waits, .ref A_t_stands])), (A_t_stands, .inl (cI, 9, .inl V_t_stands)), (A_t_board_cells, .inl (cI, 63, .inl f21)), (A_t_board, .inr (0, [.ref A_t_board_numbers, .ref A_t_board_owners, .ref A_t_board_cells])), (A_t_board_numbers, .inl (cI, 10, .inl f22))] := hD
    refine lv_aload_n hx hb dX2_carryOut_89 rfl (lv_at hl 1 rfl) ?_
    refine xget (ci := 2) (C := RX2) (T := TX2) (N := 8) (v := .ref A_t_board) hx hb hts in_X2_carryOut_X2 hown hK hP 3 rfl rfl 0 (by decide) wd_X2_carryOut_1 rfl dX2_carryOut_90 ?_
    obtain ⟨f23, f24, f25, hq, hg⟩ := b3_ex hg
    refine callWVv (As := []) (rest := []) (wr := [(A_t_reason, .inl (cI, 9, .inl V_t_reason)), (A_t_driver, .inl (cI, 9, .inl V_t_driver)), (A_t, .inr (2, [.ref A_t_board, .ref A_t_cut, .ref A_t_counts, .ref A_t_strength, .ref A_t_reason, .ref A_t_driver, .ref A_t_waits, .ref A_t_stands])), (A_t_stands, .inl (cI, 9, .inl V_t_stands))]) S hK hP hD hS hA (c_X0_beginNextSeason l D cI cZ cB cJ A_t_board A_t_board_numbers A_t_board_owners A_t_board_cells _ f22 f21 V_t_board_owners f23 f24 f25 hq) [6, 7, 5, 2] [0, 1, 3, 4] rfl rfl (by decide +kernel) (by decide +kernel) (by decide +kernel) (cwV 0 hts gX2_carryOut_X0_beginNextSeason rfl rfl rfl hd_X0_beginNextSeason ⟨Nat.le_of_ble_eq_true rfl, Nat.le_of_ble_eq_true rfl⟩) rfl rfl rfl hl.1 rfl (Nat.le_of_ble_eq_true rfl) dX2_carryOut_93 ⟨Nat.zero_le _, Nat.zero_le _⟩ (fun H locs hP hD hS => ?_)
    replace hP : va_P D vwCl [(A_t_reason, .inl (cI, 9, .inl V_t_reason)), (A_t_driver, .inl (cI, 9, .inl V_t_driver)), (A_t, .inr (2, [.ref A_t_board, .ref A_t_cut, .ref A_t_counts, .ref A_t_strength, .ref A_t_reason, .ref A_t_driver, .ref A_t_waits, .ref A_t_stands])), (A_t_stands, .inl (cI, 9, .inl V_t_stands)), (A_t_board, .inr (0, [.ref A_t_board_numbers, .ref A_t_board_owners, .ref A_t_board_cells])), (A_t_board_numbers, .inl (cI, 10, .inl f23)), (A_t_board_cells, .inl (cI, 63, .inl f24)), (A_t_board_owners, .inl (cI, 12, .inl f25))] H := hP
    replace hD : va_D A [(A_t_reason, .inl (cI, 9, .inl V_t_reason)), (A_t_driver, .inl (cI, 9, .inl V_t_driver)), (A_t, .inr (2, [.ref A_t_board, .ref A_t_cut, .ref A_t_counts, .ref A_t_strength, .ref A_t_reason, .ref A_t_driver, .ref A_t_waits, .ref A_t_stands])), (A_t_stands, .inl (cI, 9, .inl V_t_stands)), (A_t_board, .inr (0, [.ref A_t_board_numbers, .ref A_t_board_owners, .ref A_t_board_cells])), (A_t_board_numbers, .inl (cI, 10, .inl f23)), (A_t_board_cells, .inl (cI, 63, .inl f24)), (A_t_board_owners, .inl (cI, 12, .inl f25))] := hD
    refine lv_iload_n hx hb dX2_carryOut_96 rfl (lv_at hl 0 rfl) ?_
    cases hg
    exact fin _ _ _ _ dX2_carryOut_97 (hP.sub [2, 4, 5, 6, 0, 1, 3, 7] rfl) (hD.sub [2, 4, 5, 6, 0, 1, 3, 7] (by decide) rfl) hS
  have L : ∀ (nf : Nat) (v1 : Int32) (v2 : Int32) (f3 : Nat → Int32) (f4 : Nat → Int32), ∀ (H : Heap) (locs : List Loc), va_P D vwCl [(A_t, .inr (2, [.ref A_t_board, .ref A_t_cut, .ref A_t_counts, .ref A_t_strength, .ref A_t_reason, .ref A_t_driver, .ref A_t_waits, .ref A_t_stands])), (A_t_board, .inr (0, [.ref A_t_board_numbers, .ref A_t_board_owners, .ref A_t_board_cells])), (A_t_board_numbers, .inl (cI, 10, .inl f4)), (A_t_board_cells, .inl (cI, 63, .inl f3)), (A_t_reason, .inl (cI, 9, .inl V_t_reason)), (A_t_driver, .inl (cI, 9, .inl V_t_driver)), (A_t_stands, .inl (cI, 9, .inl V_t_stands)), (A_t_board_owners, .inl (cI, 12, .inl V_t_board_owners))] H → va_D A [(A_t, .inr (2, [.ref A_t_board, .ref A_t_cut, .ref A_t_counts, .ref A_t_strength, .ref A_t_reason, .ref A_t_driver, .ref A_t_waits, .ref A_t_stands])), (A_t_board, .inr (0, [.ref A_t_board_numbers, .ref A_t_board_owners, .ref A_t_board_cells])), (A_t_board_numbers, .inl (cI, 10, .inl f4)), (A_t_board_cells, .inl (cI, 63, .inl f3)), (A_t_reason, .inl (cI, 9, .inl V_t_reason)), (A_t_driver, .inl (cI, 9, .inl V_t_driver)), (A_t_stands, .inl (cI, 9, .inl V_t_stands)), (A_t_board_owners, .inl (cI, 12, .inl V_t_board_owners))] → va_S A s.heap H locs → ∀ ls : Array Slot, lv_has ls 3 [(2, .int v2), (1, .int v1), (0, .ref A_t)] → g_X2_carryOut_L1 V_t_driver V_t_reason nf v1 v2 f3 f4 = some (v17, f18, f19) → W p l e rX2_carryOut s m args below meth c H locs 0 0 Q (F0 m 4 ls []) := by
    intro nf
    induction nf with
    | zero =>
      intro v1 v2 f3 f4 H locs hP hD hS ls hl hg
      exact no_some hg
    | succ nf ih =>
      intro v1 v2 f3 f4 H locs hP hD hS ls hl hg
      rw [g_X2_carryOut_L1] at hg
      refine lv_iload_n hx hb dX2_carryOut_4 rfl (lv_at hl 0 rfl) ?_
      refine lv_aload_n hx hb dX2_carryOut_5 rfl (lv_at hl 2 rfl) ?_
      refine xget (ci := 2) (C := RX2) (T := TX2) (N := 8) (v := .ref A_t_board) hx hb hts in_X2_carryOut_X2 hown hK hP 0 rfl rfl 0 (by decide) wd_X2_carryOut_1 rfl dX2_carryOut_6 ?_
      refine lv_iconst (v := 0) hx hb dX2_carryOut_9 (by decide) ?_
      obtain ⟨v5, hq, hg⟩ := bind_ex hg
      refine callRVi (As := [.int 0]) (rest := [.int v2]) S hK hP (c_X0_number l D cI cZ cB cJ A_t_board A_t_board_numbers A_t_board_owners A_t_board_cells f4 0 v5 hq) [1, 2] rfl (cwV 1 hts gX2_carryOut_X0_number rfl rfl rfl hd_X0_number ⟨Nat.le_of_ble_eq_true rfl, Nat.le_of_ble_eq_true rfl⟩) rfl rfl rfl hl.1 rfl (Nat.le_of_ble_eq_true rfl) dX2_carryOut_10 ⟨Nat.zero_le _, Nat.zero_le _⟩ ?_
      refine lv_icmp_ge (tgt := 77) hx hb dX2_carryOut_13 (by decide) (fun hc => ?_) (fun hc => ?_)
      · replace hg := if_yes hg hc
        cases hg
        exact kx _ _ hP hD hS _ (lv_sub hl [1, 2] rfl)
      · replace hg := if_no hg hc
        refine lv_aload_n hx hb dX2_carryOut_16 rfl (lv_at hl 2 rfl) ?_
        refine lv_iload_n hx hb dX2_carryOut_17 rfl (lv_at hl 0 rfl) ?_
        obtain ⟨v6, hq, hg⟩ := bind_ex hg
        refine callRVz (As := [.int v2]) (rest := []) S hK hP (c_X2_moves l D cI cZ cB cJ A_t A_t_board A_t_cut A_t_counts A_t_strength A_t_reason A_t_driver A_t_waits A_t_stands A_t_board_numbers A_t_board_owners A_t_board_cells f3 v2 v6 hq) [0, 1, 3] rfl (cwV 1 hts gX2_carryOut_X2_moves rfl rfl rfl hd_X2_moves ⟨Nat.le_of_ble_eq_true rfl, Nat.le_of_ble_eq_true rfl⟩) rfl rfl rfl hl.1 rfl (Nat.le_of_ble_eq_true rfl) dX2_carryOut_18 ⟨Nat.zero_le _, Nat.zero_le _⟩ (fun hz_v6 => ?_)
        have hJ1 : ∀ (v12 : Int32) (f13 : Nat → Int32) (f14 : Nat → Int32), ∀ (H : Heap) (locs : List Loc), va_P D vwCl [(A_t, .inr (2, [.ref A_t_board, .ref A_t_cut, .ref A_t_counts, .ref A_t_strength, .ref A_t_reason, .ref A_t_driver, .ref A_t_waits, .ref A_t_stands])), (A_t_board, .inr (0, [.ref A_t_board_numbers, .ref A_t_board_owners, .ref A_t_board_cells])), (A_t_board_numbers, .inl (cI, 10, .inl f14)), (A_t_board_cells, .inl (cI, 63, .inl f13)), (A_t_reason, .inl (cI, 9, .inl V_t_reason)), (A_t_driver, .inl (cI, 9, .inl V_t_driver)), (A_t_stands, .inl (cI, 9, .inl V_t_stands)), (A_t_board_owners, .inl (cI, 12, .inl V_t_board_owners))] H → va_D A [(A_t, .inr (2, [.ref A_t_board, .ref A_t_cut, .ref A_t_counts, .ref A_t_strength, .ref A_t_reason, .ref A_t_driver, .ref A_t_waits, .ref A_t_stands])), (A_t_board, .inr (0, [.ref A_t_board_numbers, .ref A_t_board_owners, .ref A_t_board_cells])), (A_t_board_numbers, .inl (cI, 10, .inl f14)), (A_t_board_cells, .inl (cI, 63, .inl f13)), (A_t_reason, .inl (cI, 9, .inl V_t_reason)), (A_t_driver, .inl (cI, 9, .inl V_t_driver)), (A_t_stands, .inl (cI, 9, .inl V_t_stands)), (A_t_board_owners, .inl (cI, 12, .inl V_t_board_owners))] → va_S A s.heap H locs → ∀ ls : Array Slot, lv_has ls 3 [(2, .int v2), (1, .int v12), (0, .ref A_t)] → g_X2_carryOut_J1 V_t_driver v2 (g_X2_carryOut_L1 V_t_driver V_t_reason nf) v12 f13 f14 = some (v17, f18, f19) → W p l e rX2_carryOut s m args below meth c H locs 0 0 Q (F0 m 50 ls []) := by
          intro v12 f13 f14 H locs hP hD hS ls hl hg
          unfold g_X2_carryOut_J1 at hg
          refine lv_aload_n hx hb dX2_carryOut_50 rfl (lv_at hl 2 rfl) ?_
          refine xget (ci := 2) (C := RX2) (T := TX2) (N := 8) (v := .ref A_t_driver) hx hb hts in_X2_carryOut_X2 hown hK hP 0 rfl rfl 5 (by decide) wd_X2_carryOut_2 rfl dX2_carryOut_51 ?_
          refine lv_iload_n hx hb dX2_carryOut_54 rfl (lv_at hl 0 rfl) ?_
          obtain ⟨v15, hq, hg⟩ := bind_ex hg
          refine callRNi (As := [.ref A_t_driver, .int v2]) (rest := []) S hK hP (c_X4_entry l D cI cZ cB cJ A_t_driver 9 V_t_driver v2 v15 hq) [5] rfl ⟨va_cnB 2 hts gX2_carryOut_X4_entry_n89 rfl rfl rfl (hK.2 _ (List.mem_of_getElem? (i := 8) rfl)) (hts _ wd_X2_carryOut_25) hd_X4_entry ⟨Nat.le_of_ble_eq_true rfl, Nat.le_of_ble_eq_true rfl⟩, hts _ wd_X2_carryOut_24, trivial⟩ rfl hl.1 rfl (Nat.le_of_ble_eq_true rfl) dX2_carryOut_55 ⟨Nat.zero_le _, Nat.zero_le _⟩ ?_
          refine lv_iconst (v := (-1)) hx hb dX2_carryOut_58 (by decide) ?_
          refine lv_icmp_eq (tgt := 71) hx hb dX2_carryOut_59 (by decide) (fun hc => ?_) (fun hc => ?_)
          · replace hg := if_yes hg hc
            refine lv_iinc (v := (v2 + 1)) (lv' := [(2, .int (v2 + 1)), (1, .int v12), (0, .ref A_t)]) hx hb dX2_carryOut_71 hl (k := 0) rfl rfl (by decide) rfl (fun ls hl => ?_)
            refine lv_goto (tgt := 4) hx hb dX2_carryOut_74 (by decide) ?_
            exact ih _ _ _ _ _ _ hP hD hS _ (lv_sub hl [0, 1, 2] rfl) hg
          · replace hg := if_no hg hc
            refine lv_aload_n hx hb dX2_carryOut_62 rfl (lv_at hl 2 rfl) ?_
            refine xget (ci := 2) (C := RX2) (T := TX2) (N := 8) (v := .ref A_t_board) hx hb hts in_X2_carryOut_X2 hown hK hP 0 rfl rfl 0 (by decide) wd_X2_carryOut_1 rfl dX2_carryOut_63 ?_
            refine lv_bipush (v := 6) hx hb dX2_carryOut_66 (by decide) ?_
            obtain ⟨f16, hq, hg⟩ := bind_ex hg
            refine callWVv (As := [.int 6]) (rest := []) (wr := [(A_t, .inr (2, [.ref A_t_board, .ref A_t_cut, .ref A_t_counts, .ref A_t_strength, .ref A_t_reason, .ref A_t_driver, .ref A_t_waits, .ref A_t_stands])), (A_t_board_cells, .inl (cI, 63, .inl f13)), (A_t_reason, .inl (cI, 9, .inl V_t_reason)), (A_t_driver, .inl (cI, 9, .inl V_t_driver)), (A_t_stands, .inl (cI, 9, .inl V_t_stands)), (A_t_board_owners, .inl (cI, 12, .inl V_t_board_owners))]) S hK hP hD hS hA (c_X0_countOne l D cI cZ cB cJ A_t_board A_t_board_numbers A_t_board_owners A_t_board_cells _ f14 6 f16 hq) [1, 2] [0, 3, 4, 5, 6, 7] rfl rfl (by decide +kernel) (by decide +kernel) (by decide +kernel) (cwV 1 hts gX2_carryOut_X0_countOne rfl rfl rfl hd_X0_countOne ⟨Nat.le_of_ble_eq_true rfl, Nat.le_of_ble_eq_true rfl⟩) rfl rfl rfl hl.1 rfl (Nat.le_of_ble_eq_true rfl) dX2_carryOut_68 ⟨Nat.zero_le _, Nat.zero_le _⟩ (fun H locs hP hD hS => ?_)
            replace hP : va_P D vwCl [(A_t, .inr (2, [.ref A_t_board, .ref A_t_cut, .ref A_t_counts, .ref A_t_strength, .ref A_t_reason, .ref A_t_driver, .ref A_t_waits, .ref A_t_stands])), (A_t_board_cells, .inl (cI, 63, .inl f13)), (A_t_reason, .inl (cI, 9, .inl V_t_reason)), (A_t_driver, .inl (cI, 9, .inl V_t_driver)), (A_t_stands, .inl (cI, 9, .inl V_t_stands)), (A_t_board_owners, .inl (cI, 12, .inl V_t_board_owners)), (A_t_board, .inr (0, [.ref A_t_board_numbers, .ref A_t_board_owners, .ref A_t_board_cells])), (A_t_board_numbers, .inl (cI, 10, .inl f16))] H := hP
            replace hD : va_D A [(A_t, .inr (2, [.ref A_t_board, .ref A_t_cut, .ref A_t_counts, .ref A_t_strength, .ref A_t_reason, .ref A_t_driver, .ref A_t_waits, .ref A_t_stands])), (A_t_board_cells, .inl (cI, 63, .inl f13)), (A_t_reason, .inl (cI, 9, .inl V_t_reason)), (A_t_driver, .inl (cI, 9, .inl V_t_driver)), (A_t_stands, .inl (cI, 9, .inl V_t_stands)), (A_t_board_owners, .inl (cI, 12, .inl V_t_board_owners)), (A_t_board, .inr (0, [.ref A_t_board_numbers, .ref A_t_board_owners, .ref A_t_board_cells])), (A_t_board_numbers, .inl (cI, 10, .inl f16))] := hD
            refine lv_iinc (v := (v2 + 1)) (lv' := [(2, .int (v2 + 1)), (1, .int v12), (0, .ref A_t)]) hx hb dX2_carryOut_71 hl (k := 0) rfl rfl (by decide) rfl (fun ls hl => ?_)
            refine lv_goto (tgt := 4) hx hb dX2_carryOut_74 (by decide) ?_
            exact ih _ _ _ _ _ _ (hP.sub [0, 6, 7, 1, 2, 3, 4, 5] rfl) (hD.sub [0, 6, 7, 1, 2, 3, 4, 5] (by decide) rfl) hS _ (lv_sub hl [0, 1, 2] rfl) hg
        refine lv_if_eq (tgt := 50) hx hb dX2_carryOut_21 (by decide) (fun hc => ?_) (fun hc => ?_)
        · replace hg := if_yes hg hc
          exact hJ1 _ _ _ _ _ hP hD hS _ (lv_sub hl [0, 1, 2] rfl) hg
        · replace hg := if_no hg hc
          refine lv_iload_n hx hb dX2_carryOut_24 rfl (lv_at hl 1 rfl) ?_
          refine lv_aload_n hx hb dX2_carryOut_25 rfl (lv_at hl 2 rfl) ?_
          refine lv_iload_n hx hb dX2_carryOut_26 rfl (lv_at hl 0 rfl) ?_
          obtain ⟨v7, hq, hg⟩ := bind_ex hg
          refine callRVz (As := [.int v2]) (rest := [.int v1]) S hK hP (c_X2_goes l D cI cZ cB cJ A_t A_t_board A_t_cut A_t_counts A_t_strength A_t_reason A_t_driver A_t_waits A_t_stands A_t_board_numbers A_t_board_owners A_t_board_cells f3 V_t_reason v2 v7 hq) [0, 1, 3, 4] rfl (cwV 1 hts gX2_carryOut_X2_goes rfl rfl rfl hd_X2_goes ⟨Nat.le_of_ble_eq_true rfl, Nat.le_of_ble_eq_true rfl⟩) rfl rfl rfl hl.1 rfl (Nat.le_of_ble_eq_true rfl) dX2_carryOut_27 ⟨Nat.zero_le _, Nat.zero_le _⟩ (fun hz_v7 => ?_)
          have hJ2 : ∀ (v8 : Int32), bo v8 → ∀ (H : Heap) (locs : List Loc), va_P D vwCl [(A_t, .inr (2, [.ref A_t_board, .ref A_t_cut, .ref A_t_counts, .ref A_t_strength, .ref A_t_reason, .ref A_t_driver, .ref A_t_waits, .ref A_t_stands])), (A_t_board, .inr (0, [.ref A_t_board_numbers, .ref A_t_board_owners, .ref A_t_board_cells])), (A_t_board_numbers, .inl (cI, 10, .inl f4)), (A_t_board_cells, .inl (cI, 63, .inl f3)), (A_t_reason, .inl (cI, 9, .inl V_t_reason)), (A_t_driver, .inl (cI, 9, .inl V_t_driver)), (A_t_stands, .inl (cI, 9, .inl V_t_stands)), (A_t_board_owners, .inl (cI, 12, .inl V_t_board_owners))] H → va_D A [(A_t, .inr (2, [.ref A_t_board, .ref A_t_cut, .ref A_t_counts, .ref A_t_strength, .ref A_t_reason, .ref A_t_driver, .ref A_t_waits, .ref A_t_stands])), (A_t_board, .inr (0, [.ref A_t_board_numbers, .ref A_t_board_owners, .ref A_t_board_cells])), (A_t_board_numbers, .inl (cI, 10, .inl f4)), (A_t_board_cells, .inl (cI, 63, .inl f3)), (A_t_reason, .inl (cI, 9, .inl V_t_reason)), (A_t_driver, .inl (cI, 9, .inl V_t_driver)), (A_t_stands, .inl (cI, 9, .inl V_t_stands)), (A_t_board_owners, .inl (cI, 12, .inl V_t_board_owners))] → va_S A s.heap H locs → ∀ ls : Array Slot, lv_has ls 3 [(2, .int v2), (0, .ref A_t)] → g_X2_carryOut_J2 f3 V_t_reason v2 f4 V_t_driver v1 (g_X2_carryOut_L1 V_t_driver V_t_reason nf) v8 = some (v17, f18, f19) → W p l e rX2_carryOut s m args below meth c H locs 0 0 Q (F0 m 38 ls [.int v8, .int v1]) := by
            intro v8 hz_v8 H locs hP hD hS ls hl hg
            unfold g_X2_carryOut_J2 at hg
            refine lv_iadd hx hb dX2_carryOut_38 ?_
            refine lv_istore_n (lv' := [(1, .int (v1 + v8)), (2, .int v2), (0, .ref A_t)]) hx hb dX2_carryOut_39 rfl hl (by decide) rfl (fun ls hl => ?_)
            refine lv_aload_n hx hb dX2_carryOut_40 rfl (lv_at hl 2 rfl) ?_
            refine lv_iload_n hx hb dX2_carryOut_41 rfl (lv_at hl 1 rfl) ?_
            refine lv_aload_n hx hb dX2_carryOut_42 rfl (lv_at hl 2 rfl) ?_
            refine lv_iload_n hx hb dX2_carryOut_43 rfl (lv_at hl 1 rfl) ?_
            obtain ⟨v9, hq, hg⟩ := bind_ex hg
            refine callRVz (As := [.int v2]) (rest := [.int v2, .ref A_t]) S hK hP (c_X2_goes l D cI cZ cB cJ A_t A_t_board A_t_cut A_t_counts A_t_strength A_t_reason A_t_driver A_t_waits A_t_stands A_t_board_numbers A_t_board_owners A_t_board_cells f3 V_t_reason v2 v9 hq) [0, 1, 3, 4] rfl (cwV 1 hts gX2_carryOut_X2_goes rfl rfl rfl hd_X2_goes ⟨Nat.le_of_ble_eq_true rfl, Nat.le_of_ble_eq_true rfl⟩) rfl rfl rfl hl.1 rfl (Nat.le_of_ble_eq_true rfl) dX2_carryOut_44 ⟨Nat.zero_le _, Nat.zero_le _⟩ (fun hz_v9 => ?_)
            obtain ⟨f10, f11, hq, hg⟩ := b2_ex hg
            refine callWVv (As := [.int v2, .int v9]) (rest := []) (wr := [(A_t_reason, .inl (cI, 9, .inl V_t_reason)), (A_t_driver, .inl (cI, 9, .inl V_t_driver)), (A_t_stands, .inl (cI, 9, .inl V_t_stands)), (A_t_board_owners, .inl (cI, 12, .inl V_t_board_owners))]) S hK hP hD hS hA (c_X2_countMove l D cI cZ cB cJ A_t A_t_board A_t_cut A_t_counts A_t_strength A_t_reason A_t_driver A_t_waits A_t_stands A_t_board_numbers A_t_board_owners A_t_board_cells _ f3 f4 v2 v9 f10 f11 hq) [0, 1, 3, 2] [4, 5, 6, 7] rfl rfl (by decide +kernel) (by decide +kernel) (by decide +kernel) (cwV 2 hts gX2_carryOut_X2_countMove rfl rfl rfl hd_X2_countMove ⟨Nat.le_of_ble_eq_true rfl, Nat.le_of_ble_eq_true rfl⟩) rfl rfl rfl hl.1 rfl (Nat.le_of_ble_eq_true rfl) dX2_carryOut_47 ⟨Nat.zero_le _, Nat.zero_le _⟩ (fun H locs hP hD hS => ?_)
            replace hP : va_P D vwCl [(A_t_reason, .inl (cI, 9, .inl V_t_reason)), (A_t_driver, .inl (cI, 9, .inl V_t_driver)), (A_t_stands, .inl (cI, 9, .inl V_t_stands)), (A_t_board_owners, .inl (cI, 12, .inl V_t_board_owners)), (A_t, .inr (2, [.ref A_t_board, .ref A_t_cut, .ref A_t_counts, .ref A_t_strength, .ref A_t_reason, .ref A_t_driver, .ref A_t_waits, .ref A_t_stands])), (A_t_board, .inr (0, [.ref A_t_board_numbers, .ref A_t_board_owners, .ref A_t_board_cells])), (A_t_board_cells, .inl (cI, 63, .inl f10)), (A_t_board_numbers, .inl (cI, 10, .inl f11))] H := hP
            replace hD : va_D A [(A_t_reason, .inl (cI, 9, .inl V_t_reason)), (A_t_driver, .inl (cI, 9, .inl V_t_driver)), (A_t_stands, .inl (cI, 9, .inl V_t_stands)), (A_t_board_owners, .inl (cI, 12, .inl V_t_board_owners)), (A_t, .inr (2, [.ref A_t_board, .ref A_t_cut, .ref A_t_counts, .ref A_t_strength, .ref A_t_reason, .ref A_t_driver, .ref A_t_waits, .ref A_t_stands])), (A_t_board, .inr (0, [.ref A_t_board_numbers, .ref A_t_board_owners, .ref A_t_board_cells])), (A_t_board_cells, .inl (cI, 63, .inl f10)), (A_t_board_numbers, .inl (cI, 10, .inl f11))] := hD
            exact hJ1 _ _ _ _ _ (hP.sub [4, 5, 7, 6, 0, 1, 2, 3] rfl) (hD.sub [4, 5, 7, 6, 0, 1, 2, 3] (by decide) rfl) hS _ (lv_sub hl [1, 0, 2] rfl) hg
          refine lv_if_eq (tgt := 37) hx hb dX2_carryOut_30 (by decide) (fun hc => ?_) (fun hc => ?_)
          · replace hg := if_yes hg hc
            refine lv_iconst (v := 1) hx hb dX2_carryOut_37 (by decide) ?_
            exact hJ2 _ bo_1 _ _ hP hD hS _ (lv_sub hl [0, 2] rfl) hg
          · replace hg := if_no hg hc
            refine lv_iconst (v := 0) hx hb dX2_carryOut_33 (by decide) ?_
            refine lv_goto (tgt := 38) hx hb dX2_carryOut_34 (by decide) ?_
            exact hJ2 _ bo_0 _ _ hP hD hS _ (lv_sub hl [0, 2] rfl) hg
  exact L FU _ _ _ _ _ _ hP hD hS _ (lv_sub hl [0, 1, 2] rfl) hL
theorem hd_X3_size : yX3_size.cls = RX3 ∧ yX3_size.cls ≠ "java/lang/invoke/MethodHandle" ∧ yX3_size.cls ≠ "java/lang/invoke/VarHandle" ∧ (parseMethodDescriptor yX3_size.desc).map (fun d => d.parameters.length) = some 0 := by decide +kernel
theorem in_X3_size_X3 : ∀ w ∈ u_ws RX3 TX3 6, w ∈ wsX3_size := fun _ h => List.mem_cons_of_mem _ (List.mem_append_right _ h)
theorem wd_X3_size_1 : Cond.fieldLink RX3 15 "FogOrders$OrderText" "length" "I" ∈ wsX3_size := List.mem_of_getElem? (i := 1) rfl
abbrev rX3_size : Room := { frames := 0, cells := 0, slots := 0, locals := 0 }
set_option maxHeartbeats 4000000 in
set_option maxRecDepth 100000 in
theorem c_X3_size (l : Launch) (D : va_G) (cI cZ cB cJ : ClassId) (A_t : Nat) (A_t_codes : Nat) (V_t_length : Int32) (V_t_armyRead : Int32) (V_t_kindRead : Int32) (V_t_fromRead : Int32) (V_t_toRead : Int32) (r0 : Int32) (hg : g_X3_size V_t_length = some r0) : Met l yX3_size wsX3_size rX3_size (PcR D cI cZ cB cJ [(A_t, .inr (3, [.ref A_t_codes, .int V_t_length, .int V_t_armyRead, .int V_t_kindRead, .int V_t_fromRead, .int V_t_toRead]))] [.ref A_t]) (vp_Si (fun r' => r' = r0 ∧ True)) 0 0 (fun _ => False) := by
  refine bodyRi (cc := cX3_size) (maxL := 1) (lv := [(0, .ref A_t)]) (by decide) rfl (Nat.le_of_ble_eq_true rfl) rfl ?_
  intro p e s m args below meth c Q hx hb hml hown hts hP hK fin ls hl
  replace hown : s.vm.findClass RX3 = some m.cls := hown
  have S : CallFix p m c cX3_size 1 s args wsX3_size RX3 := ⟨hx, hb, hml, hown, hts⟩
  unfold g_X3_size at hg
  refine lv_aload_n hx hb dX3_size_0 rfl (lv_at hl 0 rfl) ?_
  refine xget (ci := 3) (C := RX3) (T := TX3) (N := 6) (v := .int V_t_length) hx hb hts in_X3_size_X3 hown hK hP 0 rfl rfl 1 (by decide) wd_X3_size_1 rfl dX3_size_1 ?_
  cases hg
  exact fin _ _ dX3_size_4
theorem hd_X3_codeAt : yX3_codeAt.cls = RX3 ∧ yX3_codeAt.cls ≠ "java/lang/invoke/MethodHandle" ∧ yX3_codeAt.cls ≠ "java/lang/invoke/VarHandle" ∧ (parseMethodDescriptor yX3_codeAt.desc).map (fun d => d.parameters.length) = some 1 := by decide +kernel
theorem in_X3_codeAt_X3 : ∀ w ∈ u_ws RX3 TX3 6, w ∈ wsX3_codeAt := fun _ h => List.mem_cons_of_mem _ (List.mem_append_right _ h)
theorem wd_X3_codeAt_1 : Cond.fieldLink RX3 15 "FogOrders$OrderText" "length" "I" ∈ wsX3_codeAt := List.mem_of_getElem? (i := 1) rfl
theorem wd_X3_codeAt_2 : Cond.fieldLink RX3 9 "FogOrders$OrderText" "codes" "[I" ∈ wsX3_codeAt := List.mem_of_getElem? (i := 2) rfl
theorem wd_X3_codeAt_4 : Cond.initialized RX4 ∈ wsX3_codeAt := List.mem_of_getElem? (i := 4) rfl
theorem wd_X3_codeAt_3 : Cond.static yX4_entry ∈ wsX3_codeAt := List.mem_of_getElem? (i := 3) rfl
abbrev rX3_codeAt : Room := { frames := 1, cells := 0, slots := 0, locals := 21 }
set_option maxHeartbeats 4000000 in
set_option maxRecDepth 100000 in
theorem c_X3_codeAt (l : Launch) (D : va_G) (cI cZ cB cJ : ClassId) (A_t : Nat) (A_t_codes : Nat) (V_t_length : Int32) (V_t_armyRead : Int32) (V_t_kindRead : Int32) (V_t_fromRead : Int32) (V_t_toRead : Int32) (V_t_codes : Nat → Int32) (x1 : Int32) (r0 : Int32) (hg : g_X3_codeAt V_t_length V_t_codes x1 = some r0) : Met l yX3_codeAt wsX3_codeAt rX3_codeAt (PcR D cI cZ cB cJ [(A_t, .inr (3, [.ref A_t_codes, .int V_t_length, .int V_t_armyRead, .int V_t_kindRead, .int V_t_fromRead, .int V_t_toRead])), (A_t_codes, .inl (cI, 60, .inl V_t_codes))] [.ref A_t, .int x1]) (vp_Si (fun r' => r' = r0 ∧ True)) 0 0 (fun _ => False) := by
  refine bodyRi (cc := cX3_codeAt) (maxL := 2) (lv := [(0, .ref A_t), (1, .int x1)]) (by decide) rfl (Nat.le_of_ble_eq_true rfl) rfl ?_
  intro p e s m args below meth c Q hx hb hml hown hts hP hK fin ls hl
  replace hown : s.vm.findClass RX3 = some m.cls := hown
  have S : CallFix p m c cX3_codeAt 2 s args wsX3_codeAt RX3 := ⟨hx, hb, hml, hown, hts⟩
  unfold g_X3_codeAt at hg
  refine lv_iload_n hx hb dX3_codeAt_0 rfl (lv_at hl 1 rfl) ?_
  refine lv_aload_n hx hb dX3_codeAt_1 rfl (lv_at hl 0 rfl) ?_
  refine xget (ci := 3) (C := RX3) (T := TX3) (N := 6) (v := .int V_t_length) hx hb hts in_X3_codeAt_X3 hown hK hP 0 rfl rfl 1 (by decide) wd_X3_codeAt_1 rfl dX3_codeAt_2 ?_
  refine lv_icmp_ge (tgt := 19) hx hb dX3_codeAt_5 (by decide) (fun hc => ?_) (fun hc => ?_)
  · replace hg := if_yes hg hc
    refine lv_iconst (v := (-1)) hx hb dX3_codeAt_19 (by decide) ?_
    cases hg
    exact fin _ _ dX3_codeAt_20
  · replace hg := if_no hg hc
    refine lv_aload_n hx hb dX3_codeAt_8 rfl (lv_at hl 0 rfl) ?_
    refine xget (ci := 3) (C := RX3) (T := TX3) (N := 6) (v := .ref A_t_codes) hx hb hts in_X3_codeAt_X3 hown hK hP 0 rfl rfl 0 (by decide) wd_X3_codeAt_2 rfl dX3_codeAt_9 ?_
    refine lv_iload_n hx hb dX3_codeAt_12 rfl (lv_at hl 1 rfl) ?_
    obtain ⟨v1, hq, hg⟩ := bind_ex hg
    refine callRNi (As := [.ref A_t_codes, .int x1]) (rest := []) S hK hP (c_X4_entry l D cI cZ cB cJ A_t_codes 60 V_t_codes x1 v1 hq) [1] rfl ⟨va_cnB 2 hts gX3_codeAt_X4_entry_n31 rfl rfl rfl (hK.2 _ (List.mem_of_getElem? (i := 12) rfl)) (hts _ wd_X3_codeAt_4) hd_X4_entry ⟨Nat.le_of_ble_eq_true rfl, Nat.le_of_ble_eq_true rfl⟩, hts _ wd_X3_codeAt_3, trivial⟩ rfl hl.1 rfl (Nat.le_of_ble_eq_true rfl) dX3_codeAt_13 ⟨Nat.zero_le _, Nat.zero_le _⟩ ?_
    refine lv_goto (tgt := 20) hx hb dX3_codeAt_16 (by decide) ?_
    cases hg
    exact fin _ _ dX3_codeAt_20
theorem hd_X3_add : yX3_add.cls = RX3 ∧ yX3_add.cls ≠ "java/lang/invoke/MethodHandle" ∧ yX3_add.cls ≠ "java/lang/invoke/VarHandle" ∧ (parseMethodDescriptor yX3_add.desc).map (fun d => d.parameters.length) = some 1 := by decide +kernel
theorem in_X3_add_X3 : ∀ w ∈ u_ws RX3 TX3 6, w ∈ wsX3_add := fun _ h => List.mem_cons_of_mem _ (List.mem_append_right _ h)
theorem wd_X3_add_1 : Cond.fieldLink RX3 15 "FogOrders$OrderText" "length" "I" ∈ wsX3_add := List.mem_of_getElem? (i := 1) rfl
theorem wd_X3_add_2 : Cond.fieldLink RX3 9 "FogOrders$OrderText" "codes" "[I" ∈ wsX3_add := List.mem_of_getElem? (i := 2) rfl
theorem wd_X3_add_4 : Cond.initialized RX4 ∈ wsX3_add := List.mem_of_getElem? (i := 4) rfl
theorem wd_X3_add_3 : Cond.static yX4_enter ∈ wsX3_add := List.mem_of_getElem? (i := 3) rfl
abbrev rX3_add : Room := { frames := 1, cells := 0, slots := 0, locals := 22 }
set_option maxHeartbeats 4000000 in
set_option maxRecDepth 100000 in
theorem c_X3_add (l : Launch) (D : va_G) (cI cZ cB cJ : ClassId) (A_t : Nat) (A_t_codes : Nat) (sz : Nat) (V_t_length : Int32) (V_t_armyRead : Int32) (V_t_kindRead : Int32) (V_t_fromRead : Int32) (V_t_toRead : Int32) (V_t_codes : Nat → Int32) (x1 : Int32) (w1 : Int32) (w2 : Nat → Int32) (hg : g_X3_add V_t_length V_t_codes x1 = some (w1, w2)) : Met l yX3_add wsX3_add rX3_add (PcW D cI cZ cB cJ sz [(A_t, .inr (3, [.ref A_t_codes, .int V_t_length, .int V_t_armyRead, .int V_t_kindRead, .int V_t_fromRead, .int V_t_toRead])), (A_t_codes, .inl (cI, 60, .inl V_t_codes))] [.ref A_t, .int x1]) (QWv D cI cZ cB cJ sz [(A_t, .inr (3, [.ref A_t_codes, .int V_t_length, .int V_t_armyRead, .int V_t_kindRead, .int V_t_fromRead, .int V_t_toRead])), (A_t_codes, .inl (cI, 60, .inl V_t_codes))] [(A_t, .inr (3, [.ref A_t_codes, .int w1, .int V_t_armyRead, .int V_t_kindRead, .int V_t_fromRead, .int V_t_toRead])), (A_t_codes, .inl (cI, 60, .inl w2))]) 0 0 (va_A [(A_t, .inr (3, [.ref A_t_codes, .int V_t_length, .int V_t_armyRead, .int V_t_kindRead, .int V_t_fromRead, .int V_t_toRead])), (A_t_codes, .inl (cI, 60, .inl V_t_codes))] sz) := by
  refine bodyWv (cc := cX3_add) (maxL := 2) (lv := [(0, .ref A_t), (1, .int x1)]) (by decide) rfl (Nat.le_of_ble_eq_true rfl) rfl ?_
  intro p e s m args below meth c Q hx hb hml hown hts A hP hK hD hA hS fin ls hl
  replace hown : s.vm.findClass RX3 = some m.cls := hown
  have S : CallFix p m c cX3_add 2 s args wsX3_add RX3 := ⟨hx, hb, hml, hown, hts⟩
  unfold g_X3_add at hg
  refine lv_aload_n hx hb dX3_add_0 rfl (lv_at hl 0 rfl) ?_
  refine xget (ci := 3) (C := RX3) (T := TX3) (N := 6) (v := .int V_t_length) hx hb hts in_X3_add_X3 hown hK hP 0 rfl rfl 1 (by decide) wd_X3_add_1 rfl dX3_add_1 ?_
  refine lv_bipush (v := 60) hx hb dX3_add_4 (by decide) ?_
  refine lv_icmp_ge (tgt := 31) hx hb dX3_add_6 (by decide) (fun hc => ?_) (fun hc => ?_)
  · replace hg := if_yes hg hc
    cases hg
    exact fin _ _ _ _ dX3_add_31 hP hD hS
  · replace hg := if_no hg hc
    refine lv_aload_n hx hb dX3_add_9 rfl (lv_at hl 0 rfl) ?_
    refine xget (ci := 3) (C := RX3) (T := TX3) (N := 6) (v := .ref A_t_codes) hx hb hts in_X3_add_X3 hown hK hP 0 rfl rfl 0 (by decide) wd_X3_add_2 rfl dX3_add_10 ?_
    refine lv_aload_n hx hb dX3_add_13 rfl (lv_at hl 0 rfl) ?_
    refine xget (ci := 3) (C := RX3) (T := TX3) (N := 6) (v := .int V_t_length) hx hb hts in_X3_add_X3 hown hK hP 0 rfl rfl 1 (by decide) wd_X3_add_1 rfl dX3_add_14 ?_
    refine lv_iload_n hx hb dX3_add_17 rfl (lv_at hl 1 rfl) ?_
    obtain ⟨f1, hq, hg⟩ := bind_ex hg
    refine callWNv (As := [.ref A_t_codes, .int V_t_length, .int x1]) (rest := []) (wr := [(A_t, .inr (3, [.ref A_t_codes, .int V_t_length, .int V_t_armyRead, .int V_t_kindRead, .int V_t_fromRead, .int V_t_toRead]))]) S hK hP hD hS hA (c_X4_enter l D cI cZ cB cJ A_t_codes 60 _ V_t_codes V_t_length x1 f1 hq) [1] [0] rfl rfl (by decide +kernel) (by decide +kernel) (by decide +kernel) ⟨va_cnB 3 hts gX3_add_X4_enter_n35 rfl rfl rfl (hK.2 _ (List.mem_of_getElem? (i := 16) rfl)) (hts _ wd_X3_add_4) hd_X4_enter ⟨Nat.le_of_ble_eq_true rfl, Nat.le_of_ble_eq_true rfl⟩, hts _ wd_X3_add_3, trivial⟩ rfl hl.1 rfl (Nat.le_of_ble_eq_true rfl) dX3_add_18 ⟨Nat.zero_le _, Nat.zero_le _⟩ (fun H locs hP hD hS => ?_)
    replace hP : va_P D vwCl [(A_t, .inr (3, [.ref A_t_codes, .int V_t_length, .int V_t_armyRead, .int V_t_kindRead, .int V_t_fromRead, .int V_t_toRead])), (A_t_codes, .inl (cI, 60, .inl f1))] H := hP
    replace hD : va_D A [(A_t, .inr (3, [.ref A_t_codes, .int V_t_length, .int V_t_armyRead, .int V_t_kindRead, .int V_t_fromRead, .int V_t_toRead])), (A_t_codes, .inl (cI, 60, .inl f1))] := hD
    refine lv_aload_n hx hb dX3_add_21 rfl (lv_at hl 0 rfl) ?_
    refine lv_dup hx hb dX3_add_22 rfl ?_
    refine xget (ci := 3) (C := RX3) (T := TX3) (N := 6) (v := .int V_t_length) hx hb hts in_X3_add_X3 hown hK hP 0 rfl rfl 1 (by decide) wd_X3_add_1 rfl dX3_add_23 ?_
    refine lv_iconst (v := 1) hx hb dX3_add_26 (by decide) ?_
    refine lv_iadd hx hb dX3_add_27 ?_
    refine xput (ci := 3) (C := RX3) (T := TX3) (N := 6) (ty := .int) (v := .int (V_t_length + 1)) (ws2 := [(A_t, .inr (3, [.ref A_t_codes, .int (V_t_length + 1), .int V_t_armyRead, .int V_t_kindRead, .int V_t_fromRead, .int V_t_toRead])), (A_t_codes, .inl (cI, 60, .inl f1))]) hx hb hts in_X3_add_X3 tyX3 tyX3_ok nmX3 hown hK hP hD hS 0 rfl rfl 1 (by decide) wd_X3_add_1 rfl (by decide +kernel) rfl rfl (Nat.le_of_ble_eq_true rfl) rfl dX3_add_28 (fun H locs hP hD hS => ?_)
    cases hg
    exact fin _ _ _ _ dX3_add_31 hP hD hS
theorem hd_X3_empty : yX3_empty.cls = RX3 ∧ yX3_empty.cls ≠ "java/lang/invoke/MethodHandle" ∧ yX3_empty.cls ≠ "java/lang/invoke/VarHandle" ∧ (parseMethodDescriptor yX3_empty.desc).map (fun d => d.parameters.length) = some 0 := by decide +kernel
theorem in_X3_empty_X3 : ∀ w ∈ u_ws RX3 TX3 6, w ∈ wsX3_empty := fun _ h => List.mem_cons_of_mem _ (List.mem_append_right _ h)
theorem wd_X3_empty_1 : Cond.fieldLink RX3 15 "FogOrders$OrderText" "length" "I" ∈ wsX3_empty := List.mem_of_getElem? (i := 1) rfl
abbrev rX3_empty : Room := { frames := 0, cells := 0, slots := 0, locals := 0 }
set_option maxHeartbeats 4000000 in
set_option maxRecDepth 100000 in
theorem c_X3_empty (l : Launch) (D : va_G) (cI cZ cB cJ : ClassId) (A_t : Nat) (A_t_codes : Nat) (sz : Nat) (V_t_length : Int32) (V_t_armyRead : Int32) (V_t_kindRead : Int32) (V_t_fromRead : Int32) (V_t_toRead : Int32) (w1 : Int32) (hg : g_X3_empty V_t_length = some w1) : Met l yX3_empty wsX3_empty rX3_empty (PcW D cI cZ cB cJ sz [(A_t, .inr (3, [.ref A_t_codes, .int V_t_length, .int V_t_armyRead, .int V_t_kindRead, .int V_t_fromRead, .int V_t_toRead]))] [.ref A_t]) (QWv D cI cZ cB cJ sz [(A_t, .inr (3, [.ref A_t_codes, .int V_t_length, .int V_t_armyRead, .int V_t_kindRead, .int V_t_fromRead, .int V_t_toRead]))] [(A_t, .inr (3, [.ref A_t_codes, .int w1, .int V_t_armyRead, .int V_t_kindRead, .int V_t_fromRead, .int V_t_toRead]))]) 0 0 (va_A [(A_t, .inr (3, [.ref A_t_codes, .int V_t_length, .int V_t_armyRead, .int V_t_kindRead, .int V_t_fromRead, .int V_t_toRead]))] sz) := by
  refine bodyWv (cc := cX3_empty) (maxL := 1) (lv := [(0, .ref A_t)]) (by decide) rfl (Nat.le_of_ble_eq_true rfl) rfl ?_
  intro p e s m args below meth c Q hx hb hml hown hts A hP hK hD hA hS fin ls hl
  replace hown : s.vm.findClass RX3 = some m.cls := hown
  have S : CallFix p m c cX3_empty 1 s args wsX3_empty RX3 := ⟨hx, hb, hml, hown, hts⟩
  unfold g_X3_empty at hg
  refine lv_aload_n hx hb dX3_empty_0 rfl (lv_at hl 0 rfl) ?_
  refine lv_iconst (v := 0) hx hb dX3_empty_1 (by decide) ?_
  refine xput (ci := 3) (C := RX3) (T := TX3) (N := 6) (ty := .int) (v := .int 0) (ws2 := [(A_t, .inr (3, [.ref A_t_codes, .int 0, .int V_t_armyRead, .int V_t_kindRead, .int V_t_fromRead, .int V_t_toRead]))]) hx hb hts in_X3_empty_X3 tyX3 tyX3_ok nmX3 hown hK hP hD hS 0 rfl rfl 1 (by decide) wd_X3_empty_1 rfl (by decide +kernel) rfl rfl (Nat.le_of_ble_eq_true rfl) rfl dX3_empty_2 (fun H locs hP hD hS => ?_)
  cases hg
  exact fin _ _ _ _ dX3_empty_5 hP hD hS
theorem hd_X3_stateBehindLetter : yX3_stateBehindLetter.cls ≠ "java/lang/invoke/MethodHandle" ∧ yX3_stateBehindLetter.cls ≠ "java/lang/invoke/VarHandle" ∧ (parseMethodDescriptor yX3_stateBehindLetter.desc).map (fun d => d.parameters.length) = some 1 := by decide +kernel
abbrev rX3_stateBehindLetter : Room := { frames := 0, cells := 0, slots := 0, locals := 0 }
set_option maxHeartbeats 4000000 in
set_option maxRecDepth 100000 in
theorem c_X3_stateBehindLetter (l : Launch) (D : va_G) (cI cZ cB cJ : ClassId) (x1 : Int32) (r0 : Int32) (hg : g_X3_stateBehindLetter x1 = some r0) : Met l yX3_stateBehindLetter wsX3_stateBehindLetter rX3_stateBehindLetter (PcR D cI cZ cB cJ [] [.int x1]) (vp_Si (fun r' => r' = r0 ∧ True)) 0 0 (fun _ => False) := by
  refine bodyRi (cc := cX3_stateBehindLetter) (maxL := 1) (lv := [(0, .int x1)]) (by decide) rfl (Nat.le_of_ble_eq_true rfl) rfl ?_
  intro p e s m args below meth c Q hx hb hml hown hts hP hK fin ls hl
  replace hown : s.vm.findClass RX3 = some m.cls := hown
  have S : CallFix p m c cX3_stateBehindLetter 1 s args wsX3_stateBehindLetter RX3 := ⟨hx, hb, hml, hown, hts⟩
  unfold g_X3_stateBehindLetter at hg
  refine lv_iload_n hx hb dX3_stateBehindLetter_0 rfl (lv_at hl 0 rfl) ?_
  by_cases hk104 : x1 = 104
  · replace hg := if_yes hg hk104
    refine lv_lookup (off := 35) (tgt := 36) hx hb dX3_stateBehindLetter_1 (by decide) (by rw [hk104]; decide) (by decide) ?_
    refine lv_bipush (v := 7) hx hb dX3_stateBehindLetter_36 (by decide) ?_
    cases hg
    exact fin _ _ dX3_stateBehindLetter_38
  · replace hg := if_no hg hk104
    by_cases hk109 : x1 = 109
    · replace hg := if_yes hg hk109
      refine lv_lookup (off := 38) (tgt := 39) hx hb dX3_stateBehindLetter_1 (by decide) (by rw [hk109]; decide) (by decide) ?_
      refine lv_iconst (v := 5) hx hb dX3_stateBehindLetter_39 (by decide) ?_
      cases hg
      exact fin _ _ dX3_stateBehindLetter_40
    · replace hg := if_no hg hk109
      by_cases hk115 : x1 = 115
      · replace hg := if_yes hg hk115
        refine lv_lookup (off := 40) (tgt := 41) hx hb dX3_stateBehindLetter_1 (by decide) (by rw [hk115]; decide) (by decide) ?_
        refine lv_iconst (v := 2) hx hb dX3_stateBehindLetter_41 (by decide) ?_
        cases hg
        exact fin _ _ dX3_stateBehindLetter_42
      · replace hg := if_no hg hk115
        refine lv_lookup (off := 42) (tgt := 43) hx hb dX3_stateBehindLetter_1 (by decide) (lk_off _ _ (by intro q hq; simp only [List.mem_cons, List.not_mem_nil, or_false] at hq; rcases hq with rfl | rfl | rfl <;> first | exact lk_ne (by decide) hk104 | exact lk_ne (by decide) hk109 | exact lk_ne (by decide) hk115)) (by decide) ?_
        refine lv_iconst (v := (-1)) hx hb dX3_stateBehindLetter_43 (by decide) ?_
        cases hg
        exact fin _ _ dX3_stateBehindLetter_44
theorem hd_X3_isDigit : yX3_isDigit.cls ≠ "java/lang/invoke/MethodHandle" ∧ yX3_isDigit.cls ≠ "java/lang/invoke/VarHandle" ∧ (parseMethodDescriptor yX3_isDigit.desc).map (fun d => d.parameters.length) = some 1 := by decide +kernel
abbrev rX3_isDigit : Room := { frames := 0, cells := 0, slots := 0, locals := 0 }
set_option maxHeartbeats 4000000 in
set_option maxRecDepth 100000 in
theorem c_X3_isDigit (l : Launch) (D : va_G) (cI cZ cB cJ : ClassId) (x1 : Int32) (r0 : Int32) (hg : g_X3_isDigit x1 = some r0) : Met l yX3_isDigit wsX3_isDigit rX3_isDigit (PcR D cI cZ cB cJ [] [.int x1]) (vp_Si (fun r' => r' = r0 ∧ bo r0)) 0 0 (fun _ => False) := by
  refine bodyRz (cc := cX3_isDigit) (maxL := 1) (lv := [(0, .int x1)]) (by decide) rfl (Nat.le_of_ble_eq_true rfl) rfl ?_
  intro p e s m args below meth c Q hx hb hml hown hts hP hK fin ls hl
  replace hown : s.vm.findClass RX3 = some m.cls := hown
  have S : CallFix p m c cX3_isDigit 1 s args wsX3_isDigit RX3 := ⟨hx, hb, hml, hown, hts⟩
  unfold g_X3_isDigit at hg
  refine lv_iload_n hx hb dX3_isDigit_0 rfl (lv_at hl 0 rfl) ?_
  refine lv_bipush (v := 48) hx hb dX3_isDigit_1 (by decide) ?_
  refine lv_icmp_lt (tgt := 16) hx hb dX3_isDigit_3 (by decide) (fun hc => ?_) (fun hc => ?_)
  · replace hg := if_yes hg hc
    refine lv_iconst (v := 0) hx hb dX3_isDigit_16 (by decide) ?_
    cases hg
    exact fin _ _ bo_0 dX3_isDigit_17
  · replace hg := if_no hg hc
    refine lv_iload_n hx hb dX3_isDigit_6 rfl (lv_at hl 0 rfl) ?_
    refine lv_bipush (v := 57) hx hb dX3_isDigit_7 (by decide) ?_
    refine lv_icmp_gt (tgt := 16) hx hb dX3_isDigit_9 (by decide) (fun hc => ?_) (fun hc => ?_)
    · replace hg := if_yes hg hc
      refine lv_iconst (v := 0) hx hb dX3_isDigit_16 (by decide) ?_
      cases hg
      exact fin _ _ bo_0 dX3_isDigit_17
    · replace hg := if_no hg hc
      refine lv_iconst (v := 1) hx hb dX3_isDigit_12 (by decide) ?_
      refine lv_goto (tgt := 17) hx hb dX3_isDigit_13 (by decide) ?_
      cases hg
      exact fin _ _ bo_1 dX3_isDigit_17
theorem hd_X3_stateBehindDigit : yX3_stateBehindDigit.cls ≠ "java/lang/invoke/MethodHandle" ∧ yX3_stateBehindDigit.cls ≠ "java/lang/invoke/VarHandle" ∧ (parseMethodDescriptor yX3_stateBehindDigit.desc).map (fun d => d.parameters.length) = some 3 := by decide +kernel
abbrev rX3_stateBehindDigit : Room := { frames := 1, cells := 0, slots := 0, locals := 20 }
set_option maxHeartbeats 4000000 in
set_option maxRecDepth 100000 in
theorem c_X3_stateBehindDigit (l : Launch) (D : va_G) (cI cZ cB cJ : ClassId) (x1 : Int32) (x2 : Int32) (x3 : Int32) (r0 : Int32) (hg : g_X3_stateBehindDigit x1 x2 x3 = some r0) : Met l yX3_stateBehindDigit wsX3_stateBehindDigit rX3_stateBehindDigit (PcR D cI cZ cB cJ [] [.int x1, .int x2, .int x3]) (vp_Si (fun r' => r' = r0 ∧ True)) 0 0 (fun _ => False) := by
  refine bodyRi (cc := cX3_stateBehindDigit) (maxL := 3) (lv := [(0, .int x1), (1, .int x2), (2, .int x3)]) (by decide) rfl (Nat.le_of_ble_eq_true rfl) rfl ?_
  intro p e s m args below meth c Q hx hb hml hown hts hP hK fin ls hl
  replace hown : s.vm.findClass RX3 = some m.cls := hown
  have S : CallFix p m c cX3_stateBehindDigit 3 s args wsX3_stateBehindDigit RX3 := ⟨hx, hb, hml, hown, hts⟩
  unfold g_X3_stateBehindDigit at hg
  refine lv_iload_n hx hb dX3_stateBehindDigit_0 rfl (lv_at hl 0 rfl) ?_
  obtain ⟨v1, hq, hg⟩ := bind_ex hg
  refine callRSz (As := [.int x1]) (rest := []) S hK hP (c_X3_isDigit l D cI cZ cB cJ x1 v1 hq) [] rfl (va_cwS 1 hts gX3_stateBehindDigit_X3_isDigit rfl rfl rfl hd_X3_isDigit ⟨Nat.le_of_ble_eq_true rfl, Nat.le_of_ble_eq_true rfl⟩) rfl hl.1 rfl (Nat.le_of_ble_eq_true rfl) dX3_stateBehindDigit_1 ⟨Nat.zero_le _, Nat.zero_le _⟩ (fun hz_v1 => ?_)
  refine lv_if_ne (tgt := 9) hx hb dX3_stateBehindDigit_4 (by decide) (fun hc => ?_) (fun hc => ?_)
  · replace hg := if_no hg hc
    refine lv_iload_n hx hb dX3_stateBehindDigit_9 rfl (lv_at hl 0 rfl) ?_
    refine lv_bipush (v := 49) hx hb dX3_stateBehindDigit_10 (by decide) ?_
    refine lv_icmp_ne (tgt := 19) hx hb dX3_stateBehindDigit_12 (by decide) (fun hc => ?_) (fun hc => ?_)
    · replace hg := if_no hg hc
      refine lv_iload_n hx hb dX3_stateBehindDigit_19 rfl (lv_at hl 2 rfl) ?_
      cases hg
      exact fin _ _ dX3_stateBehindDigit_20
    · replace hg := if_yes hg hc
      refine lv_iload_n hx hb dX3_stateBehindDigit_15 rfl (lv_at hl 1 rfl) ?_
      refine lv_goto (tgt := 20) hx hb dX3_stateBehindDigit_16 (by decide) ?_
      cases hg
      exact fin _ _ dX3_stateBehindDigit_20
  · replace hg := if_yes hg hc
    refine lv_iconst (v := (-1)) hx hb dX3_stateBehindDigit_7 (by decide) ?_
    cases hg
    exact fin _ _ dX3_stateBehindDigit_8
theorem hd_X3_stateBehindDash : yX3_stateBehindDash.cls ≠ "java/lang/invoke/MethodHandle" ∧ yX3_stateBehindDash.cls ≠ "java/lang/invoke/VarHandle" ∧ (parseMethodDescriptor yX3_stateBehindDash.desc).map (fun d => d.parameters.length) = some 1 := by decide +kernel
abbrev rX3_stateBehindDash : Room := { frames := 0, cells := 0, slots := 0, locals := 0 }
set_option maxHeartbeats 4000000 in
set_option maxRecDepth 100000 in
theorem c_X3_stateBehindDash (l : Launch) (D : va_G) (cI cZ cB cJ : ClassId) (x1 : Int32) (r0 : Int32) (hg : g_X3_stateBehindDash x1 = some r0) : Met l yX3_stateBehindDash wsX3_stateBehindDash rX3_stateBehindDash (PcR D cI cZ cB cJ [] [.int x1]) (vp_Si (fun r' => r' = r0 ∧ True)) 0 0 (fun _ => False) := by
  refine bodyRi (cc := cX3_stateBehindDash) (maxL := 1) (lv := [(0, .int x1)]) (by decide) rfl (Nat.le_of_ble_eq_true rfl) rfl ?_
  intro p e s m args below meth c Q hx hb hml hown hts hP hK fin ls hl
  replace hown : s.vm.findClass RX3 = some m.cls := hown
  have S : CallFix p m c cX3_stateBehindDash 1 s args wsX3_stateBehindDash RX3 := ⟨hx, hb, hml, hown, hts⟩
  unfold g_X3_stateBehindDash at hg
  refine lv_iload_n hx hb dX3_stateBehindDash_0 rfl (lv_at hl 0 rfl) ?_
  refine lv_bipush (v := 45) hx hb dX3_stateBehindDash_1 (by decide) ?_
  refine lv_icmp_ne (tgt := 10) hx hb dX3_stateBehindDash_3 (by decide) (fun hc => ?_) (fun hc => ?_)
  · replace hg := if_no hg hc
    refine lv_iconst (v := (-1)) hx hb dX3_stateBehindDash_10 (by decide) ?_
    cases hg
    exact fin _ _ dX3_stateBehindDash_11
  · replace hg := if_yes hg hc
    refine lv_iconst (v := 5) hx hb dX3_stateBehindDash_6 (by decide) ?_
    refine lv_goto (tgt := 11) hx hb dX3_stateBehindDash_7 (by decide) ?_
    cases hg
    exact fin _ _ dX3_stateBehindDash_11
theorem hd_X3_stateBehindPart : yX3_stateBehindPart.cls ≠ "java/lang/invoke/MethodHandle" ∧ yX3_stateBehindPart.cls ≠ "java/lang/invoke/VarHandle" ∧ (parseMethodDescriptor yX3_stateBehindPart.desc).map (fun d => d.parameters.length) = some 1 := by decide +kernel
abbrev rX3_stateBehindPart : Room := { frames := 0, cells := 0, slots := 0, locals := 0 }
set_option maxHeartbeats 4000000 in
set_option maxRecDepth 100000 in
theorem c_X3_stateBehindPart (l : Launch) (D : va_G) (cI cZ cB cJ : ClassId) (x1 : Int32) (r0 : Int32) (hg : g_X3_stateBehindPart x1 = some r0) : Met l yX3_stateBehindPart wsX3_stateBehindPart rX3_stateBehindPart (PcR D cI cZ cB cJ [] [.int x1]) (vp_Si (fun r' => r' = r0 ∧ True)) 0 0 (fun _ => False) := by
  refine bodyRi (cc := cX3_stateBehindPart) (maxL := 1) (lv := [(0, .int x1)]) (by decide) rfl (Nat.le_of_ble_eq_true rfl) rfl ?_
  intro p e s m args below meth c Q hx hb hml hown hts hP hK fin ls hl
  replace hown : s.vm.findClass RX3 = some m.cls := hown
  have S : CallFix p m c cX3_stateBehindPart 1 s args wsX3_stateBehindPart RX3 := ⟨hx, hb, hml, hown, hts⟩
  unfold g_X3_stateBehindPart at hg
  refine lv_iload_n hx hb dX3_stateBehindPart_0 rfl (lv_at hl 0 rfl) ?_
  refine lv_bipush (v := 59) hx hb dX3_stateBehindPart_1 (by decide) ?_
  refine lv_icmp_ne (tgt := 10) hx hb dX3_stateBehindPart_3 (by decide) (fun hc => ?_) (fun hc => ?_)
  · replace hg := if_no hg hc
    refine lv_iconst (v := (-1)) hx hb dX3_stateBehindPart_10 (by decide) ?_
    cases hg
    exact fin _ _ dX3_stateBehindPart_11
  · replace hg := if_yes hg hc
    refine lv_iconst (v := 0) hx hb dX3_stateBehindPart_6 (by decide) ?_
    refine lv_goto (tgt := 11) hx hb dX3_stateBehindPart_7 (by decide) ?_
    cases hg
    exact fin _ _ dX3_stateBehindPart_11
theorem hd_X3_stateBehind : yX3_stateBehind.cls ≠ "java/lang/invoke/MethodHandle" ∧ yX3_stateBehind.cls ≠ "java/lang/invoke/VarHandle" ∧ (parseMethodDescriptor yX3_stateBehind.desc).map (fun d => d.parameters.length) = some 2 := by decide +kernel
abbrev rX3_stateBehind : Room := { frames := 2, cells := 0, slots := 0, locals := 42 }
set_option maxHeartbeats 4000000 in
set_option maxRecDepth 100000 in
theorem c_X3_stateBehind (l : Launch) (D : va_G) (cI cZ cB cJ : ClassId) (x1 : Int32) (x2 : Int32) (r0 : Int32) (hg : g_X3_stateBehind x1 x2 = some r0) : Met l yX3_stateBehind wsX3_stateBehind rX3_stateBehind (PcR D cI cZ cB cJ [] [.int x1, .int x2]) (vp_Si (fun r' => r' = r0 ∧ True)) 0 0 (fun _ => False) := by
  refine bodyRi (cc := cX3_stateBehind) (maxL := 2) (lv := [(0, .int x1), (1, .int x2)]) (by decide) rfl (Nat.le_of_ble_eq_true rfl) rfl ?_
  intro p e s m args below meth c Q hx hb hml hown hts hP hK fin ls hl
  replace hown : s.vm.findClass RX3 = some m.cls := hown
  have S : CallFix p m c cX3_stateBehind 2 s args wsX3_stateBehind RX3 := ⟨hx, hb, hml, hown, hts⟩
  unfold g_X3_stateBehind at hg
  refine lv_iload_n hx hb dX3_stateBehind_0 rfl (lv_at hl 0 rfl) ?_
  by_cases hk0 : x1 = 0
  · replace hg := if_yes hg hk0
    refine lv_tableIn (off := 47) (tgt := 48) hx hb dX3_stateBehind_1 (by rw [hk0]; decide) (by rw [hk0]; decide) (by rw [hk0]; decide) (by decide) ?_
    refine lv_iload_n hx hb dX3_stateBehind_48 rfl (lv_at hl 1 rfl) ?_
    refine lv_bipush (v := 48) hx hb dX3_stateBehind_49 (by decide) ?_
    refine lv_icmp_lt (tgt := 64) hx hb dX3_stateBehind_51 (by decide) (fun hc => ?_) (fun hc => ?_)
    · replace hg := if_yes hg hc
      refine lv_iconst (v := (-1)) hx hb dX3_stateBehind_64 (by decide) ?_
      cases hg
      exact fin _ _ dX3_stateBehind_65
    · replace hg := if_no hg hc
      refine lv_iload_n hx hb dX3_stateBehind_54 rfl (lv_at hl 1 rfl) ?_
      refine lv_bipush (v := 56) hx hb dX3_stateBehind_55 (by decide) ?_
      refine lv_icmp_gt (tgt := 64) hx hb dX3_stateBehind_57 (by decide) (fun hc => ?_) (fun hc => ?_)
      · replace hg := if_yes hg hc
        refine lv_iconst (v := (-1)) hx hb dX3_stateBehind_64 (by decide) ?_
        cases hg
        exact fin _ _ dX3_stateBehind_65
      · replace hg := if_no hg hc
        refine lv_iconst (v := 1) hx hb dX3_stateBehind_60 (by decide) ?_
        refine lv_goto (tgt := 65) hx hb dX3_stateBehind_61 (by decide) ?_
        cases hg
        exact fin _ _ dX3_stateBehind_65
  · replace hg := if_no hg hk0
    by_cases hk1 : x1 = 1
    · replace hg := if_yes hg hk1
      refine lv_tableIn (off := 65) (tgt := 66) hx hb dX3_stateBehind_1 (by rw [hk1]; decide) (by rw [hk1]; decide) (by rw [hk1]; decide) (by decide) ?_
      refine lv_iload_n hx hb dX3_stateBehind_66 rfl (lv_at hl 1 rfl) ?_
      obtain ⟨v1, hq, hg⟩ := bind_ex hg
      refine callRSi (As := [.int x2]) (rest := []) S hK hP (c_X3_stateBehindLetter l D cI cZ cB cJ x2 v1 hq) [] rfl (va_cwS 1 hts gX3_stateBehind_X3_stateBehindLetter rfl rfl rfl hd_X3_stateBehindLetter ⟨Nat.le_of_ble_eq_true rfl, Nat.le_of_ble_eq_true rfl⟩) rfl hl.1 rfl (Nat.le_of_ble_eq_true rfl) dX3_stateBehind_67 ⟨Nat.zero_le _, Nat.zero_le _⟩ ?_
      cases hg
      exact fin _ _ dX3_stateBehind_70
    · replace hg := if_no hg hk1
      by_cases hk2 : x1 = 2
      · replace hg := if_yes hg hk2
        refine lv_tableIn (off := 70) (tgt := 71) hx hb dX3_stateBehind_1 (by rw [hk2]; decide) (by rw [hk2]; decide) (by rw [hk2]; decide) (by decide) ?_
        refine lv_iload_n hx hb dX3_stateBehind_71 rfl (lv_at hl 1 rfl) ?_
        refine lv_iconst (v := 3) hx hb dX3_stateBehind_72 (by decide) ?_
        refine lv_iconst (v := 4) hx hb dX3_stateBehind_73 (by decide) ?_
        obtain ⟨v2, hq, hg⟩ := bind_ex hg
        refine callRSi (As := [.int x2, .int 3, .int 4]) (rest := []) S hK hP (c_X3_stateBehindDigit l D cI cZ cB cJ x2 3 4 v2 hq) [] rfl (va_cwS 3 hts gX3_stateBehind_X3_stateBehindDigit rfl rfl rfl hd_X3_stateBehindDigit ⟨Nat.le_of_ble_eq_true rfl, Nat.le_of_ble_eq_true rfl⟩) rfl hl.1 rfl (Nat.le_of_ble_eq_true rfl) dX3_stateBehind_74 ⟨Nat.zero_le _, Nat.zero_le _⟩ ?_
        cases hg
        exact fin _ _ dX3_stateBehind_77
      · replace hg := if_no hg hk2
        by_cases hk3 : x1 = 3
        · replace hg := if_yes hg hk3
          refine lv_tableIn (off := 77) (tgt := 78) hx hb dX3_stateBehind_1 (by rw [hk3]; decide) (by rw [hk3]; decide) (by rw [hk3]; decide) (by decide) ?_
          refine lv_iload_n hx hb dX3_stateBehind_78 rfl (lv_at hl 1 rfl) ?_
          refine lv_bipush (v := 48) hx hb dX3_stateBehind_79 (by decide) ?_
          refine lv_icmp_eq (tgt := 90) hx hb dX3_stateBehind_81 (by decide) (fun hc => ?_) (fun hc => ?_)
          · replace hg := if_yes hg hc
            refine lv_iconst (v := 4) hx hb dX3_stateBehind_90 (by decide) ?_
            refine lv_goto (tgt := 98) hx hb dX3_stateBehind_91 (by decide) ?_
            cases hg
            exact fin _ _ dX3_stateBehind_98
          · replace hg := if_no hg hc
            refine lv_iload_n hx hb dX3_stateBehind_84 rfl (lv_at hl 1 rfl) ?_
            refine lv_bipush (v := 49) hx hb dX3_stateBehind_85 (by decide) ?_
            refine lv_icmp_ne (tgt := 94) hx hb dX3_stateBehind_87 (by decide) (fun hc => ?_) (fun hc => ?_)
            · replace hg := if_no hg hc
              refine lv_iload_n hx hb dX3_stateBehind_94 rfl (lv_at hl 1 rfl) ?_
              obtain ⟨v3, hq, hg⟩ := bind_ex hg
              refine callRSi (As := [.int x2]) (rest := []) S hK hP (c_X3_stateBehindDash l D cI cZ cB cJ x2 v3 hq) [] rfl (va_cwS 1 hts gX3_stateBehind_X3_stateBehindDash rfl rfl rfl hd_X3_stateBehindDash ⟨Nat.le_of_ble_eq_true rfl, Nat.le_of_ble_eq_true rfl⟩) rfl hl.1 rfl (Nat.le_of_ble_eq_true rfl) dX3_stateBehind_95 ⟨Nat.zero_le _, Nat.zero_le _⟩ ?_
              cases hg
              exact fin _ _ dX3_stateBehind_98
            · replace hg := if_yes hg hc
              refine lv_iconst (v := 4) hx hb dX3_stateBehind_90 (by decide) ?_
              refine lv_goto (tgt := 98) hx hb dX3_stateBehind_91 (by decide) ?_
              cases hg
              exact fin _ _ dX3_stateBehind_98
        · replace hg := if_no hg hk3
          by_cases hk4 : x1 = 4
          · replace hg := if_yes hg hk4
            refine lv_tableIn (off := 98) (tgt := 99) hx hb dX3_stateBehind_1 (by rw [hk4]; decide) (by rw [hk4]; decide) (by rw [hk4]; decide) (by decide) ?_
            refine lv_iload_n hx hb dX3_stateBehind_99 rfl (lv_at hl 1 rfl) ?_
            obtain ⟨v4, hq, hg⟩ := bind_ex hg
            refine callRSi (As := [.int x2]) (rest := []) S hK hP (c_X3_stateBehindDash l D cI cZ cB cJ x2 v4 hq) [] rfl (va_cwS 1 hts gX3_stateBehind_X3_stateBehindDash rfl rfl rfl hd_X3_stateBehindDash ⟨Nat.le_of_ble_eq_true rfl, Nat.le_of_ble_eq_true rfl⟩) rfl hl.1 rfl (Nat.le_of_ble_eq_true rfl) dX3_stateBehind_100 ⟨Nat.zero_le _, Nat.zero_le _⟩ ?_
            cases hg
            exact fin _ _ dX3_stateBehind_103
          · replace hg := if_no hg hk4
            by_cases hk5 : x1 = 5
            · replace hg := if_yes hg hk5
              refine lv_tableIn (off := 103) (tgt := 104) hx hb dX3_stateBehind_1 (by rw [hk5]; decide) (by rw [hk5]; decide) (by rw [hk5]; decide) (by decide) ?_
              refine lv_iload_n hx hb dX3_stateBehind_104 rfl (lv_at hl 1 rfl) ?_
              refine lv_bipush (v := 6) hx hb dX3_stateBehind_105 (by decide) ?_
              refine lv_bipush (v := 7) hx hb dX3_stateBehind_107 (by decide) ?_
              obtain ⟨v5, hq, hg⟩ := bind_ex hg
              refine callRSi (As := [.int x2, .int 6, .int 7]) (rest := []) S hK hP (c_X3_stateBehindDigit l D cI cZ cB cJ x2 6 7 v5 hq) [] rfl (va_cwS 3 hts gX3_stateBehind_X3_stateBehindDigit rfl rfl rfl hd_X3_stateBehindDigit ⟨Nat.le_of_ble_eq_true rfl, Nat.le_of_ble_eq_true rfl⟩) rfl hl.1 rfl (Nat.le_of_ble_eq_true rfl) dX3_stateBehind_109 ⟨Nat.zero_le _, Nat.zero_le _⟩ ?_
              cases hg
              exact fin _ _ dX3_stateBehind_112
            · replace hg := if_no hg hk5
              by_cases hk6 : x1 = 6
              · replace hg := if_yes hg hk6
                refine lv_tableIn (off := 112) (tgt := 113) hx hb dX3_stateBehind_1 (by rw [hk6]; decide) (by rw [hk6]; decide) (by rw [hk6]; decide) (by decide) ?_
                refine lv_iload_n hx hb dX3_stateBehind_113 rfl (lv_at hl 1 rfl) ?_
                refine lv_bipush (v := 48) hx hb dX3_stateBehind_114 (by decide) ?_
                refine lv_icmp_eq (tgt := 125) hx hb dX3_stateBehind_116 (by decide) (fun hc => ?_) (fun hc => ?_)
                · replace hg := if_yes hg hc
                  refine lv_bipush (v := 7) hx hb dX3_stateBehind_125 (by decide) ?_
                  refine lv_goto (tgt := 134) hx hb dX3_stateBehind_127 (by decide) ?_
                  cases hg
                  exact fin _ _ dX3_stateBehind_134
                · replace hg := if_no hg hc
                  refine lv_iload_n hx hb dX3_stateBehind_119 rfl (lv_at hl 1 rfl) ?_
                  refine lv_bipush (v := 49) hx hb dX3_stateBehind_120 (by decide) ?_
                  refine lv_icmp_ne (tgt := 130) hx hb dX3_stateBehind_122 (by decide) (fun hc => ?_) (fun hc => ?_)
                  · replace hg := if_no hg hc
                    refine lv_iload_n hx hb dX3_stateBehind_130 rfl (lv_at hl 1 rfl) ?_
                    obtain ⟨v6, hq, hg⟩ := bind_ex hg
                    refine callRSi (As := [.int x2]) (rest := []) S hK hP (c_X3_stateBehindPart l D cI cZ cB cJ x2 v6 hq) [] rfl (va_cwS 1 hts gX3_stateBehind_X3_stateBehindPart rfl rfl rfl hd_X3_stateBehindPart ⟨Nat.le_of_ble_eq_true rfl, Nat.le_of_ble_eq_true rfl⟩) rfl hl.1 rfl (Nat.le_of_ble_eq_true rfl) dX3_stateBehind_131 ⟨Nat.zero_le _, Nat.zero_le _⟩ ?_
                    cases hg
                    exact fin _ _ dX3_stateBehind_134
                  · replace hg := if_yes hg hc
                    refine lv_bipush (v := 7) hx hb dX3_stateBehind_125 (by decide) ?_
                    refine lv_goto (tgt := 134) hx hb dX3_stateBehind_127 (by decide) ?_
                    cases hg
                    exact fin _ _ dX3_stateBehind_134
              · replace hg := if_no hg hk6
                by_cases hk7 : x1 = 7
                · replace hg := if_yes hg hk7
                  refine lv_tableIn (off := 134) (tgt := 135) hx hb dX3_stateBehind_1 (by rw [hk7]; decide) (by rw [hk7]; decide) (by rw [hk7]; decide) (by decide) ?_
                  refine lv_iload_n hx hb dX3_stateBehind_135 rfl (lv_at hl 1 rfl) ?_
                  obtain ⟨v7, hq, hg⟩ := bind_ex hg
                  refine callRSi (As := [.int x2]) (rest := []) S hK hP (c_X3_stateBehindPart l D cI cZ cB cJ x2 v7 hq) [] rfl (va_cwS 1 hts gX3_stateBehind_X3_stateBehindPart rfl rfl rfl hd_X3_stateBehindPart ⟨Nat.le_of_ble_eq_true rfl, Nat.le_of_ble_eq_true rfl⟩) rfl hl.1 rfl (Nat.le_of_ble_eq_true rfl) dX3_stateBehind_136 ⟨Nat.zero_le _, Nat.zero_le _⟩ ?_
                  cases hg
                  exact fin _ _ dX3_stateBehind_139
                · replace hg := if_no hg hk7
                  refine lv_tableOut (tgt := 140) hx hb dX3_stateBehind_1 (sw_out (fun k h1 h2 => by rcases (show k = 0 ∨ k = 1 ∨ k = 2 ∨ k = 3 ∨ k = 4 ∨ k = 5 ∨ k = 6 ∨ k = 7 by omega) with rfl | rfl | rfl | rfl | rfl | rfl | rfl | rfl <;> first | exact hk0 | exact hk1 | exact hk2 | exact hk3 | exact hk4 | exact hk5 | exact hk6 | exact hk7)) (by decide) ?_
                  refine lv_iconst (v := (-1)) hx hb dX3_stateBehind_140 (by decide) ?_
                  cases hg
                  exact fin _ _ dX3_stateBehind_141
theorem hd_X3_errorIndex : yX3_errorIndex.cls = RX3 ∧ yX3_errorIndex.cls ≠ "java/lang/invoke/MethodHandle" ∧ yX3_errorIndex.cls ≠ "java/lang/invoke/VarHandle" ∧ (parseMethodDescriptor yX3_errorIndex.desc).map (fun d => d.parameters.length) = some 0 := by decide +kernel
theorem in_X3_errorIndex_X3 : ∀ w ∈ u_ws RX3 TX3 6, w ∈ wsX3_errorIndex := fun _ h => List.mem_cons_of_mem _ (List.mem_append_right _ h)
theorem wd_X3_errorIndex_1 : Cond.fieldLink RX3 15 "FogOrders$OrderText" "length" "I" ∈ wsX3_errorIndex := List.mem_of_getElem? (i := 1) rfl
abbrev rX3_errorIndex : Room := { frames := 3, cells := 0, slots := 0, locals := 63 }
set_option maxHeartbeats 4000000 in
set_option maxRecDepth 100000 in
theorem c_X3_errorIndex (l : Launch) (D : va_G) (cI cZ cB cJ : ClassId) (A_t : Nat) (A_t_codes : Nat) (V_t_length : Int32) (V_t_armyRead : Int32) (V_t_kindRead : Int32) (V_t_fromRead : Int32) (V_t_toRead : Int32) (V_t_codes : Nat → Int32) (r0 : Int32) (hg : g_X3_errorIndex V_t_length V_t_codes = some r0) : Met l yX3_errorIndex wsX3_errorIndex rX3_errorIndex (PcR D cI cZ cB cJ [(A_t, .inr (3, [.ref A_t_codes, .int V_t_length, .int V_t_armyRead, .int V_t_kindRead, .int V_t_fromRead, .int V_t_toRead])), (A_t_codes, .inl (cI, 60, .inl V_t_codes))] [.ref A_t]) (vp_Si (fun r' => r' = r0 ∧ True)) 0 0 (fun _ => False) := by
  refine bodyRi (cc := cX3_errorIndex) (maxL := 3) (lv := [(0, .ref A_t)]) (by decide) rfl (Nat.le_of_ble_eq_true rfl) rfl ?_
  intro p e s m args below meth c Q hx hb hml hown hts hP hK fin ls hl
  replace hown : s.vm.findClass RX3 = some m.cls := hown
  have S : CallFix p m c cX3_errorIndex 3 s args wsX3_errorIndex RX3 := ⟨hx, hb, hml, hown, hts⟩
  unfold g_X3_errorIndex at hg
  refine lv_iconst (v := 0) hx hb dX3_errorIndex_0 (by decide) ?_
  refine lv_istore_n (lv' := [(1, .int 0), (0, .ref A_t)]) hx hb dX3_errorIndex_1 rfl hl (by decide) rfl (fun ls hl => ?_)
  refine lv_iconst (v := 0) hx hb dX3_errorIndex_2 (by decide) ?_
  refine lv_istore_n (lv' := [(2, .int 0), (1, .int 0), (0, .ref A_t)]) hx hb dX3_errorIndex_3 rfl hl (by decide) rfl (fun ls hl => ?_)
  have L : ∀ (nf : Nat) (v1 : Int32) (v2 : Int32), ∀ ls : Array Slot, lv_has ls 3 [(2, .int v2), (1, .int v1), (0, .ref A_t)] → g_X3_errorIndex_L1 V_t_length V_t_codes nf v1 v2 = some r0 → W p l e rX3_errorIndex s m args below meth c s.heap [] 0 0 Q (F0 m 4 ls []) := by
    intro nf
    induction nf with
    | zero =>
      intro v1 v2 ls hl hg
      exact no_some hg
    | succ nf ih =>
      intro v1 v2 ls hl hg
      rw [g_X3_errorIndex_L1] at hg
      refine lv_iload_n hx hb dX3_errorIndex_4 rfl (lv_at hl 0 rfl) ?_
      refine lv_aload_n hx hb dX3_errorIndex_5 rfl (lv_at hl 2 rfl) ?_
      refine xget (ci := 3) (C := RX3) (T := TX3) (N := 6) (v := .int V_t_length) hx hb hts in_X3_errorIndex_X3 hown hK hP 0 rfl rfl 1 (by decide) wd_X3_errorIndex_1 rfl dX3_errorIndex_6 ?_
      refine lv_icmp_ge (tgt := 35) hx hb dX3_errorIndex_9 (by decide) (fun hc => ?_) (fun hc => ?_)
      · replace hg := if_yes hg hc
        refine lv_aload_n hx hb dX3_errorIndex_35 rfl (lv_at hl 2 rfl) ?_
        refine xget (ci := 3) (C := RX3) (T := TX3) (N := 6) (v := .int V_t_length) hx hb hts in_X3_errorIndex_X3 hown hK hP 0 rfl rfl 1 (by decide) wd_X3_errorIndex_1 rfl dX3_errorIndex_36 ?_
        cases hg
        exact fin _ _ dX3_errorIndex_39
      · replace hg := if_no hg hc
        refine lv_iload_n hx hb dX3_errorIndex_12 rfl (lv_at hl 1 rfl) ?_
        refine lv_aload_n hx hb dX3_errorIndex_13 rfl (lv_at hl 2 rfl) ?_
        refine lv_iload_n hx hb dX3_errorIndex_14 rfl (lv_at hl 0 rfl) ?_
        obtain ⟨v3, hq, hg⟩ := bind_ex hg
        refine callRVi (As := [.int v2]) (rest := [.int v1]) S hK hP (c_X3_codeAt l D cI cZ cB cJ A_t A_t_codes V_t_length V_t_armyRead V_t_kindRead V_t_fromRead V_t_toRead V_t_codes v2 v3 hq) [0, 1] rfl (cwV 1 hts gX3_errorIndex_X3_codeAt rfl rfl rfl hd_X3_codeAt ⟨Nat.le_of_ble_eq_true rfl, Nat.le_of_ble_eq_true rfl⟩) rfl rfl rfl hl.1 rfl (Nat.le_of_ble_eq_true rfl) dX3_errorIndex_15 ⟨Nat.zero_le _, Nat.zero_le _⟩ ?_
        obtain ⟨v4, hq, hg⟩ := bind_ex hg
        refine callRSi (As := [.int v1, .int v3]) (rest := []) S hK hP (c_X3_stateBehind l D cI cZ cB cJ v1 v3 v4 hq) [] rfl (va_cwS 2 hts gX3_errorIndex_X3_stateBehind rfl rfl rfl hd_X3_stateBehind ⟨Nat.le_of_ble_eq_true rfl, Nat.le_of_ble_eq_true rfl⟩) rfl hl.1 rfl (Nat.le_of_ble_eq_true rfl) dX3_errorIndex_18 ⟨Nat.zero_le _, Nat.zero_le _⟩ ?_
        refine lv_istore_n (lv' := [(1, .int v4), (2, .int v2), (0, .ref A_t)]) hx hb dX3_errorIndex_21 rfl hl (by decide) rfl (fun ls hl => ?_)
        refine lv_iload_n hx hb dX3_errorIndex_22 rfl (lv_at hl 0 rfl) ?_
        refine lv_iconst (v := (-1)) hx hb dX3_errorIndex_23 (by decide) ?_
        refine lv_icmp_ne (tgt := 29) hx hb dX3_errorIndex_24 (by decide) (fun hc => ?_) (fun hc => ?_)
        · replace hg := if_no hg hc
          refine lv_iinc (v := (v2 + 1)) (lv' := [(2, .int (v2 + 1)), (1, .int v4), (0, .ref A_t)]) hx hb dX3_errorIndex_29 hl (k := 1) rfl rfl (by decide) rfl (fun ls hl => ?_)
          refine lv_goto (tgt := 4) hx hb dX3_errorIndex_32 (by decide) ?_
          exact ih _ _ _ (lv_sub hl [0, 1, 2] rfl) hg
        · replace hg := if_yes hg hc
          refine lv_iload_n hx hb dX3_errorIndex_27 rfl (lv_at hl 1 rfl) ?_
          cases hg
          exact fin _ _ dX3_errorIndex_28
  exact L FU _ _ _ (lv_sub hl [0, 1, 2] rfl) hg
theorem hd_X3_isComplete : yX3_isComplete.cls = RX3 ∧ yX3_isComplete.cls ≠ "java/lang/invoke/MethodHandle" ∧ yX3_isComplete.cls ≠ "java/lang/invoke/VarHandle" ∧ (parseMethodDescriptor yX3_isComplete.desc).map (fun d => d.parameters.length) = some 0 := by decide +kernel
theorem in_X3_isComplete_X3 : ∀ w ∈ u_ws RX3 TX3 6, w ∈ wsX3_isComplete := fun _ h => List.mem_cons_of_mem _ (List.mem_append_right _ h)
theorem wd_X3_isComplete_1 : Cond.fieldLink RX3 15 "FogOrders$OrderText" "length" "I" ∈ wsX3_isComplete := List.mem_of_getElem? (i := 1) rfl
abbrev rX3_isComplete : Room := { frames := 3, cells := 0, slots := 0, locals := 63 }
set_option maxHeartbeats 4000000 in
set_option maxRecDepth 100000 in
theorem c_X3_isComplete (l : Launch) (D : va_G) (cI cZ cB cJ : ClassId) (A_t : Nat) (A_t_codes : Nat) (V_t_length : Int32) (V_t_armyRead : Int32) (V_t_kindRead : Int32) (V_t_fromRead : Int32) (V_t_toRead : Int32) (V_t_codes : Nat → Int32) (r0 : Int32) (hg : g_X3_isComplete V_t_length V_t_codes = some r0) : Met l yX3_isComplete wsX3_isComplete rX3_isComplete (PcR D cI cZ cB cJ [(A_t, .inr (3, [.ref A_t_codes, .int V_t_length, .int V_t_armyRead, .int V_t_kindRead, .int V_t_fromRead, .int V_t_toRead])), (A_t_codes, .inl (cI, 60, .inl V_t_codes))] [.ref A_t]) (vp_Si (fun r' => r' = r0 ∧ bo r0)) 0 0 (fun _ => False) := by
  refine bodyRz (cc := cX3_isComplete) (maxL := 3) (lv := [(0, .ref A_t)]) (by decide) rfl (Nat.le_of_ble_eq_true rfl) rfl ?_
  intro p e s m args below meth c Q hx hb hml hown hts hP hK fin ls hl
  replace hown : s.vm.findClass RX3 = some m.cls := hown
  have S : CallFix p m c cX3_isComplete 3 s args wsX3_isComplete RX3 := ⟨hx, hb, hml, hown, hts⟩
  unfold g_X3_isComplete at hg
  refine lv_iconst (v := 0) hx hb dX3_isComplete_0 (by decide) ?_
  refine lv_istore_n (lv' := [(1, .int 0), (0, .ref A_t)]) hx hb dX3_isComplete_1 rfl hl (by decide) rfl (fun ls hl => ?_)
  refine lv_iconst (v := 0) hx hb dX3_isComplete_2 (by decide) ?_
  refine lv_istore_n (lv' := [(2, .int 0), (1, .int 0), (0, .ref A_t)]) hx hb dX3_isComplete_3 rfl hl (by decide) rfl (fun ls hl => ?_)
  obtain ⟨v5, hL, hg⟩ := bind_ex hg
  have kx : ∀ ls : Array Slot, lv_has ls 3 [(1, .int v5)] → W p l e rX3_isComplete s m args below meth c s.heap [] 0 0 Q (F0 m 28 ls []) := by
    intro ls hl
    refine lv_iload_n hx hb dX3_isComplete_28 rfl (lv_at hl 0 rfl) ?_
    refine lv_bipush (v := 7) hx hb dX3_isComplete_29 (by decide) ?_
    refine lv_icmp_eq (tgt := 40) hx hb dX3_isComplete_31 (by decide) (fun hc => ?_) (fun hc => ?_)
    · replace hg := if_yes hg hc
      refine lv_iconst (v := 1) hx hb dX3_isComplete_40 (by decide) ?_
      refine lv_goto (tgt := 45) hx hb dX3_isComplete_41 (by decide) ?_
      cases hg
      exact fin _ _ bo_1 dX3_isComplete_45
    · replace hg := if_no hg hc
      refine lv_iload_n hx hb dX3_isComplete_34 rfl (lv_at hl 0 rfl) ?_
      refine lv_bipush (v := 6) hx hb dX3_isComplete_35 (by decide) ?_
      refine lv_icmp_ne (tgt := 44) hx hb dX3_isComplete_37 (by decide) (fun hc => ?_) (fun hc => ?_)
      · replace hg := if_no hg hc
        refine lv_iconst (v := 0) hx hb dX3_isComplete_44 (by decide) ?_
        cases hg
        exact fin _ _ bo_0 dX3_isComplete_45
      · replace hg := if_yes hg hc
        refine lv_iconst (v := 1) hx hb dX3_isComplete_40 (by decide) ?_
        refine lv_goto (tgt := 45) hx hb dX3_isComplete_41 (by decide) ?_
        cases hg
        exact fin _ _ bo_1 dX3_isComplete_45
  have L : ∀ (nf : Nat) (v1 : Int32) (v2 : Int32), ∀ ls : Array Slot, lv_has ls 3 [(2, .int v2), (1, .int v1), (0, .ref A_t)] → g_X3_isComplete_L1 V_t_length V_t_codes nf v1 v2 = some v5 → W p l e rX3_isComplete s m args below meth c s.heap [] 0 0 Q (F0 m 4 ls []) := by
    intro nf
    induction nf with
    | zero =>
      intro v1 v2 ls hl hg
      exact no_some hg
    | succ nf ih =>
      intro v1 v2 ls hl hg
      rw [g_X3_isComplete_L1] at hg
      refine lv_iload_n hx hb dX3_isComplete_4 rfl (lv_at hl 0 rfl) ?_
      refine lv_aload_n hx hb dX3_isComplete_5 rfl (lv_at hl 2 rfl) ?_
      refine xget (ci := 3) (C := RX3) (T := TX3) (N := 6) (v := .int V_t_length) hx hb hts in_X3_isComplete_X3 hown hK hP 0 rfl rfl 1 (by decide) wd_X3_isComplete_1 rfl dX3_isComplete_6 ?_
      refine lv_icmp_ge (tgt := 28) hx hb dX3_isComplete_9 (by decide) (fun hc => ?_) (fun hc => ?_)
      · replace hg := if_yes hg hc
        cases hg
        exact kx _ (lv_sub hl [1] rfl)
      · replace hg := if_no hg hc
        refine lv_iload_n hx hb dX3_isComplete_12 rfl (lv_at hl 1 rfl) ?_
        refine lv_aload_n hx hb dX3_isComplete_13 rfl (lv_at hl 2 rfl) ?_
        refine lv_iload_n hx hb dX3_isComplete_14 rfl (lv_at hl 0 rfl) ?_
        obtain ⟨v3, hq, hg⟩ := bind_ex hg
        refine callRVi (As := [.int v2]) (rest := [.int v1]) S hK hP (c_X3_codeAt l D cI cZ cB cJ A_t A_t_codes V_t_length V_t_armyRead V_t_kindRead V_t_fromRead V_t_toRead V_t_codes v2 v3 hq) [0, 1] rfl (cwV 1 hts gX3_isComplete_X3_codeAt rfl rfl rfl hd_X3_codeAt ⟨Nat.le_of_ble_eq_true rfl, Nat.le_of_ble_eq_true rfl⟩) rfl rfl rfl hl.1 rfl (Nat.le_of_ble_eq_true rfl) dX3_isComplete_15 ⟨Nat.zero_le _, Nat.zero_le _⟩ ?_
        obtain ⟨v4, hq, hg⟩ := bind_ex hg
        refine callRSi (As := [.int v1, .int v3]) (rest := []) S hK hP (c_X3_stateBehind l D cI cZ cB cJ v1 v3 v4 hq) [] rfl (va_cwS 2 hts gX3_isComplete_X3_stateBehind rfl rfl rfl hd_X3_stateBehind ⟨Nat.le_of_ble_eq_true rfl, Nat.le_of_ble_eq_true rfl⟩) rfl hl.1 rfl (Nat.le_of_ble_eq_true rfl) dX3_isComplete_18 ⟨Nat.zero_le _, Nat.zero_le _⟩ ?_
        refine lv_istore_n (lv' := [(1, .int v4), (2, .int v2), (0, .ref A_t)]) hx hb dX3_isComplete_21 rfl hl (by decide) rfl (fun ls hl => ?_)
        refine lv_iinc (v := (v2 + 1)) (lv' := [(2, .int (v2 + 1)), (1, .int v4), (0, .ref A_t)]) hx hb dX3_isComplete_22 hl (k := 1) rfl rfl (by decide) rfl (fun ls hl => ?_)
        refine lv_goto (tgt := 4) hx hb dX3_isComplete_25 (by decide) ?_
        exact ih _ _ _ (lv_sub hl [0, 1, 2] rfl) hg
  exact L FU _ _ _ (lv_sub hl [0, 1, 2] rfl) hL
theorem hd_X3_endsPart : yX3_endsPart.cls = RX3 ∧ yX3_endsPart.cls ≠ "java/lang/invoke/MethodHandle" ∧ yX3_endsPart.cls ≠ "java/lang/invoke/VarHandle" ∧ (parseMethodDescriptor yX3_endsPart.desc).map (fun d => d.parameters.length) = some 1 := by decide +kernel
theorem in_X3_endsPart_X3 : ∀ w ∈ u_ws RX3 TX3 6, w ∈ wsX3_endsPart := fun _ h => List.mem_cons_of_mem _ (List.mem_append_right _ h)
theorem wd_X3_endsPart_1 : Cond.fieldLink RX3 15 "FogOrders$OrderText" "length" "I" ∈ wsX3_endsPart := List.mem_of_getElem? (i := 1) rfl
abbrev rX3_endsPart : Room := { frames := 2, cells := 0, slots := 0, locals := 42 }
set_option maxHeartbeats 4000000 in
set_option maxRecDepth 100000 in
theorem c_X3_endsPart (l : Launch) (D : va_G) (cI cZ cB cJ : ClassId) (A_t : Nat) (A_t_codes : Nat) (V_t_length : Int32) (V_t_armyRead : Int32) (V_t_kindRead : Int32) (V_t_fromRead : Int32) (V_t_toRead : Int32) (V_t_codes : Nat → Int32) (x1 : Int32) (r0 : Int32) (hg : g_X3_endsPart V_t_length V_t_codes x1 = some r0) : Met l yX3_endsPart wsX3_endsPart rX3_endsPart (PcR D cI cZ cB cJ [(A_t, .inr (3, [.ref A_t_codes, .int V_t_length, .int V_t_armyRead, .int V_t_kindRead, .int V_t_fromRead, .int V_t_toRead])), (A_t_codes, .inl (cI, 60, .inl V_t_codes))] [.ref A_t, .int x1]) (vp_Si (fun r' => r' = r0 ∧ bo r0)) 0 0 (fun _ => False) := by
  refine bodyRz (cc := cX3_endsPart) (maxL := 2) (lv := [(0, .ref A_t), (1, .int x1)]) (by decide) rfl (Nat.le_of_ble_eq_true rfl) rfl ?_
  intro p e s m args below meth c Q hx hb hml hown hts hP hK fin ls hl
  replace hown : s.vm.findClass RX3 = some m.cls := hown
  have S : CallFix p m c cX3_endsPart 2 s args wsX3_endsPart RX3 := ⟨hx, hb, hml, hown, hts⟩
  unfold g_X3_endsPart at hg
  refine lv_aload_n hx hb dX3_endsPart_0 rfl (lv_at hl 0 rfl) ?_
  refine lv_iload_n hx hb dX3_endsPart_1 rfl (lv_at hl 1 rfl) ?_
  obtain ⟨v1, hq, hg⟩ := bind_ex hg
  refine callRVi (As := [.int x1]) (rest := []) S hK hP (c_X3_codeAt l D cI cZ cB cJ A_t A_t_codes V_t_length V_t_armyRead V_t_kindRead V_t_fromRead V_t_toRead V_t_codes x1 v1 hq) [0, 1] rfl (cwV 1 hts gX3_endsPart_X3_codeAt rfl rfl rfl hd_X3_codeAt ⟨Nat.le_of_ble_eq_true rfl, Nat.le_of_ble_eq_true rfl⟩) rfl rfl rfl hl.1 rfl (Nat.le_of_ble_eq_true rfl) dX3_endsPart_2 ⟨Nat.zero_le _, Nat.zero_le _⟩ ?_
  refine lv_bipush (v := 59) hx hb dX3_endsPart_5 (by decide) ?_
  refine lv_icmp_eq (tgt := 36) hx hb dX3_endsPart_7 (by decide) (fun hc => ?_) (fun hc => ?_)
  · replace hg := if_yes hg hc
    refine lv_iconst (v := 0) hx hb dX3_endsPart_36 (by decide) ?_
    cases hg
    exact fin _ _ bo_0 dX3_endsPart_37
  · replace hg := if_no hg hc
    refine lv_iload_n hx hb dX3_endsPart_10 rfl (lv_at hl 1 rfl) ?_
    refine lv_iconst (v := 1) hx hb dX3_endsPart_11 (by decide) ?_
    refine lv_iadd hx hb dX3_endsPart_12 ?_
    refine lv_aload_n hx hb dX3_endsPart_13 rfl (lv_at hl 0 rfl) ?_
    refine xget (ci := 3) (C := RX3) (T := TX3) (N := 6) (v := .int V_t_length) hx hb hts in_X3_endsPart_X3 hown hK hP 0 rfl rfl 1 (by decide) wd_X3_endsPart_1 rfl dX3_endsPart_14 ?_
    refine lv_icmp_ge (tgt := 32) hx hb dX3_endsPart_17 (by decide) (fun hc => ?_) (fun hc => ?_)
    · replace hg := if_yes hg hc
      refine lv_iconst (v := 1) hx hb dX3_endsPart_32 (by decide) ?_
      refine lv_goto (tgt := 37) hx hb dX3_endsPart_33 (by decide) ?_
      cases hg
      exact fin _ _ bo_1 dX3_endsPart_37
    · replace hg := if_no hg hc
      refine lv_aload_n hx hb dX3_endsPart_20 rfl (lv_at hl 0 rfl) ?_
      refine lv_iload_n hx hb dX3_endsPart_21 rfl (lv_at hl 1 rfl) ?_
      refine lv_iconst (v := 1) hx hb dX3_endsPart_22 (by decide) ?_
      refine lv_iadd hx hb dX3_endsPart_23 ?_
      obtain ⟨v2, hq, hg⟩ := bind_ex hg
      refine callRVi (As := [.int (x1 + 1)]) (rest := []) S hK hP (c_X3_codeAt l D cI cZ cB cJ A_t A_t_codes V_t_length V_t_armyRead V_t_kindRead V_t_fromRead V_t_toRead V_t_codes (x1 + 1) v2 hq) [0, 1] rfl (cwV 1 hts gX3_endsPart_X3_codeAt rfl rfl rfl hd_X3_codeAt ⟨Nat.le_of_ble_eq_true rfl, Nat.le_of_ble_eq_true rfl⟩) rfl rfl rfl hl.1 rfl (Nat.le_of_ble_eq_true rfl) dX3_endsPart_24 ⟨Nat.zero_le _, Nat.zero_le _⟩ ?_
      refine lv_bipush (v := 59) hx hb dX3_endsPart_27 (by decide) ?_
      refine lv_icmp_ne (tgt := 36) hx hb dX3_endsPart_29 (by decide) (fun hc => ?_) (fun hc => ?_)
      · replace hg := if_no hg hc
        refine lv_iconst (v := 0) hx hb dX3_endsPart_36 (by decide) ?_
        cases hg
        exact fin _ _ bo_0 dX3_endsPart_37
      · replace hg := if_yes hg hc
        refine lv_iconst (v := 1) hx hb dX3_endsPart_32 (by decide) ?_
        refine lv_goto (tgt := 37) hx hb dX3_endsPart_33 (by decide) ?_
        cases hg
        exact fin _ _ bo_1 dX3_endsPart_37
theorem hd_X3_read : yX3_read.cls = RX3 ∧ yX3_read.cls ≠ "java/lang/invoke/MethodHandle" ∧ yX3_read.cls ≠ "java/lang/invoke/VarHandle" ∧ (parseMethodDescriptor yX3_read.desc).map (fun d => d.parameters.length) = some 1 := by decide +kernel
theorem in_X3_read_X3 : ∀ w ∈ u_ws RX3 TX3 6, w ∈ wsX3_read := fun _ h => List.mem_cons_of_mem _ (List.mem_append_right _ h)
theorem wd_X3_read_1 : Cond.fieldLink RX3 19 "FogOrders$OrderText" "armyRead" "I" ∈ wsX3_read := List.mem_of_getElem? (i := 1) rfl
theorem wd_X3_read_2 : Cond.fieldLink RX3 22 "FogOrders$OrderText" "kindRead" "I" ∈ wsX3_read := List.mem_of_getElem? (i := 2) rfl
theorem wd_X3_read_3 : Cond.fieldLink RX3 25 "FogOrders$OrderText" "fromRead" "I" ∈ wsX3_read := List.mem_of_getElem? (i := 3) rfl
theorem wd_X3_read_4 : Cond.fieldLink RX3 28 "FogOrders$OrderText" "toRead" "I" ∈ wsX3_read := List.mem_of_getElem? (i := 4) rfl
abbrev rX3_read : Room := { frames := 2, cells := 0, slots := 0, locals := 42 }
set_option maxHeartbeats 4000000 in
set_option maxRecDepth 100000 in
theorem c_X3_read (l : Launch) (D : va_G) (cI cZ cB cJ : ClassId) (A_t : Nat) (A_t_codes : Nat) (sz : Nat) (V_t_length : Int32) (V_t_armyRead : Int32) (V_t_kindRead : Int32) (V_t_fromRead : Int32) (V_t_toRead : Int32) (V_t_codes : Nat → Int32) (x1 : Int32) (w1 : Int32) (w2 : Int32) (w3 : Int32) (w4 : Int32) (hg : g_X3_read V_t_length V_t_armyRead V_t_kindRead V_t_fromRead V_t_toRead V_t_codes x1 = some (w1, w2, w3, w4)) : Met l yX3_read wsX3_read rX3_read (PcW D cI cZ cB cJ sz [(A_t, .inr (3, [.ref A_t_codes, .int V_t_length, .int V_t_armyRead, .int V_t_kindRead, .int V_t_fromRead, .int V_t_toRead])), (A_t_codes, .inl (cI, 60, .inl V_t_codes))] [.ref A_t, .int x1]) (QWv D cI cZ cB cJ sz [(A_t, .inr (3, [.ref A_t_codes, .int V_t_length, .int V_t_armyRead, .int V_t_kindRead, .int V_t_fromRead, .int V_t_toRead])), (A_t_codes, .inl (cI, 60, .inl V_t_codes))] [(A_t, .inr (3, [.ref A_t_codes, .int V_t_length, .int w1, .int w2, .int w3, .int w4])), (A_t_codes, .inl (cI, 60, .inl V_t_codes))]) 0 0 (va_A [(A_t, .inr (3, [.ref A_t_codes, .int V_t_length, .int V_t_armyRead, .int V_t_kindRead, .int V_t_fromRead, .int V_t_toRead])), (A_t_codes, .inl (cI, 60, .inl V_t_codes))] sz) := by
  refine bodyWv (cc := cX3_read) (maxL := 3) (lv := [(0, .ref A_t), (1, .int x1)]) (by decide) rfl (Nat.le_of_ble_eq_true rfl) rfl ?_
  intro p e s m args below meth c Q hx hb hml hown hts A hP hK hD hA hS fin ls hl
  replace hown : s.vm.findClass RX3 = some m.cls := hown
  have S : CallFix p m c cX3_read 3 s args wsX3_read RX3 := ⟨hx, hb, hml, hown, hts⟩
  unfold g_X3_read at hg
  refine lv_aload_n hx hb dX3_read_0 rfl (lv_at hl 0 rfl) ?_
  refine lv_iload_n hx hb dX3_read_1 rfl (lv_at hl 1 rfl) ?_
  obtain ⟨v1, hq, hg⟩ := bind_ex hg
  refine callRVi (As := [.int x1]) (rest := []) S hK hP (c_X3_codeAt l D cI cZ cB cJ A_t A_t_codes V_t_length V_t_armyRead V_t_kindRead V_t_fromRead V_t_toRead V_t_codes x1 v1 hq) [0, 1] rfl (cwV 1 hts gX3_read_X3_codeAt rfl rfl rfl hd_X3_codeAt ⟨Nat.le_of_ble_eq_true rfl, Nat.le_of_ble_eq_true rfl⟩) rfl rfl rfl hl.1 rfl (Nat.le_of_ble_eq_true rfl) dX3_read_2 ⟨Nat.zero_le _, Nat.zero_le _⟩ ?_
  refine lv_istore_n (lv' := [(2, .int v1), (0, .ref A_t), (1, .int x1)]) hx hb dX3_read_5 rfl hl (by decide) rfl (fun ls hl => ?_)
  refine lv_iload_n hx hb dX3_read_6 rfl (lv_at hl 2 rfl) ?_
  have hJ1 : ∀ (H : Heap) (locs : List Loc), va_P D vwCl [(A_t, .inr (3, [.ref A_t_codes, .int V_t_length, .int V_t_armyRead, .int V_t_kindRead, .int V_t_fromRead, .int V_t_toRead])), (A_t_codes, .inl (cI, 60, .inl V_t_codes))] H → va_D A [(A_t, .inr (3, [.ref A_t_codes, .int V_t_length, .int V_t_armyRead, .int V_t_kindRead, .int V_t_fromRead, .int V_t_toRead])), (A_t_codes, .inl (cI, 60, .inl V_t_codes))] → va_S A s.heap H locs → ∀ ls : Array Slot, lv_has ls 3 [(2, .int v1), (0, .ref A_t)] → g_X3_read_J1 v1 = some (w1, w2, w3, w4) → W p l e rX3_read s m args below meth c H locs 0 0 Q (F0 m 22 ls []) := by
    intro H locs hP hD hS ls hl hg
    unfold g_X3_read_J1 at hg
    refine lv_aload_n hx hb dX3_read_22 rfl (lv_at hl 1 rfl) ?_
    refine lv_iload_n hx hb dX3_read_23 rfl (lv_at hl 0 rfl) ?_
    refine lv_bipush (v := 48) hx hb dX3_read_24 (by decide) ?_
    refine lv_isub hx hb dX3_read_26 ?_
    refine xput (ci := 3) (C := RX3) (T := TX3) (N := 6) (ty := .int) (v := .int (v1 - 48)) (ws2 := [(A_t, .inr (3, [.ref A_t_codes, .int V_t_length, .int (v1 - 48), .int V_t_kindRead, .int V_t_fromRead, .int V_t_toRead])), (A_t_codes, .inl (cI, 60, .inl V_t_codes))]) hx hb hts in_X3_read_X3 tyX3 tyX3_ok nmX3 hown hK hP hD hS 0 rfl rfl 2 (by decide) wd_X3_read_1 rfl (by decide +kernel) rfl rfl (Nat.le_of_ble_eq_true rfl) rfl dX3_read_27 (fun H locs hP hD hS => ?_)
    refine lv_aload_n hx hb dX3_read_30 rfl (lv_at hl 1 rfl) ?_
    refine lv_iconst (v := 0) hx hb dX3_read_31 (by decide) ?_
    refine xput (ci := 3) (C := RX3) (T := TX3) (N := 6) (ty := .int) (v := .int 0) (ws2 := [(A_t, .inr (3, [.ref A_t_codes, .int V_t_length, .int (v1 - 48), .int 0, .int V_t_fromRead, .int V_t_toRead])), (A_t_codes, .inl (cI, 60, .inl V_t_codes))]) hx hb hts in_X3_read_X3 tyX3 tyX3_ok nmX3 hown hK hP hD hS 0 rfl rfl 3 (by decide) wd_X3_read_2 rfl (by decide +kernel) rfl rfl (Nat.le_of_ble_eq_true rfl) rfl dX3_read_32 (fun H locs hP hD hS => ?_)
    refine lv_aload_n hx hb dX3_read_35 rfl (lv_at hl 1 rfl) ?_
    refine lv_iconst (v := 0) hx hb dX3_read_36 (by decide) ?_
    refine xput (ci := 3) (C := RX3) (T := TX3) (N := 6) (ty := .int) (v := .int 0) (ws2 := [(A_t, .inr (3, [.ref A_t_codes, .int V_t_length, .int (v1 - 48), .int 0, .int 0, .int V_t_toRead])), (A_t_codes, .inl (cI, 60, .inl V_t_codes))]) hx hb hts in_X3_read_X3 tyX3 tyX3_ok nmX3 hown hK hP hD hS 0 rfl rfl 4 (by decide) wd_X3_read_3 rfl (by decide +kernel) rfl rfl (Nat.le_of_ble_eq_true rfl) rfl dX3_read_37 (fun H locs hP hD hS => ?_)
    refine lv_aload_n hx hb dX3_read_40 rfl (lv_at hl 1 rfl) ?_
    refine lv_iconst (v := 0) hx hb dX3_read_41 (by decide) ?_
    refine xput (ci := 3) (C := RX3) (T := TX3) (N := 6) (ty := .int) (v := .int 0) (ws2 := [(A_t, .inr (3, [.ref A_t_codes, .int V_t_length, .int (v1 - 48), .int 0, .int 0, .int 0])), (A_t_codes, .inl (cI, 60, .inl V_t_codes))]) hx hb hts in_X3_read_X3 tyX3 tyX3_ok nmX3 hown hK hP hD hS 0 rfl rfl 5 (by decide) wd_X3_read_4 rfl (by decide +kernel) rfl rfl (Nat.le_of_ble_eq_true rfl) rfl dX3_read_42 (fun H locs hP hD hS => ?_)
    refine lv_goto (tgt := 121) hx hb dX3_read_45 (by decide) ?_
    cases hg
    exact fin _ _ _ _ dX3_read_121 hP hD hS
  refine lv_if_eq (tgt := 22) hx hb dX3_read_7 (by decide) (fun hc => ?_) (fun hc => ?_)
  · replace hg := if_yes hg hc
    exact hJ1 _ _ hP hD hS _ (lv_sub hl [0, 1] rfl) hg
  · replace hg := if_no hg hc
    refine lv_aload_n hx hb dX3_read_10 rfl (lv_at hl 1 rfl) ?_
    refine lv_iload_n hx hb dX3_read_11 rfl (lv_at hl 2 rfl) ?_
    refine lv_iconst (v := 1) hx hb dX3_read_12 (by decide) ?_
    refine lv_isub hx hb dX3_read_13 ?_
    obtain ⟨v2, hq, hg⟩ := bind_ex hg
    refine callRVi (As := [.int (x1 - 1)]) (rest := []) S hK hP (c_X3_codeAt l D cI cZ cB cJ A_t A_t_codes V_t_length V_t_armyRead V_t_kindRead V_t_fromRead V_t_toRead V_t_codes (x1 - 1) v2 hq) [0, 1] rfl (cwV 1 hts gX3_read_X3_codeAt rfl rfl rfl hd_X3_codeAt ⟨Nat.le_of_ble_eq_true rfl, Nat.le_of_ble_eq_true rfl⟩) rfl rfl rfl hl.1 rfl (Nat.le_of_ble_eq_true rfl) dX3_read_14 ⟨Nat.zero_le _, Nat.zero_le _⟩ ?_
    refine lv_bipush (v := 59) hx hb dX3_read_17 (by decide) ?_
    refine lv_icmp_ne (tgt := 48) hx hb dX3_read_19 (by decide) (fun hc => ?_) (fun hc => ?_)
    · replace hg := if_no hg hc
      refine lv_iload_n hx hb dX3_read_48 rfl (lv_at hl 0 rfl) ?_
      obtain ⟨v3, hq, hg⟩ := bind_ex hg
      refine callRSz (As := [.int v1]) (rest := []) S hK hP (c_X3_isDigit l D cI cZ cB cJ v1 v3 hq) [] rfl (va_cwS 1 hts gX3_read_X3_isDigit rfl rfl rfl hd_X3_isDigit ⟨Nat.le_of_ble_eq_true rfl, Nat.le_of_ble_eq_true rfl⟩) rfl hl.1 rfl (Nat.le_of_ble_eq_true rfl) dX3_read_49 ⟨Nat.zero_le _, Nat.zero_le _⟩ (fun hz_v3 => ?_)
      refine lv_if_eq (tgt := 74) hx hb dX3_read_52 (by decide) (fun hc => ?_) (fun hc => ?_)
      · replace hg := if_yes hg hc
        refine lv_iload_n hx hb dX3_read_74 rfl (lv_at hl 0 rfl) ?_
        refine lv_bipush (v := 45) hx hb dX3_read_75 (by decide) ?_
        refine lv_icmp_ne (tgt := 96) hx hb dX3_read_77 (by decide) (fun hc => ?_) (fun hc => ?_)
        · replace hg := if_no hg hc
          refine lv_iload_n hx hb dX3_read_96 rfl (lv_at hl 0 rfl) ?_
          refine lv_bipush (v := 109) hx hb dX3_read_97 (by decide) ?_
          refine lv_icmp_ne (tgt := 110) hx hb dX3_read_99 (by decide) (fun hc => ?_) (fun hc => ?_)
          · replace hg := if_no hg hc
            refine lv_iload_n hx hb dX3_read_110 rfl (lv_at hl 0 rfl) ?_
            refine lv_bipush (v := 115) hx hb dX3_read_111 (by decide) ?_
            refine lv_icmp_ne (tgt := 121) hx hb dX3_read_113 (by decide) (fun hc => ?_) (fun hc => ?_)
            · replace hg := if_no hg hc
              cases hg
              exact fin _ _ _ _ dX3_read_121 hP hD hS
            · replace hg := if_yes hg hc
              refine lv_aload_n hx hb dX3_read_116 rfl (lv_at hl 1 rfl) ?_
              refine lv_iconst (v := 2) hx hb dX3_read_117 (by decide) ?_
              refine xput (ci := 3) (C := RX3) (T := TX3) (N := 6) (ty := .int) (v := .int 2) (ws2 := [(A_t, .inr (3, [.ref A_t_codes, .int V_t_length, .int V_t_armyRead, .int 2, .int V_t_fromRead, .int V_t_toRead])), (A_t_codes, .inl (cI, 60, .inl V_t_codes))]) hx hb hts in_X3_read_X3 tyX3 tyX3_ok nmX3 hown hK hP hD hS 0 rfl rfl 3 (by decide) wd_X3_read_2 rfl (by decide +kernel) rfl rfl (Nat.le_of_ble_eq_true rfl) rfl dX3_read_118 (fun H locs hP hD hS => ?_)
              cases hg
              exact fin _ _ _ _ dX3_read_121 hP hD hS
          · replace hg := if_yes hg hc
            refine lv_aload_n hx hb dX3_read_102 rfl (lv_at hl 1 rfl) ?_
            refine lv_iconst (v := 1) hx hb dX3_read_103 (by decide) ?_
            refine xput (ci := 3) (C := RX3) (T := TX3) (N := 6) (ty := .int) (v := .int 1) (ws2 := [(A_t, .inr (3, [.ref A_t_codes, .int V_t_length, .int V_t_armyRead, .int 1, .int V_t_fromRead, .int V_t_toRead])), (A_t_codes, .inl (cI, 60, .inl V_t_codes))]) hx hb hts in_X3_read_X3 tyX3 tyX3_ok nmX3 hown hK hP hD hS 0 rfl rfl 3 (by decide) wd_X3_read_2 rfl (by decide +kernel) rfl rfl (Nat.le_of_ble_eq_true rfl) rfl dX3_read_104 (fun H locs hP hD hS => ?_)
            refine lv_goto (tgt := 121) hx hb dX3_read_107 (by decide) ?_
            cases hg
            exact fin _ _ _ _ dX3_read_121 hP hD hS
        · replace hg := if_yes hg hc
          refine lv_aload_n hx hb dX3_read_80 rfl (lv_at hl 1 rfl) ?_
          refine lv_aload_n hx hb dX3_read_81 rfl (lv_at hl 1 rfl) ?_
          refine xget (ci := 3) (C := RX3) (T := TX3) (N := 6) (v := .int V_t_toRead) hx hb hts in_X3_read_X3 hown hK hP 0 rfl rfl 5 (by decide) wd_X3_read_4 rfl dX3_read_82 ?_
          refine xput (ci := 3) (C := RX3) (T := TX3) (N := 6) (ty := .int) (v := .int V_t_toRead) (ws2 := [(A_t, .inr (3, [.ref A_t_codes, .int V_t_length, .int V_t_armyRead, .int V_t_kindRead, .int V_t_toRead, .int V_t_toRead])), (A_t_codes, .inl (cI, 60, .inl V_t_codes))]) hx hb hts in_X3_read_X3 tyX3 tyX3_ok nmX3 hown hK hP hD hS 0 rfl rfl 4 (by decide) wd_X3_read_3 rfl (by decide +kernel) rfl rfl (Nat.le_of_ble_eq_true rfl) rfl dX3_read_85 (fun H locs hP hD hS => ?_)
          refine lv_aload_n hx hb dX3_read_88 rfl (lv_at hl 1 rfl) ?_
          refine lv_iconst (v := 0) hx hb dX3_read_89 (by decide) ?_
          refine xput (ci := 3) (C := RX3) (T := TX3) (N := 6) (ty := .int) (v := .int 0) (ws2 := [(A_t, .inr (3, [.ref A_t_codes, .int V_t_length, .int V_t_armyRead, .int V_t_kindRead, .int V_t_toRead, .int 0])), (A_t_codes, .inl (cI, 60, .inl V_t_codes))]) hx hb hts in_X3_read_X3 tyX3 tyX3_ok nmX3 hown hK hP hD hS 0 rfl rfl 5 (by decide) wd_X3_read_4 rfl (by decide +kernel) rfl rfl (Nat.le_of_ble_eq_true rfl) rfl dX3_read_90 (fun H locs hP hD hS => ?_)
          refine lv_goto (tgt := 121) hx hb dX3_read_93 (by decide) ?_
          cases hg
          exact fin _ _ _ _ dX3_read_121 hP hD hS
      · replace hg := if_no hg hc
        refine lv_aload_n hx hb dX3_read_55 rfl (lv_at hl 1 rfl) ?_
        refine lv_aload_n hx hb dX3_read_56 rfl (lv_at hl 1 rfl) ?_
        refine xget (ci := 3) (C := RX3) (T := TX3) (N := 6) (v := .int V_t_toRead) hx hb hts in_X3_read_X3 hown hK hP 0 rfl rfl 5 (by decide) wd_X3_read_4 rfl dX3_read_57 ?_
        refine lv_bipush (v := 10) hx hb dX3_read_60 (by decide) ?_
        refine lv_imul hx hb dX3_read_62 ?_
        refine lv_iload_n hx hb dX3_read_63 rfl (lv_at hl 0 rfl) ?_
        refine lv_iadd hx hb dX3_read_64 ?_
        refine lv_bipush (v := 48) hx hb dX3_read_65 (by decide) ?_
        refine lv_isub hx hb dX3_read_67 ?_
        refine xput (ci := 3) (C := RX3) (T := TX3) (N := 6) (ty := .int) (v := .int (((V_t_toRead * 10) + v1) - 48)) (ws2 := [(A_t, .inr (3, [.ref A_t_codes, .int V_t_length, .int V_t_armyRead, .int V_t_kindRead, .int V_t_fromRead, .int (((V_t_toRead * 10) + v1) - 48)])), (A_t_codes, .inl (cI, 60, .inl V_t_codes))]) hx hb hts in_X3_read_X3 tyX3 tyX3_ok nmX3 hown hK hP hD hS 0 rfl rfl 5 (by decide) wd_X3_read_4 rfl (by decide +kernel) rfl rfl (Nat.le_of_ble_eq_true rfl) rfl dX3_read_68 (fun H locs hP hD hS => ?_)
        refine lv_goto (tgt := 121) hx hb dX3_read_71 (by decide) ?_
        cases hg
        exact fin _ _ _ _ dX3_read_121 hP hD hS
    · replace hg := if_yes hg hc
      exact hJ1 _ _ hP hD hS _ (lv_sub hl [0, 1] rfl) hg
theorem hd_X4_isSeat : yX4_isSeat.cls ≠ "java/lang/invoke/MethodHandle" ∧ yX4_isSeat.cls ≠ "java/lang/invoke/VarHandle" ∧ (parseMethodDescriptor yX4_isSeat.desc).map (fun d => d.parameters.length) = some 1 := by decide +kernel
abbrev rX4_isSeat : Room := { frames := 0, cells := 0, slots := 0, locals := 0 }
set_option maxHeartbeats 4000000 in
set_option maxRecDepth 100000 in
theorem c_X4_isSeat (l : Launch) (D : va_G) (cI cZ cB cJ : ClassId) (x1 : Int32) (r0 : Int32) (hg : g_X4_isSeat x1 = some r0) : Met l yX4_isSeat wsX4_isSeat rX4_isSeat (PcR D cI cZ cB cJ [] [.int x1]) (vp_Si (fun r' => r' = r0 ∧ bo r0)) 0 0 (fun _ => False) := by
  refine bodyRz (cc := cX4_isSeat) (maxL := 1) (lv := [(0, .int x1)]) (by decide) rfl (Nat.le_of_ble_eq_true rfl) rfl ?_
  intro p e s m args below meth c Q hx hb hml hown hts hP hK fin ls hl
  replace hown : s.vm.findClass RX4 = some m.cls := hown
  have S : CallFix p m c cX4_isSeat 1 s args wsX4_isSeat RX4 := ⟨hx, hb, hml, hown, hts⟩
  unfold g_X4_isSeat at hg
  refine lv_iload_n hx hb dX4_isSeat_0 rfl (lv_at hl 0 rfl) ?_
  refine lv_if_lt (tgt := 13) hx hb dX4_isSeat_1 (by decide) (fun hc => ?_) (fun hc => ?_)
  · replace hg := if_yes hg hc
    refine lv_iconst (v := 0) hx hb dX4_isSeat_13 (by decide) ?_
    cases hg
    exact fin _ _ bo_0 dX4_isSeat_14
  · replace hg := if_no hg hc
    refine lv_iload_n hx hb dX4_isSeat_4 rfl (lv_at hl 0 rfl) ?_
    refine lv_iconst (v := 3) hx hb dX4_isSeat_5 (by decide) ?_
    refine lv_icmp_ge (tgt := 13) hx hb dX4_isSeat_6 (by decide) (fun hc => ?_) (fun hc => ?_)
    · replace hg := if_yes hg hc
      refine lv_iconst (v := 0) hx hb dX4_isSeat_13 (by decide) ?_
      cases hg
      exact fin _ _ bo_0 dX4_isSeat_14
    · replace hg := if_no hg hc
      refine lv_iconst (v := 1) hx hb dX4_isSeat_9 (by decide) ?_
      refine lv_goto (tgt := 14) hx hb dX4_isSeat_10 (by decide) ?_
      cases hg
      exact fin _ _ bo_1 dX4_isSeat_14
theorem hd_X4_isField : yX4_isField.cls ≠ "java/lang/invoke/MethodHandle" ∧ yX4_isField.cls ≠ "java/lang/invoke/VarHandle" ∧ (parseMethodDescriptor yX4_isField.desc).map (fun d => d.parameters.length) = some 1 := by decide +kernel
abbrev rX4_isField : Room := { frames := 0, cells := 0, slots := 0, locals := 0 }
set_option maxHeartbeats 4000000 in
set_option maxRecDepth 100000 in
theorem c_X4_isField (l : Launch) (D : va_G) (cI cZ cB cJ : ClassId) (x1 : Int32) (r0 : Int32) (hg : g_X4_isField x1 = some r0) : Met l yX4_isField wsX4_isField rX4_isField (PcR D cI cZ cB cJ [] [.int x1]) (vp_Si (fun r' => r' = r0 ∧ bo r0)) 0 0 (fun _ => False) := by
  refine bodyRz (cc := cX4_isField) (maxL := 1) (lv := [(0, .int x1)]) (by decide) rfl (Nat.le_of_ble_eq_true rfl) rfl ?_
  intro p e s m args below meth c Q hx hb hml hown hts hP hK fin ls hl
  replace hown : s.vm.findClass RX4 = some m.cls := hown
  have S : CallFix p m c cX4_isField 1 s args wsX4_isField RX4 := ⟨hx, hb, hml, hown, hts⟩
  unfold g_X4_isField at hg
  refine lv_iload_n hx hb dX4_isField_0 rfl (lv_at hl 0 rfl) ?_
  refine lv_if_lt (tgt := 14) hx hb dX4_isField_1 (by decide) (fun hc => ?_) (fun hc => ?_)
  · replace hg := if_yes hg hc
    refine lv_iconst (v := 0) hx hb dX4_isField_14 (by decide) ?_
    cases hg
    exact fin _ _ bo_0 dX4_isField_15
  · replace hg := if_no hg hc
    refine lv_iload_n hx hb dX4_isField_4 rfl (lv_at hl 0 rfl) ?_
    refine lv_bipush (v := 12) hx hb dX4_isField_5 (by decide) ?_
    refine lv_icmp_ge (tgt := 14) hx hb dX4_isField_7 (by decide) (fun hc => ?_) (fun hc => ?_)
    · replace hg := if_yes hg hc
      refine lv_iconst (v := 0) hx hb dX4_isField_14 (by decide) ?_
      cases hg
      exact fin _ _ bo_0 dX4_isField_15
    · replace hg := if_no hg hc
      refine lv_iconst (v := 1) hx hb dX4_isField_10 (by decide) ?_
      refine lv_goto (tgt := 15) hx hb dX4_isField_11 (by decide) ?_
      cases hg
      exact fin _ _ bo_1 dX4_isField_15
theorem hd_X4_clearBuffer : yX4_clearBuffer.cls = RX4 ∧ yX4_clearBuffer.cls ≠ "java/lang/invoke/MethodHandle" ∧ yX4_clearBuffer.cls ≠ "java/lang/invoke/VarHandle" ∧ (parseMethodDescriptor yX4_clearBuffer.desc).map (fun d => d.parameters.length) = some 0 := by decide +kernel
theorem in_X4_clearBuffer_X4 : ∀ w ∈ u_ws RX4 TX4 8, w ∈ wsX4_clearBuffer := fun _ h => List.mem_cons_of_mem _ (List.mem_append_left _ (List.mem_append_right _ h))
theorem wd_X4_clearBuffer_1 : Cond.fieldLink RX4 47 "FogOrders" "text" "LFogOrders$OrderText;" ∈ wsX4_clearBuffer := List.mem_of_getElem? (i := 1) rfl
abbrev rX4_clearBuffer : Room := { frames := 1, cells := 0, slots := 0, locals := 20 }
set_option maxHeartbeats 4000000 in
set_option maxRecDepth 100000 in
theorem c_X4_clearBuffer (l : Launch) (D : va_G) (cI cZ cB cJ : ClassId) (A_t : Nat) (A_t_opening : Nat) (A_t_board : Nat) (A_t_trialOpening : Nat) (A_t_trial : Nat) (A_t_history : Nat) (A_t_snapshot : Nat) (A_t_text : Nat) (A_t_text_codes : Nat) (sz : Nat) (V_t_hasSnapshot : Int32) (V_t_text_length : Int32) (V_t_text_armyRead : Int32) (V_t_text_kindRead : Int32) (V_t_text_fromRead : Int32) (V_t_text_toRead : Int32) (r0 : Int32) (w1 : Int32) (hg : g_X4_clearBuffer V_t_text_length = some (r0, w1)) : Met l yX4_clearBuffer wsX4_clearBuffer rX4_clearBuffer (PcW D cI cZ cB cJ sz [(A_t, .inr (4, [.ref A_t_opening, .ref A_t_board, .ref A_t_trialOpening, .ref A_t_trial, .ref A_t_history, .ref A_t_snapshot, .int V_t_hasSnapshot, .ref A_t_text])), (A_t_text, .inr (3, [.ref A_t_text_codes, .int V_t_text_length, .int V_t_text_armyRead, .int V_t_text_kindRead, .int V_t_text_fromRead, .int V_t_text_toRead]))] [.ref A_t]) (QWi D cI cZ cB cJ sz [(A_t, .inr (4, [.ref A_t_opening, .ref A_t_board, .ref A_t_trialOpening, .ref A_t_trial, .ref A_t_history, .ref A_t_snapshot, .int V_t_hasSnapshot, .ref A_t_text])), (A_t_text, .inr (3, [.ref A_t_text_codes, .int V_t_text_length, .int V_t_text_armyRead, .int V_t_text_kindRead, .int V_t_text_fromRead, .int V_t_text_toRead]))] [(A_t, .inr (4, [.ref A_t_opening, .ref A_t_board, .ref A_t_trialOpening, .ref A_t_trial, .ref A_t_history, .ref A_t_snapshot, .int V_t_hasSnapshot, .ref A_t_text])), (A_t_text, .inr (3, [.ref A_t_text_codes, .int w1, .int V_t_text_armyRead, .int V_t_text_kindRead, .int V_t_text_fromRead, .int V_t_text_toRead]))] r0) 0 0 (va_A [(A_t, .inr (4, [.ref A_t_opening, .ref A_t_board, .ref A_t_trialOpening, .ref A_t_trial, .ref A_t_history, .ref A_t_snapshot, .int V_t_hasSnapshot, .ref A_t_text])), (A_t_text, .inr (3, [.ref A_t_text_codes, .int V_t_text_length, .int V_t_text_armyRead, .int V_t_text_kindRead, .int V_t_text_fromRead, .int V_t_text_toRead]))] sz) := by
  refine bodyWi (cc := cX4_clearBuffer) (maxL := 2) (lv := [(0, .ref A_t)]) (by decide) rfl (Nat.le_of_ble_eq_true rfl) rfl ?_
  intro p e s m args below meth c Q hx hb hml hown hts A hP hK hD hA hS fin ls hl
  replace hown : s.vm.findClass RX4 = some m.cls := hown
  have S : CallFix p m c cX4_clearBuffer 2 s args wsX4_clearBuffer RX4 := ⟨hx, hb, hml, hown, hts⟩
  unfold g_X4_clearBuffer at hg
  refine lv_aload_n hx hb dX4_clearBuffer_0 rfl (lv_at hl 0 rfl) ?_
  refine xget (ci := 4) (C := RX4) (T := TX4) (N := 8) (v := .ref A_t_text) hx hb hts in_X4_clearBuffer_X4 hown hK hP 0 rfl rfl 7 (by decide) wd_X4_clearBuffer_1 rfl dX4_clearBuffer_1 ?_
  obtain ⟨v1, hq, hg⟩ := bind_ex hg
  refine callRVi (As := []) (rest := []) S hK hP (c_X3_size l D cI cZ cB cJ A_t_text A_t_text_codes V_t_text_length V_t_text_armyRead V_t_text_kindRead V_t_text_fromRead V_t_text_toRead v1 hq) [1] rfl (cwV 0 hts gX4_clearBuffer_X3_size rfl rfl rfl hd_X3_size ⟨Nat.le_of_ble_eq_true rfl, Nat.le_of_ble_eq_true rfl⟩) rfl rfl rfl hl.1 rfl (Nat.le_of_ble_eq_true rfl) dX4_clearBuffer_4 ⟨Nat.zero_le _, Nat.zero_le _⟩ ?_
  refine lv_istore_n (lv' := [(1, .int v1), (0, .ref A_t)]) hx hb dX4_clearBuffer_7 rfl hl (by decide) rfl (fun ls hl => ?_)
  refine lv_aload_n hx hb dX4_clearBuffer_8 rfl (lv_at hl 1 rfl) ?_
  refine xget (ci := 4) (C := RX4) (T := TX4) (N := 8) (v := .ref A_t_text) hx hb hts in_X4_clearBuffer_X4 hown hK hP 0 rfl rfl 7 (by decide) wd_X4_clearBuffer_1 rfl dX4_clearBuffer_9 ?_
  obtain ⟨v2, hq, hg⟩ := bind_ex hg
  refine callWVv (As := []) (rest := []) (wr := [(A_t, .inr (4, [.ref A_t_opening, .ref A_t_board, .ref A_t_trialOpening, .ref A_t_trial, .ref A_t_history, .ref A_t_snapshot, .int V_t_hasSnapshot, .ref A_t_text]))]) S hK hP hD hS hA (c_X3_empty l D cI cZ cB cJ A_t_text A_t_text_codes _ V_t_text_length V_t_text_armyRead V_t_text_kindRead V_t_text_fromRead V_t_text_toRead v2 hq) [1] [0] rfl rfl (by decide +kernel) (by decide +kernel) (by decide +kernel) (cwV 0 hts gX4_clearBuffer_X3_empty rfl rfl rfl hd_X3_empty ⟨Nat.le_of_ble_eq_true rfl, Nat.le_of_ble_eq_true rfl⟩) rfl rfl rfl hl.1 rfl (Nat.le_of_ble_eq_true rfl) dX4_clearBuffer_12 ⟨Nat.zero_le _, Nat.zero_le _⟩ (fun H locs hP hD hS => ?_)
  replace hP : va_P D vwCl [(A_t, .inr (4, [.ref A_t_opening, .ref A_t_board, .ref A_t_trialOpening, .ref A_t_trial, .ref A_t_history, .ref A_t_snapshot, .int V_t_hasSnapshot, .ref A_t_text])), (A_t_text, .inr (3, [.ref A_t_text_codes, .int v2, .int V_t_text_armyRead, .int V_t_text_kindRead, .int V_t_text_fromRead, .int V_t_text_toRead]))] H := hP
  replace hD : va_D A [(A_t, .inr (4, [.ref A_t_opening, .ref A_t_board, .ref A_t_trialOpening, .ref A_t_trial, .ref A_t_history, .ref A_t_snapshot, .int V_t_hasSnapshot, .ref A_t_text])), (A_t_text, .inr (3, [.ref A_t_text_codes, .int v2, .int V_t_text_armyRead, .int V_t_text_kindRead, .int V_t_text_fromRead, .int V_t_text_toRead]))] := hD
  refine lv_iload_n hx hb dX4_clearBuffer_15 rfl (lv_at hl 0 rfl) ?_
  cases hg
  exact fin _ _ _ _ dX4_clearBuffer_16 hP hD hS
theorem hd_X4_firstError : yX4_firstError.cls = RX4 ∧ yX4_firstError.cls ≠ "java/lang/invoke/MethodHandle" ∧ yX4_firstError.cls ≠ "java/lang/invoke/VarHandle" ∧ (parseMethodDescriptor yX4_firstError.desc).map (fun d => d.parameters.length) = some 0 := by decide +kernel
theorem in_X4_firstError_X4 : ∀ w ∈ u_ws RX4 TX4 8, w ∈ wsX4_firstError := fun _ h => List.mem_cons_of_mem _ (List.mem_append_left _ (List.mem_append_right _ h))
theorem wd_X4_firstError_1 : Cond.fieldLink RX4 47 "FogOrders" "text" "LFogOrders$OrderText;" ∈ wsX4_firstError := List.mem_of_getElem? (i := 1) rfl
abbrev rX4_firstError : Room := { frames := 4, cells := 0, slots := 0, locals := 85 }
set_option maxHeartbeats 4000000 in
set_option maxRecDepth 100000 in
theorem c_X4_firstError (l : Launch) (D : va_G) (cI cZ cB cJ : ClassId) (A_t : Nat) (A_t_opening : Nat) (A_t_board : Nat) (A_t_trialOpening : Nat) (A_t_trial : Nat) (A_t_history : Nat) (A_t_snapshot : Nat) (A_t_text : Nat) (A_t_text_codes : Nat) (V_t_hasSnapshot : Int32) (V_t_text_length : Int32) (V_t_text_armyRead : Int32) (V_t_text_kindRead : Int32) (V_t_text_fromRead : Int32) (V_t_text_toRead : Int32) (V_t_text_codes : Nat → Int32) (r0 : Int32) (hg : g_X4_firstError V_t_text_length V_t_text_codes = some r0) : Met l yX4_firstError wsX4_firstError rX4_firstError (PcR D cI cZ cB cJ [(A_t, .inr (4, [.ref A_t_opening, .ref A_t_board, .ref A_t_trialOpening, .ref A_t_trial, .ref A_t_history, .ref A_t_snapshot, .int V_t_hasSnapshot, .ref A_t_text])), (A_t_text, .inr (3, [.ref A_t_text_codes, .int V_t_text_length, .int V_t_text_armyRead, .int V_t_text_kindRead, .int V_t_text_fromRead, .int V_t_text_toRead])), (A_t_text_codes, .inl (cI, 60, .inl V_t_text_codes))] [.ref A_t]) (vp_Si (fun r' => r' = r0 ∧ True)) 0 0 (fun _ => False) := by
  refine bodyRi (cc := cX4_firstError) (maxL := 1) (lv := [(0, .ref A_t)]) (by decide) rfl (Nat.le_of_ble_eq_true rfl) rfl ?_
  intro p e s m args below meth c Q hx hb hml hown hts hP hK fin ls hl
  replace hown : s.vm.findClass RX4 = some m.cls := hown
  have S : CallFix p m c cX4_firstError 1 s args wsX4_firstError RX4 := ⟨hx, hb, hml, hown, hts⟩
  unfold g_X4_firstError at hg
  refine lv_aload_n hx hb dX4_firstError_0 rfl (lv_at hl 0 rfl) ?_
  refine xget (ci := 4) (C := RX4) (T := TX4) (N := 8) (v := .ref A_t_text) hx hb hts in_X4_firstError_X4 hown hK hP 0 rfl rfl 7 (by decide) wd_X4_firstError_1 rfl dX4_firstError_1 ?_
  obtain ⟨v1, hq, hg⟩ := bind_ex hg
  refine callRVi (As := []) (rest := []) S hK hP (c_X3_errorIndex l D cI cZ cB cJ A_t_text A_t_text_codes V_t_text_length V_t_text_armyRead V_t_text_kindRead V_t_text_fromRead V_t_text_toRead V_t_text_codes v1 hq) [1, 2] rfl (cwV 0 hts gX4_firstError_X3_errorIndex rfl rfl rfl hd_X3_errorIndex ⟨Nat.le_of_ble_eq_true rfl, Nat.le_of_ble_eq_true rfl⟩) rfl rfl rfl hl.1 rfl (Nat.le_of_ble_eq_true rfl) dX4_firstError_4 ⟨Nat.zero_le _, Nat.zero_le _⟩ ?_
  cases hg
  exact fin _ _ dX4_firstError_7
theorem hd_X4_giveRead : yX4_giveRead.cls = RX4 ∧ yX4_giveRead.cls ≠ "java/lang/invoke/MethodHandle" ∧ yX4_giveRead.cls ≠ "java/lang/invoke/VarHandle" ∧ (parseMethodDescriptor yX4_giveRead.desc).map (fun d => d.parameters.length) = some 0 := by decide +kernel
theorem in_X4_giveRead_X4 : ∀ w ∈ u_ws RX4 TX4 8, w ∈ wsX4_giveRead := fun _ h => List.mem_cons_of_mem _ (List.mem_append_left _ (List.mem_append_left _ (List.mem_append_right _ h)))
theorem wd_X4_giveRead_1 : Cond.fieldLink RX4 20 "FogOrders" "board" "LFogOrders$Board;" ∈ wsX4_giveRead := List.mem_of_getElem? (i := 1) rfl
theorem wd_X4_giveRead_2 : Cond.fieldLink RX4 47 "FogOrders" "text" "LFogOrders$OrderText;" ∈ wsX4_giveRead := List.mem_of_getElem? (i := 2) rfl
theorem in_X4_giveRead_X3 : ∀ w ∈ u_ws RX3 TX3 6, w ∈ wsX4_giveRead := fun _ h => List.mem_cons_of_mem _ (List.mem_append_left _ (List.mem_append_right _ h))
abbrev rX4_giveRead : Room := { frames := 3, cells := 0, slots := 0, locals := 66 }
set_option maxHeartbeats 4000000 in
set_option maxRecDepth 100000 in
theorem c_X4_giveRead (l : Launch) (D : va_G) (cI cZ cB cJ : ClassId) (A_t : Nat) (A_t_opening : Nat) (A_t_board : Nat) (A_t_trialOpening : Nat) (A_t_trial : Nat) (A_t_history : Nat) (A_t_snapshot : Nat) (A_t_text : Nat) (A_t_text_codes : Nat) (A_t_board_numbers : Nat) (A_t_board_owners : Nat) (A_t_board_cells : Nat) (sz : Nat) (V_t_hasSnapshot : Int32) (V_t_text_length : Int32) (V_t_text_armyRead : Int32) (V_t_text_kindRead : Int32) (V_t_text_fromRead : Int32) (V_t_text_toRead : Int32) (V_t_board_numbers : Nat → Int32) (V_t_board_cells : Nat → Int32) (r0 : Int32) (w1 : Nat → Int32) (hg : g_X4_giveRead V_t_text_armyRead V_t_text_kindRead V_t_text_fromRead V_t_text_toRead V_t_board_numbers V_t_board_cells = some (r0, w1)) : Met l yX4_giveRead wsX4_giveRead rX4_giveRead (PcW D cI cZ cB cJ sz [(A_t, .inr (4, [.ref A_t_opening, .ref A_t_board, .ref A_t_trialOpening, .ref A_t_trial, .ref A_t_history, .ref A_t_snapshot, .int V_t_hasSnapshot, .ref A_t_text])), (A_t_text, .inr (3, [.ref A_t_text_codes, .int V_t_text_length, .int V_t_text_armyRead, .int V_t_text_kindRead, .int V_t_text_fromRead, .int V_t_text_toRead])), (A_t_board, .inr (0, [.ref A_t_board_numbers, .ref A_t_board_owners, .ref A_t_board_cells])), (A_t_board_numbers, .inl (cI, 10, .inl V_t_board_numbers)), (A_t_board_cells, .inl (cI, 63, .inl V_t_board_cells))] [.ref A_t]) (QWz D cI cZ cB cJ sz [(A_t, .inr (4, [.ref A_t_opening, .ref A_t_board, .ref A_t_trialOpening, .ref A_t_trial, .ref A_t_history, .ref A_t_snapshot, .int V_t_hasSnapshot, .ref A_t_text])), (A_t_text, .inr (3, [.ref A_t_text_codes, .int V_t_text_length, .int V_t_text_armyRead, .int V_t_text_kindRead, .int V_t_text_fromRead, .int V_t_text_toRead])), (A_t_board, .inr (0, [.ref A_t_board_numbers, .ref A_t_board_owners, .ref A_t_board_cells])), (A_t_board_numbers, .inl (cI, 10, .inl V_t_board_numbers)), (A_t_board_cells, .inl (cI, 63, .inl V_t_board_cells))] [(A_t, .inr (4, [.ref A_t_opening, .ref A_t_board, .ref A_t_trialOpening, .ref A_t_trial, .ref A_t_history, .ref A_t_snapshot, .int V_t_hasSnapshot, .ref A_t_text])), (A_t_text, .inr (3, [.ref A_t_text_codes, .int V_t_text_length, .int V_t_text_armyRead, .int V_t_text_kindRead, .int V_t_text_fromRead, .int V_t_text_toRead])), (A_t_board, .inr (0, [.ref A_t_board_numbers, .ref A_t_board_owners, .ref A_t_board_cells])), (A_t_board_numbers, .inl (cI, 10, .inl V_t_board_numbers)), (A_t_board_cells, .inl (cI, 63, .inl w1))] r0) 0 0 (va_A [(A_t, .inr (4, [.ref A_t_opening, .ref A_t_board, .ref A_t_trialOpening, .ref A_t_trial, .ref A_t_history, .ref A_t_snapshot, .int V_t_hasSnapshot, .ref A_t_text])), (A_t_text, .inr (3, [.ref A_t_text_codes, .int V_t_text_length, .int V_t_text_armyRead, .int V_t_text_kindRead, .int V_t_text_fromRead, .int V_t_text_toRead])), (A_t_board, .inr (0, [.ref A_t_board_numbers, .ref A_t_board_owners, .ref A_t_board_cells])), (A_t_board_numbers, .inl (cI, 10, .inl V_t_board_numbers)), (A_t_board_cells, .inl (cI, 63, .inl V_t_board_cells))] sz) := by
  refine bodyWz (cc := cX4_giveRead) (maxL := 1) (lv := [(0, .ref A_t)]) (by decide) rfl (Nat.le_of_ble_eq_true rfl) rfl ?_
  intro p e s m args below meth c Q hx hb hml hown hts A hP hK hD hA hS fin ls hl
  replace hown : s.vm.findClass RX4 = some m.cls := hown
  have S : CallFix p m c cX4_giveRead 1 s args wsX4_giveRead RX4 := ⟨hx, hb, hml, hown, hts⟩
  unfold g_X4_giveRead at hg
  refine lv_aload_n hx hb dX4_giveRead_0 rfl (lv_at hl 0 rfl) ?_
  refine xget (ci := 4) (C := RX4) (T := TX4) (N := 8) (v := .ref A_t_board) hx hb hts in_X4_giveRead_X4 hown hK hP 0 rfl rfl 1 (by decide) wd_X4_giveRead_1 rfl dX4_giveRead_1 ?_
  refine lv_aload_n hx hb dX4_giveRead_4 rfl (lv_at hl 0 rfl) ?_
  refine xget (ci := 4) (C := RX4) (T := TX4) (N := 8) (v := .ref A_t_text) hx hb hts in_X4_giveRead_X4 hown hK hP 0 rfl rfl 7 (by decide) wd_X4_giveRead_2 rfl dX4_giveRead_5 ?_
  refine xgetN (ci := 3) (C := RX3) (T := TX3) (N := 6) (v := .int V_t_text_armyRead) hx hb hts in_X4_giveRead_X3 hown hK hP 1 rfl rfl 2 (by decide) (List.mem_of_getElem? (i := 3) rfl) rfl dX4_giveRead_8 ?_
  refine lv_aload_n hx hb dX4_giveRead_11 rfl (lv_at hl 0 rfl) ?_
  refine xget (ci := 4) (C := RX4) (T := TX4) (N := 8) (v := .ref A_t_text) hx hb hts in_X4_giveRead_X4 hown hK hP 0 rfl rfl 7 (by decide) wd_X4_giveRead_2 rfl dX4_giveRead_12 ?_
  refine xgetN (ci := 3) (C := RX3) (T := TX3) (N := 6) (v := .int V_t_text_kindRead) hx hb hts in_X4_giveRead_X3 hown hK hP 1 rfl rfl 3 (by decide) (List.mem_of_getElem? (i := 4) rfl) rfl dX4_giveRead_15 ?_
  refine lv_aload_n hx hb dX4_giveRead_18 rfl (lv_at hl 0 rfl) ?_
  refine xget (ci := 4) (C := RX4) (T := TX4) (N := 8) (v := .ref A_t_text) hx hb hts in_X4_giveRead_X4 hown hK hP 0 rfl rfl 7 (by decide) wd_X4_giveRead_2 rfl dX4_giveRead_19 ?_
  refine xgetN (ci := 3) (C := RX3) (T := TX3) (N := 6) (v := .int V_t_text_fromRead) hx hb hts in_X4_giveRead_X3 hown hK hP 1 rfl rfl 4 (by decide) (List.mem_of_getElem? (i := 5) rfl) rfl dX4_giveRead_22 ?_
  refine lv_aload_n hx hb dX4_giveRead_25 rfl (lv_at hl 0 rfl) ?_
  refine xget (ci := 4) (C := RX4) (T := TX4) (N := 8) (v := .ref A_t_text) hx hb hts in_X4_giveRead_X4 hown hK hP 0 rfl rfl 7 (by decide) wd_X4_giveRead_2 rfl dX4_giveRead_26 ?_
  refine xgetN (ci := 3) (C := RX3) (T := TX3) (N := 6) (v := .int V_t_text_toRead) hx hb hts in_X4_giveRead_X3 hown hK hP 1 rfl rfl 5 (by decide) (List.mem_of_getElem? (i := 6) rfl) rfl dX4_giveRead_29 ?_
  obtain ⟨v1, hq, hg⟩ := bind_ex hg
  refine callRVz (As := [.int V_t_text_armyRead, .int V_t_text_kindRead, .int V_t_text_fromRead, .int V_t_text_toRead]) (rest := []) S hK hP (c_X0_canBeGiven l D cI cZ cB cJ A_t_board A_t_board_numbers A_t_board_owners A_t_board_cells V_t_board_numbers V_t_board_cells V_t_text_armyRead V_t_text_kindRead V_t_text_fromRead V_t_text_toRead v1 hq) [2, 3, 4] rfl (cwV 4 hts gX4_giveRead_X0_canBeGiven rfl rfl rfl hd_X0_canBeGiven ⟨Nat.le_of_ble_eq_true rfl, Nat.le_of_ble_eq_true rfl⟩) rfl rfl rfl hl.1 rfl (Nat.le_of_ble_eq_true rfl) dX4_giveRead_32 ⟨Nat.zero_le _, Nat.zero_le _⟩ (fun hz_v1 => ?_)
  refine lv_if_ne (tgt := 40) hx hb dX4_giveRead_35 (by decide) (fun hc => ?_) (fun hc => ?_)
  · replace hg := if_no hg hc
    refine lv_aload_n hx hb dX4_giveRead_40 rfl (lv_at hl 0 rfl) ?_
    refine xget (ci := 4) (C := RX4) (T := TX4) (N := 8) (v := .ref A_t_board) hx hb hts in_X4_giveRead_X4 hown hK hP 0 rfl rfl 1 (by decide) wd_X4_giveRead_1 rfl dX4_giveRead_41 ?_
    refine lv_aload_n hx hb dX4_giveRead_44 rfl (lv_at hl 0 rfl) ?_
    refine xget (ci := 4) (C := RX4) (T := TX4) (N := 8) (v := .ref A_t_text) hx hb hts in_X4_giveRead_X4 hown hK hP 0 rfl rfl 7 (by decide) wd_X4_giveRead_2 rfl dX4_giveRead_45 ?_
    refine xgetN (ci := 3) (C := RX3) (T := TX3) (N := 6) (v := .int V_t_text_armyRead) hx hb hts in_X4_giveRead_X3 hown hK hP 1 rfl rfl 2 (by decide) (List.mem_of_getElem? (i := 3) rfl) rfl dX4_giveRead_48 ?_
    refine lv_aload_n hx hb dX4_giveRead_51 rfl (lv_at hl 0 rfl) ?_
    refine xget (ci := 4) (C := RX4) (T := TX4) (N := 8) (v := .ref A_t_text) hx hb hts in_X4_giveRead_X4 hown hK hP 0 rfl rfl 7 (by decide) wd_X4_giveRead_2 rfl dX4_giveRead_52 ?_
    refine xgetN (ci := 3) (C := RX3) (T := TX3) (N := 6) (v := .int V_t_text_kindRead) hx hb hts in_X4_giveRead_X3 hown hK hP 1 rfl rfl 3 (by decide) (List.mem_of_getElem? (i := 4) rfl) rfl dX4_giveRead_55 ?_
    refine lv_aload_n hx hb dX4_giveRead_58 rfl (lv_at hl 0 rfl) ?_
    refine xget (ci := 4) (C := RX4) (T := TX4) (N := 8) (v := .ref A_t_text) hx hb hts in_X4_giveRead_X4 hown hK hP 0 rfl rfl 7 (by decide) wd_X4_giveRead_2 rfl dX4_giveRead_59 ?_
    refine xgetN (ci := 3) (C := RX3) (T := TX3) (N := 6) (v := .int V_t_text_fromRead) hx hb hts in_X4_giveRead_X3 hown hK hP 1 rfl rfl 4 (by decide) (List.mem_of_getElem? (i := 5) rfl) rfl dX4_giveRead_62 ?_
    refine lv_aload_n hx hb dX4_giveRead_65 rfl (lv_at hl 0 rfl) ?_
    refine xget (ci := 4) (C := RX4) (T := TX4) (N := 8) (v := .ref A_t_text) hx hb hts in_X4_giveRead_X4 hown hK hP 0 rfl rfl 7 (by decide) wd_X4_giveRead_2 rfl dX4_giveRead_66 ?_
    refine xgetN (ci := 3) (C := RX3) (T := TX3) (N := 6) (v := .int V_t_text_toRead) hx hb hts in_X4_giveRead_X3 hown hK hP 1 rfl rfl 5 (by decide) (List.mem_of_getElem? (i := 6) rfl) rfl dX4_giveRead_69 ?_
    obtain ⟨v3, f2, hq, hg⟩ := b2_ex hg
    refine callWV (As := [.int V_t_text_armyRead, .int V_t_text_kindRead, .int V_t_text_fromRead, .int V_t_text_toRead]) (rest := []) (wr := [(A_t, .inr (4, [.ref A_t_opening, .ref A_t_board, .ref A_t_trialOpening, .ref A_t_trial, .ref A_t_history, .ref A_t_snapshot, .int V_t_hasSnapshot, .ref A_t_text])), (A_t_text, .inr (3, [.ref A_t_text_codes, .int V_t_text_length, .int V_t_text_armyRead, .int V_t_text_kindRead, .int V_t_text_fromRead, .int V_t_text_toRead])), (A_t_board_numbers, .inl (cI, 10, .inl V_t_board_numbers))]) S hK hP hD hS hA (c_X0_give l D cI cZ cB cJ A_t_board A_t_board_numbers A_t_board_owners A_t_board_cells _ V_t_board_cells V_t_text_armyRead V_t_text_kindRead V_t_text_fromRead V_t_text_toRead v3 f2 hq) [2, 4] [0, 1, 3] rfl rfl (by decide +kernel) (by decide +kernel) (by decide +kernel) (cwV 4 hts gX4_giveRead_X0_give rfl rfl rfl hd_X0_give ⟨Nat.le_of_ble_eq_true rfl, Nat.le_of_ble_eq_true rfl⟩) rfl rfl rfl hl.1 rfl (Nat.le_of_ble_eq_true rfl) dX4_giveRead_72 ⟨Nat.zero_le _, Nat.zero_le _⟩ (fun H locs hP hD hS => ?_)
    replace hP : va_P D vwCl [(A_t, .inr (4, [.ref A_t_opening, .ref A_t_board, .ref A_t_trialOpening, .ref A_t_trial, .ref A_t_history, .ref A_t_snapshot, .int V_t_hasSnapshot, .ref A_t_text])), (A_t_text, .inr (3, [.ref A_t_text_codes, .int V_t_text_length, .int V_t_text_armyRead, .int V_t_text_kindRead, .int V_t_text_fromRead, .int V_t_text_toRead])), (A_t_board_numbers, .inl (cI, 10, .inl V_t_board_numbers)), (A_t_board, .inr (0, [.ref A_t_board_numbers, .ref A_t_board_owners, .ref A_t_board_cells])), (A_t_board_cells, .inl (cI, 63, .inl f2))] H := hP
    replace hD : va_D A [(A_t, .inr (4, [.ref A_t_opening, .ref A_t_board, .ref A_t_trialOpening, .ref A_t_trial, .ref A_t_history, .ref A_t_snapshot, .int V_t_hasSnapshot, .ref A_t_text])), (A_t_text, .inr (3, [.ref A_t_text_codes, .int V_t_text_length, .int V_t_text_armyRead, .int V_t_text_kindRead, .int V_t_text_fromRead, .int V_t_text_toRead])), (A_t_board_numbers, .inl (cI, 10, .inl V_t_board_numbers)), (A_t_board, .inr (0, [.ref A_t_board_numbers, .ref A_t_board_owners, .ref A_t_board_cells])), (A_t_board_cells, .inl (cI, 63, .inl f2))] := hD
    refine lv_pop hx hb dX4_giveRead_75 rfl ?_
    refine lv_iconst (v := 1) hx hb dX4_giveRead_76 (by decide) ?_
    cases hg
    exact fin _ _ _ _ bo_1 dX4_giveRead_77 (hP.sub [0, 1, 3, 2, 4] rfl) (hD.sub [0, 1, 3, 2, 4] (by decide) rfl) hS
  · replace hg := if_yes hg hc
    refine lv_iconst (v := 0) hx hb dX4_giveRead_38 (by decide) ?_
    cases hg
    exact fin _ _ _ _ bo_0 dX4_giveRead_39 hP hD hS
theorem hd_X4_giveAll : yX4_giveAll.cls = RX4 ∧ yX4_giveAll.cls ≠ "java/lang/invoke/MethodHandle" ∧ yX4_giveAll.cls ≠ "java/lang/invoke/VarHandle" ∧ (parseMethodDescriptor yX4_giveAll.desc).map (fun d => d.parameters.length) = some 0 := by decide +kernel
theorem in_X4_giveAll_X4 : ∀ w ∈ u_ws RX4 TX4 8, w ∈ wsX4_giveAll := fun _ h => List.mem_cons_of_mem _ (List.mem_append_left _ (List.mem_append_left _ (List.mem_append_right _ h)))
theorem wd_X4_giveAll_1 : Cond.fieldLink RX4 47 "FogOrders" "text" "LFogOrders$OrderText;" ∈ wsX4_giveAll := List.mem_of_getElem? (i := 1) rfl
abbrev rX4_giveAll : Room := { frames := 4, cells := 0, slots := 0, locals := 86 }
set_option maxHeartbeats 4000000 in
set_option maxRecDepth 100000 in
theorem c_X4_giveAll (l : Launch) (D : va_G) (cI cZ cB cJ : ClassId) (A_t : Nat) (A_t_opening : Nat) (A_t_board : Nat) (A_t_trialOpening : Nat) (A_t_trial : Nat) (A_t_history : Nat) (A_t_snapshot : Nat) (A_t_text : Nat) (A_t_text_codes : Nat) (A_t_board_numbers : Nat) (A_t_board_owners : Nat) (A_t_board_cells : Nat) (sz : Nat) (V_t_hasSnapshot : Int32) (V_t_text_length : Int32) (V_t_text_armyRead : Int32) (V_t_text_kindRead : Int32) (V_t_text_fromRead : Int32) (V_t_text_toRead : Int32) (V_t_text_codes : Nat → Int32) (V_t_board_numbers : Nat → Int32) (V_t_board_cells : Nat → Int32) (r0 : Int32) (w1 : Int32) (w2 : Int32) (w3 : Int32) (w4 : Int32) (w5 : Nat → Int32) (hg : g_X4_giveAll V_t_text_length V_t_text_armyRead V_t_text_kindRead V_t_text_fromRead V_t_text_toRead V_t_text_codes V_t_board_numbers V_t_board_cells = some (r0, w1, w2, w3, w4, w5)) : Met l yX4_giveAll wsX4_giveAll rX4_giveAll (PcW D cI cZ cB cJ sz [(A_t, .inr (4, [.ref A_t_opening, .ref A_t_board, .ref A_t_trialOpening, .ref A_t_trial, .ref A_t_history, .ref A_t_snapshot, .int V_t_hasSnapshot, .ref A_t_text])), (A_t_text, .inr (3, [.ref A_t_text_codes, .int V_t_text_length, .int V_t_text_armyRead, .int V_t_text_kindRead, .int V_t_text_fromRead, .int V_t_text_toRead])), (A_t_text_codes, .inl (cI, 60, .inl V_t_text_codes)), (A_t_board, .inr (0, [.ref A_t_board_numbers, .ref A_t_board_owners, .ref A_t_board_cells])), (A_t_board_numbers, .inl (cI, 10, .inl V_t_board_numbers)), (A_t_board_cells, .inl (cI, 63, .inl V_t_board_cells))] [.ref A_t]) (QWi D cI cZ cB cJ sz [(A_t, .inr (4, [.ref A_t_opening, .ref A_t_board, .ref A_t_trialOpening, .ref A_t_trial, .ref A_t_history, .ref A_t_snapshot, .int V_t_hasSnapshot, .ref A_t_text])), (A_t_text, .inr (3, [.ref A_t_text_codes, .int V_t_text_length, .int V_t_text_armyRead, .int V_t_text_kindRead, .int V_t_text_fromRead, .int V_t_text_toRead])), (A_t_text_codes, .inl (cI, 60, .inl V_t_text_codes)), (A_t_board, .inr (0, [.ref A_t_board_numbers, .ref A_t_board_owners, .ref A_t_board_cells])), (A_t_board_numbers, .inl (cI, 10, .inl V_t_board_numbers)), (A_t_board_cells, .inl (cI, 63, .inl V_t_board_cells))] [(A_t, .inr (4, [.ref A_t_opening, .ref A_t_board, .ref A_t_trialOpening, .ref A_t_trial, .ref A_t_history, .ref A_t_snapshot, .int V_t_hasSnapshot, .ref A_t_text])), (A_t_text, .inr (3, [.ref A_t_text_codes, .int V_t_text_length, .int w1, .int w2, .int w3, .int w4])), (A_t_text_codes, .inl (cI, 60, .inl V_t_text_codes)), (A_t_board, .inr (0, [.ref A_t_board_numbers, .ref A_t_board_owners, .ref A_t_board_cells])), (A_t_board_numbers, .inl (cI, 10, .inl V_t_board_numbers)), (A_t_board_cells, .inl (cI, 63, .inl w5))] r0) 0 0 (va_A [(A_t, .inr (4, [.ref A_t_opening, .ref A_t_board, .ref A_t_trialOpening, .ref A_t_trial, .ref A_t_history, .ref A_t_snapshot, .int V_t_hasSnapshot, .ref A_t_text])), (A_t_text, .inr (3, [.ref A_t_text_codes, .int V_t_text_length, .int V_t_text_armyRead, .int V_t_text_kindRead, .int V_t_text_fromRead, .int V_t_text_toRead])), (A_t_text_codes, .inl (cI, 60, .inl V_t_text_codes)), (A_t_board, .inr (0, [.ref A_t_board_numbers, .ref A_t_board_owners, .ref A_t_board_cells])), (A_t_board_numbers, .inl (cI, 10, .inl V_t_board_numbers)), (A_t_board_cells, .inl (cI, 63, .inl V_t_board_cells))] sz) := by
  refine bodyWi (cc := cX4_giveAll) (maxL := 3) (lv := [(0, .ref A_t)]) (by decide) rfl (Nat.le_of_ble_eq_true rfl) rfl ?_
  intro p e s m args below meth c Q hx hb hml hown hts A hP hK hD hA hS fin ls hl
  replace hown : s.vm.findClass RX4 = some m.cls := hown
  have S : CallFix p m c cX4_giveAll 3 s args wsX4_giveAll RX4 := ⟨hx, hb, hml, hown, hts⟩
  unfold g_X4_giveAll at hg
  refine lv_iconst (v := 0) hx hb dX4_giveAll_0 (by decide) ?_
  refine lv_istore_n (lv' := [(1, .int 0), (0, .ref A_t)]) hx hb dX4_giveAll_1 rfl hl (by decide) rfl (fun ls hl => ?_)
  refine lv_iconst (v := 0) hx hb dX4_giveAll_2 (by decide) ?_
  refine lv_istore_n (lv' := [(2, .int 0), (1, .int 0), (0, .ref A_t)]) hx hb dX4_giveAll_3 rfl hl (by decide) rfl (fun ls hl => ?_)
  obtain ⟨v16, f17, v18, v19, v20, v21, hL, hg⟩ := b6_ex hg
  have kx : ∀ (H : Heap) (locs : List Loc), va_P D vwCl [(A_t, .inr (4, [.ref A_t_opening, .ref A_t_board, .ref A_t_trialOpening, .ref A_t_trial, .ref A_t_history, .ref A_t_snapshot, .int V_t_hasSnapshot, .ref A_t_text])), (A_t_text, .inr (3, [.ref A_t_text_codes, .int V_t_text_length, .int v18, .int v20, .int v19, .int v21])), (A_t_text_codes, .inl (cI, 60, .inl V_t_text_codes)), (A_t_board, .inr (0, [.ref A_t_board_numbers, .ref A_t_board_owners, .ref A_t_board_cells])), (A_t_board_numbers, .inl (cI, 10, .inl V_t_board_numbers)), (A_t_board_cells, .inl (cI, 63, .inl f17))] H → va_D A [(A_t, .inr (4, [.ref A_t_opening, .ref A_t_board, .ref A_t_trialOpening, .ref A_t_trial, .ref A_t_history, .ref A_t_snapshot, .int V_t_hasSnapshot, .ref A_t_text])), (A_t_text, .inr (3, [.ref A_t_text_codes, .int V_t_text_length, .int v18, .int v20, .int v19, .int v21])), (A_t_text_codes, .inl (cI, 60, .inl V_t_text_codes)), (A_t_board, .inr (0, [.ref A_t_board_numbers, .ref A_t_board_owners, .ref A_t_board_cells])), (A_t_board_numbers, .inl (cI, 10, .inl V_t_board_numbers)), (A_t_board_cells, .inl (cI, 63, .inl f17))] → va_S A s.heap H locs → ∀ ls : Array Slot, lv_has ls 3 [(1, .int v16)] → W p l e rX4_giveAll s m args below meth c H locs 0 0 Q (F0 m 50 ls []) := by
    intro H locs hP hD hS ls hl
    refine lv_iload_n hx hb dX4_giveAll_50 rfl (lv_at hl 0 rfl) ?_
    cases hg
    exact fin _ _ _ _ dX4_giveAll_51 hP hD hS
  have L : ∀ (nf : Nat) (v1 : Int32) (v2 : Int32) (f3 : Nat → Int32) (v4 : Int32) (v5 : Int32) (v6 : Int32) (v7 : Int32), ∀ (H : Heap) (locs : List Loc), va_P D vwCl [(A_t, .inr (4, [.ref A_t_opening, .ref A_t_board, .ref A_t_trialOpening, .ref A_t_trial, .ref A_t_history, .ref A_t_snapshot, .int V_t_hasSnapshot, .ref A_t_text])), (A_t_text, .inr (3, [.ref A_t_text_codes, .int V_t_text_length, .int v4, .int v6, .int v5, .int v7])), (A_t_text_codes, .inl (cI, 60, .inl V_t_text_codes)), (A_t_board, .inr (0, [.ref A_t_board_numbers, .ref A_t_board_owners, .ref A_t_board_cells])), (A_t_board_numbers, .inl (cI, 10, .inl V_t_board_numbers)), (A_t_board_cells, .inl (cI, 63, .inl f3))] H → va_D A [(A_t, .inr (4, [.ref A_t_opening, .ref A_t_board, .ref A_t_trialOpening, .ref A_t_trial, .ref A_t_history, .ref A_t_snapshot, .int V_t_hasSnapshot, .ref A_t_text])), (A_t_text, .inr (3, [.ref A_t_text_codes, .int V_t_text_length, .int v4, .int v6, .int v5, .int v7])), (A_t_text_codes, .inl (cI, 60, .inl V_t_text_codes)), (A_t_board, .inr (0, [.ref A_t_board_numbers, .ref A_t_board_owners, .ref A_t_board_cells])), (A_t_board_numbers, .inl (cI, 10, .inl V_t_board_numbers)), (A_t_board_cells, .inl (cI, 63, .inl f3))] → va_S A s.heap H locs → ∀ ls : Array Slot, lv_has ls 3 [(2, .int v2), (1, .int v1), (0, .ref A_t)] → g_X4_giveAll_L1 V_t_text_length V_t_text_codes V_t_board_numbers nf v1 v2 f3 v4 v5 v6 v7 = some (v16, f17, v18, v19, v20, v21) → W p l e rX4_giveAll s m args below meth c H locs 0 0 Q (F0 m 4 ls []) := by
    intro nf
    induction nf with
    | zero =>
      intro v1 v2 f3 v4 v5 v6 v7 H locs hP hD hS ls hl hg
      exact no_some hg
    | succ nf ih =>
      intro v1 v2 f3 v4 v5 v6 v7 H locs hP hD hS ls hl hg
      rw [g_X4_giveAll_L1] at hg
      refine lv_iload_n hx hb dX4_giveAll_4 rfl (lv_at hl 0 rfl) ?_
      refine lv_aload_n hx hb dX4_giveAll_5 rfl (lv_at hl 2 rfl) ?_
      refine xget (ci := 4) (C := RX4) (T := TX4) (N := 8) (v := .ref A_t_text) hx hb hts in_X4_giveAll_X4 hown hK hP 0 rfl rfl 7 (by decide) wd_X4_giveAll_1 rfl dX4_giveAll_6 ?_
      obtain ⟨v8, hq, hg⟩ := bind_ex hg
      refine callRVi (As := []) (rest := [.int v2]) S hK hP (c_X3_size l D cI cZ cB cJ A_t_text A_t_text_codes V_t_text_length v4 v6 v5 v7 v8 hq) [1] rfl (cwV 0 hts gX4_giveAll_X3_size rfl rfl rfl hd_X3_size ⟨Nat.le_of_ble_eq_true rfl, Nat.le_of_ble_eq_true rfl⟩) rfl rfl rfl hl.1 rfl (Nat.le_of_ble_eq_true rfl) dX4_giveAll_9 ⟨Nat.zero_le _, Nat.zero_le _⟩ ?_
      refine lv_icmp_ge (tgt := 50) hx hb dX4_giveAll_12 (by decide) (fun hc => ?_) (fun hc => ?_)
      · replace hg := if_yes hg hc
        cases hg
        exact kx _ _ hP hD hS _ (lv_sub hl [1] rfl)
      · replace hg := if_no hg hc
        refine lv_aload_n hx hb dX4_giveAll_15 rfl (lv_at hl 2 rfl) ?_
        refine xget (ci := 4) (C := RX4) (T := TX4) (N := 8) (v := .ref A_t_text) hx hb hts in_X4_giveAll_X4 hown hK hP 0 rfl rfl 7 (by decide) wd_X4_giveAll_1 rfl dX4_giveAll_16 ?_
        refine lv_iload_n hx hb dX4_giveAll_19 rfl (lv_at hl 0 rfl) ?_
        obtain ⟨v9, v10, v11, v12, hq, hg⟩ := b4_ex hg
        refine callWVv (As := [.int v2]) (rest := []) (wr := [(A_t, .inr (4, [.ref A_t_opening, .ref A_t_board, .ref A_t_trialOpening, .ref A_t_trial, .ref A_t_history, .ref A_t_snapshot, .int V_t_hasSnapshot, .ref A_t_text])), (A_t_board, .inr (0, [.ref A_t_board_numbers, .ref A_t_board_owners, .ref A_t_board_cells])), (A_t_board_numbers, .inl (cI, 10, .inl V_t_board_numbers)), (A_t_board_cells, .inl (cI, 63, .inl f3))]) S hK hP hD hS hA (c_X3_read l D cI cZ cB cJ A_t_text A_t_text_codes _ V_t_text_length v4 v6 v5 v7 V_t_text_codes v2 v9 v10 v11 v12 hq) [1, 2] [0, 3, 4, 5] rfl rfl (by decide +kernel) (by decide +kernel) (by decide +kernel) (cwV 1 hts gX4_giveAll_X3_read rfl rfl rfl hd_X3_read ⟨Nat.le_of_ble_eq_true rfl, Nat.le_of_ble_eq_true rfl⟩) rfl rfl rfl hl.1 rfl (Nat.le_of_ble_eq_true rfl) dX4_giveAll_20 ⟨Nat.zero_le _, Nat.zero_le _⟩ (fun H locs hP hD hS => ?_)
        replace hP : va_P D vwCl [(A_t, .inr (4, [.ref A_t_opening, .ref A_t_board, .ref A_t_trialOpening, .ref A_t_trial, .ref A_t_history, .ref A_t_snapshot, .int V_t_hasSnapshot, .ref A_t_text])), (A_t_board, .inr (0, [.ref A_t_board_numbers, .ref A_t_board_owners, .ref A_t_board_cells])), (A_t_board_numbers, .inl (cI, 10, .inl V_t_board_numbers)), (A_t_board_cells, .inl (cI, 63, .inl f3)), (A_t_text, .inr (3, [.ref A_t_text_codes, .int V_t_text_length, .int v9, .int v10, .int v11, .int v12])), (A_t_text_codes, .inl (cI, 60, .inl V_t_text_codes))] H := hP
        replace hD : va_D A [(A_t, .inr (4, [.ref A_t_opening, .ref A_t_board, .ref A_t_trialOpening, .ref A_t_trial, .ref A_t_history, .ref A_t_snapshot, .int V_t_hasSnapshot, .ref A_t_text])), (A_t_board, .inr (0, [.ref A_t_board_numbers, .ref A_t_board_owners, .ref A_t_board_cells])), (A_t_board_numbers, .inl (cI, 10, .inl V_t_board_numbers)), (A_t_board_cells, .inl (cI, 63, .inl f3)), (A_t_text, .inr (3, [.ref A_t_text_codes, .int V_t_text_length, .int v9, .int v10, .int v11, .int v12])), (A_t_text_codes, .inl (cI, 60, .inl V_t_text_codes))] := hD
        refine lv_aload_n hx hb dX4_giveAll_23 rfl (lv_at hl 2 rfl) ?_
        refine xget (ci := 4) (C := RX4) (T := TX4) (N := 8) (v := .ref A_t_text) hx hb hts in_X4_giveAll_X4 hown hK hP 0 rfl rfl 7 (by decide) wd_X4_giveAll_1 rfl dX4_giveAll_24 ?_
        refine lv_iload_n hx hb dX4_giveAll_27 rfl (lv_at hl 0 rfl) ?_
        obtain ⟨v13, hq, hg⟩ := bind_ex hg
        refine callRVz (As := [.int v2]) (rest := []) S hK hP (c_X3_endsPart l D cI cZ cB cJ A_t_text A_t_text_codes V_t_text_length v9 v10 v11 v12 V_t_text_codes v2 v13 hq) [4, 5] rfl (cwV 1 hts gX4_giveAll_X3_endsPart rfl rfl rfl hd_X3_endsPart ⟨Nat.le_of_ble_eq_true rfl, Nat.le_of_ble_eq_true rfl⟩) rfl rfl rfl hl.1 rfl (Nat.le_of_ble_eq_true rfl) dX4_giveAll_28 ⟨Nat.zero_le _, Nat.zero_le _⟩ (fun hz_v13 => ?_)
        refine lv_if_eq (tgt := 44) hx hb dX4_giveAll_31 (by decide) (fun hc => ?_) (fun hc => ?_)
        · replace hg := if_yes hg hc
          refine lv_iinc (v := (v2 + 1)) (lv' := [(2, .int (v2 + 1)), (1, .int v1), (0, .ref A_t)]) hx hb dX4_giveAll_44 hl (k := 0) rfl rfl (by decide) rfl (fun ls hl => ?_)
          refine lv_goto (tgt := 4) hx hb dX4_giveAll_47 (by decide) ?_
          exact ih _ _ _ _ _ _ _ _ _ (hP.sub [0, 4, 5, 1, 2, 3] rfl) (hD.sub [0, 4, 5, 1, 2, 3] (by decide) rfl) hS _ (lv_sub hl [0, 1, 2] rfl) hg
        · replace hg := if_no hg hc
          refine lv_aload_n hx hb dX4_giveAll_34 rfl (lv_at hl 2 rfl) ?_
          obtain ⟨v15, f14, hq, hg⟩ := b2_ex hg
          refine callWVz (As := []) (rest := []) (wr := [(A_t_text_codes, .inl (cI, 60, .inl V_t_text_codes))]) S hK hP hD hS hA (c_X4_giveRead l D cI cZ cB cJ A_t A_t_opening A_t_board A_t_trialOpening A_t_trial A_t_history A_t_snapshot A_t_text A_t_text_codes A_t_board_numbers A_t_board_owners A_t_board_cells _ V_t_hasSnapshot V_t_text_length v9 v10 v11 v12 V_t_board_numbers f3 v15 f14 hq) [0, 4, 1, 2, 3] [5] rfl rfl (by decide +kernel) (by decide +kernel) (by decide +kernel) (cwV 0 hts gX4_giveAll_X4_giveRead rfl rfl rfl hd_X4_giveRead ⟨Nat.le_of_ble_eq_true rfl, Nat.le_of_ble_eq_true rfl⟩) rfl rfl rfl hl.1 rfl (Nat.le_of_ble_eq_true rfl) dX4_giveAll_35 ⟨Nat.zero_le _, Nat.zero_le _⟩ (fun hz_v15 H locs hP hD hS => ?_)
          replace hP : va_P D vwCl [(A_t_text_codes, .inl (cI, 60, .inl V_t_text_codes)), (A_t, .inr (4, [.ref A_t_opening, .ref A_t_board, .ref A_t_trialOpening, .ref A_t_trial, .ref A_t_history, .ref A_t_snapshot, .int V_t_hasSnapshot, .ref A_t_text])), (A_t_text, .inr (3, [.ref A_t_text_codes, .int V_t_text_length, .int v9, .int v10, .int v11, .int v12])), (A_t_board, .inr (0, [.ref A_t_board_numbers, .ref A_t_board_owners, .ref A_t_board_cells])), (A_t_board_numbers, .inl (cI, 10, .inl V_t_board_numbers)), (A_t_board_cells, .inl (cI, 63, .inl f14))] H := hP
          replace hD : va_D A [(A_t_text_codes, .inl (cI, 60, .inl V_t_text_codes)), (A_t, .inr (4, [.ref A_t_opening, .ref A_t_board, .ref A_t_trialOpening, .ref A_t_trial, .ref A_t_history, .ref A_t_snapshot, .int V_t_hasSnapshot, .ref A_t_text])), (A_t_text, .inr (3, [.ref A_t_text_codes, .int V_t_text_length, .int v9, .int v10, .int v11, .int v12])), (A_t_board, .inr (0, [.ref A_t_board_numbers, .ref A_t_board_owners, .ref A_t_board_cells])), (A_t_board_numbers, .inl (cI, 10, .inl V_t_board_numbers)), (A_t_board_cells, .inl (cI, 63, .inl f14))] := hD
          refine lv_if_eq (tgt := 44) hx hb dX4_giveAll_38 (by decide) (fun hc => ?_) (fun hc => ?_)
          · replace hg := if_yes hg hc
            refine lv_iinc (v := (v2 + 1)) (lv' := [(2, .int (v2 + 1)), (1, .int v1), (0, .ref A_t)]) hx hb dX4_giveAll_44 hl (k := 0) rfl rfl (by decide) rfl (fun ls hl => ?_)
            refine lv_goto (tgt := 4) hx hb dX4_giveAll_47 (by decide) ?_
            exact ih _ _ _ _ _ _ _ _ _ (hP.sub [1, 2, 0, 3, 4, 5] rfl) (hD.sub [1, 2, 0, 3, 4, 5] (by decide) rfl) hS _ (lv_sub hl [0, 1, 2] rfl) hg
          · replace hg := if_no hg hc
            refine lv_iinc (v := (v1 + 1)) (lv' := [(1, .int (v1 + 1)), (2, .int v2), (0, .ref A_t)]) hx hb dX4_giveAll_41 hl (k := 1) rfl rfl (by decide) rfl (fun ls hl => ?_)
            refine lv_iinc (v := (v2 + 1)) (lv' := [(2, .int (v2 + 1)), (1, .int (v1 + 1)), (0, .ref A_t)]) hx hb dX4_giveAll_44 hl (k := 1) rfl rfl (by decide) rfl (fun ls hl => ?_)
            refine lv_goto (tgt := 4) hx hb dX4_giveAll_47 (by decide) ?_
            exact ih _ _ _ _ _ _ _ _ _ (hP.sub [1, 2, 0, 3, 4, 5] rfl) (hD.sub [1, 2, 0, 3, 4, 5] (by decide) rfl) hS _ (lv_sub hl [0, 1, 2] rfl) hg
  exact L FU _ _ _ _ _ _ _ _ _ hP hD hS _ (lv_sub hl [0, 1, 2] rfl) hL
theorem hd_X4_keep : yX4_keep.cls = RX4 ∧ yX4_keep.cls ≠ "java/lang/invoke/MethodHandle" ∧ yX4_keep.cls ≠ "java/lang/invoke/VarHandle" ∧ (parseMethodDescriptor yX4_keep.desc).map (fun d => d.parameters.length) = some 0 := by decide +kernel
theorem in_X4_keep_X4 : ∀ w ∈ u_ws RX4 TX4 8, w ∈ wsX4_keep := fun _ h => List.mem_cons_of_mem _ (List.mem_append_left _ (List.mem_append_right _ h))
theorem wd_X4_keep_1 : Cond.fieldLink RX4 37 "FogOrders" "snapshot" "LFogOrders$Board;" ∈ wsX4_keep := List.mem_of_getElem? (i := 1) rfl
theorem wd_X4_keep_2 : Cond.fieldLink RX4 20 "FogOrders" "board" "LFogOrders$Board;" ∈ wsX4_keep := List.mem_of_getElem? (i := 2) rfl
theorem wd_X4_keep_3 : Cond.fieldLink RX4 40 "FogOrders" "hasSnapshot" "Z" ∈ wsX4_keep := List.mem_of_getElem? (i := 3) rfl
abbrev rX4_keep : Room := { frames := 2, cells := 0, slots := 0, locals := 81 }
set_option maxHeartbeats 4000000 in
set_option maxRecDepth 100000 in
theorem c_X4_keep (l : Launch) (D : va_G) (cI cZ cB cJ : ClassId) (A_t : Nat) (A_t_opening : Nat) (A_t_board : Nat) (A_t_trialOpening : Nat) (A_t_trial : Nat) (A_t_history : Nat) (A_t_snapshot : Nat) (A_t_text : Nat) (A_t_snapshot_numbers : Nat) (A_t_snapshot_owners : Nat) (A_t_snapshot_cells : Nat) (A_t_board_numbers : Nat) (A_t_board_owners : Nat) (A_t_board_cells : Nat) (sz : Nat) (V_t_hasSnapshot : Int32) (V_t_board_numbers : Nat → Int32) (V_t_snapshot_numbers : Nat → Int32) (V_t_board_owners : Nat → Int32) (V_t_snapshot_owners : Nat → Int32) (V_t_board_cells : Nat → Int32) (V_t_snapshot_cells : Nat → Int32) (r0 : Int32) (w1 : Int32) (w2 : Nat → Int32) (w3 : Nat → Int32) (w4 : Nat → Int32) (hg : g_X4_keep V_t_hasSnapshot V_t_board_numbers V_t_snapshot_numbers V_t_board_owners V_t_snapshot_owners V_t_board_cells V_t_snapshot_cells = some (r0, w1, w2, w3, w4)) : Met l yX4_keep wsX4_keep rX4_keep (PcW D cI cZ cB cJ sz [(A_t, .inr (4, [.ref A_t_opening, .ref A_t_board, .ref A_t_trialOpening, .ref A_t_trial, .ref A_t_history, .ref A_t_snapshot, .int V_t_hasSnapshot, .ref A_t_text])), (A_t_snapshot, .inr (0, [.ref A_t_snapshot_numbers, .ref A_t_snapshot_owners, .ref A_t_snapshot_cells])), (A_t_board, .inr (0, [.ref A_t_board_numbers, .ref A_t_board_owners, .ref A_t_board_cells])), (A_t_board_numbers, .inl (cI, 10, .inl V_t_board_numbers)), (A_t_snapshot_numbers, .inl (cI, 10, .inl V_t_snapshot_numbers)), (A_t_board_owners, .inl (cI, 12, .inl V_t_board_owners)), (A_t_snapshot_owners, .inl (cI, 12, .inl V_t_snapshot_owners)), (A_t_board_cells, .inl (cI, 63, .inl V_t_board_cells)), (A_t_snapshot_cells, .inl (cI, 63, .inl V_t_snapshot_cells))] [.ref A_t]) (QWi D cI cZ cB cJ sz [(A_t, .inr (4, [.ref A_t_opening, .ref A_t_board, .ref A_t_trialOpening, .ref A_t_trial, .ref A_t_history, .ref A_t_snapshot, .int V_t_hasSnapshot, .ref A_t_text])), (A_t_snapshot, .inr (0, [.ref A_t_snapshot_numbers, .ref A_t_snapshot_owners, .ref A_t_snapshot_cells])), (A_t_board, .inr (0, [.ref A_t_board_numbers, .ref A_t_board_owners, .ref A_t_board_cells])), (A_t_board_numbers, .inl (cI, 10, .inl V_t_board_numbers)), (A_t_snapshot_numbers, .inl (cI, 10, .inl V_t_snapshot_numbers)), (A_t_board_owners, .inl (cI, 12, .inl V_t_board_owners)), (A_t_snapshot_owners, .inl (cI, 12, .inl V_t_snapshot_owners)), (A_t_board_cells, .inl (cI, 63, .inl V_t_board_cells)), (A_t_snapshot_cells, .inl (cI, 63, .inl V_t_snapshot_cells))] [(A_t, .inr (4, [.ref A_t_opening, .ref A_t_board, .ref A_t_trialOpening, .ref A_t_trial, .ref A_t_history, .ref A_t_snapshot, .int w1, .ref A_t_text])), (A_t_snapshot, .inr (0, [.ref A_t_snapshot_numbers, .ref A_t_snapshot_owners, .ref A_t_snapshot_cells])), (A_t_board, .inr (0, [.ref A_t_board_numbers, .ref A_t_board_owners, .ref A_t_board_cells])), (A_t_board_numbers, .inl (cI, 10, .inl V_t_board_numbers)), (A_t_snapshot_numbers, .inl (cI, 10, .inl w2)), (A_t_board_owners, .inl (cI, 12, .inl V_t_board_owners)), (A_t_snapshot_owners, .inl (cI, 12, .inl w3)), (A_t_board_cells, .inl (cI, 63, .inl V_t_board_cells)), (A_t_snapshot_cells, .inl (cI, 63, .inl w4))] r0) 0 0 (va_A [(A_t, .inr (4, [.ref A_t_opening, .ref A_t_board, .ref A_t_trialOpening, .ref A_t_trial, .ref A_t_history, .ref A_t_snapshot, .int V_t_hasSnapshot, .ref A_t_text])), (A_t_snapshot, .inr (0, [.ref A_t_snapshot_numbers, .ref A_t_snapshot_owners, .ref A_t_snapshot_cells])), (A_t_board, .inr (0, [.ref A_t_board_numbers, .ref A_t_board_owners, .ref A_t_board_cells])), (A_t_board_numbers, .inl (cI, 10, .inl V_t_board_numbers)), (A_t_snapshot_numbers, .inl (cI, 10, .inl V_t_snapshot_numbers)), (A_t_board_owners, .inl (cI, 12, .inl V_t_board_owners)), (A_t_snapshot_owners, .inl (cI, 12, .inl V_t_snapshot_owners)), (A_t_board_cells, .inl (cI, 63, .inl V_t_board_cells)), (A_t_snapshot_cells, .inl (cI, 63, .inl V_t_snapshot_cells))] sz) := by
  refine bodyWi (cc := cX4_keep) (maxL := 1) (lv := [(0, .ref A_t)]) (by decide) rfl (Nat.le_of_ble_eq_true rfl) rfl ?_
  intro p e s m args below meth c Q hx hb hml hown hts A hP hK hD hA hS fin ls hl
  replace hown : s.vm.findClass RX4 = some m.cls := hown
  have S : CallFix p m c cX4_keep 1 s args wsX4_keep RX4 := ⟨hx, hb, hml, hown, hts⟩
  unfold g_X4_keep at hg
  refine lv_aload_n hx hb dX4_keep_0 rfl (lv_at hl 0 rfl) ?_
  refine xget (ci := 4) (C := RX4) (T := TX4) (N := 8) (v := .ref A_t_snapshot) hx hb hts in_X4_keep_X4 hown hK hP 0 rfl rfl 5 (by decide) wd_X4_keep_1 rfl dX4_keep_1 ?_
  refine lv_aload_n hx hb dX4_keep_4 rfl (lv_at hl 0 rfl) ?_
  refine xget (ci := 4) (C := RX4) (T := TX4) (N := 8) (v := .ref A_t_board) hx hb hts in_X4_keep_X4 hown hK hP 0 rfl rfl 1 (by decide) wd_X4_keep_2 rfl dX4_keep_5 ?_
  obtain ⟨f1, f2, f3, hq, hg⟩ := b3_ex hg
  refine callWVv (As := [.ref A_t_board]) (rest := []) (wr := [(A_t, .inr (4, [.ref A_t_opening, .ref A_t_board, .ref A_t_trialOpening, .ref A_t_trial, .ref A_t_history, .ref A_t_snapshot, .int V_t_hasSnapshot, .ref A_t_text]))]) S hK hP hD hS hA (c_X0_copyFrom l D cI cZ cB cJ A_t_snapshot A_t_snapshot_numbers A_t_snapshot_owners A_t_snapshot_cells A_t_board A_t_board_numbers A_t_board_owners A_t_board_cells _ V_t_board_numbers V_t_snapshot_numbers V_t_board_owners V_t_snapshot_owners V_t_board_cells V_t_snapshot_cells f1 f2 f3 hq) [1, 2, 3, 4, 5, 6, 7, 8] [0] rfl rfl (by decide +kernel) (by decide +kernel) (by decide +kernel) (cwV 1 hts gX4_keep_X0_copyFrom rfl rfl rfl hd_X0_copyFrom ⟨Nat.le_of_ble_eq_true rfl, Nat.le_of_ble_eq_true rfl⟩) rfl rfl rfl hl.1 rfl (Nat.le_of_ble_eq_true rfl) dX4_keep_8 ⟨Nat.zero_le _, Nat.zero_le _⟩ (fun H locs hP hD hS => ?_)
  replace hP : va_P D vwCl [(A_t, .inr (4, [.ref A_t_opening, .ref A_t_board, .ref A_t_trialOpening, .ref A_t_trial, .ref A_t_history, .ref A_t_snapshot, .int V_t_hasSnapshot, .ref A_t_text])), (A_t_snapshot, .inr (0, [.ref A_t_snapshot_numbers, .ref A_t_snapshot_owners, .ref A_t_snapshot_cells])), (A_t_board, .inr (0, [.ref A_t_board_numbers, .ref A_t_board_owners, .ref A_t_board_cells])), (A_t_board_numbers, .inl (cI, 10, .inl V_t_board_numbers)), (A_t_snapshot_numbers, .inl (cI, 10, .inl f1)), (A_t_board_owners, .inl (cI, 12, .inl V_t_board_owners)), (A_t_snapshot_owners, .inl (cI, 12, .inl f2)), (A_t_board_cells, .inl (cI, 63, .inl V_t_board_cells)), (A_t_snapshot_cells, .inl (cI, 63, .inl f3))] H := hP
  replace hD : va_D A [(A_t, .inr (4, [.ref A_t_opening, .ref A_t_board, .ref A_t_trialOpening, .ref A_t_trial, .ref A_t_history, .ref A_t_snapshot, .int V_t_hasSnapshot, .ref A_t_text])), (A_t_snapshot, .inr (0, [.ref A_t_snapshot_numbers, .ref A_t_snapshot_owners, .ref A_t_snapshot_cells])), (A_t_board, .inr (0, [.ref A_t_board_numbers, .ref A_t_board_owners, .ref A_t_board_cells])), (A_t_board_numbers, .inl (cI, 10, .inl V_t_board_numbers)), (A_t_snapshot_numbers, .inl (cI, 10, .inl f1)), (A_t_board_owners, .inl (cI, 12, .inl V_t_board_owners)), (A_t_snapshot_owners, .inl (cI, 12, .inl f2)), (A_t_board_cells, .inl (cI, 63, .inl V_t_board_cells)), (A_t_snapshot_cells, .inl (cI, 63, .inl f3))] := hD
  refine lv_aload_n hx hb dX4_keep_11 rfl (lv_at hl 0 rfl) ?_
  refine lv_iconst (v := 1) hx hb dX4_keep_12 (by decide) ?_
  refine xput (ci := 4) (C := RX4) (T := TX4) (N := 8) (ty := .boolean) (v := .int 1) (ws2 := [(A_t, .inr (4, [.ref A_t_opening, .ref A_t_board, .ref A_t_trialOpening, .ref A_t_trial, .ref A_t_history, .ref A_t_snapshot, .int 1, .ref A_t_text])), (A_t_snapshot, .inr (0, [.ref A_t_snapshot_numbers, .ref A_t_snapshot_owners, .ref A_t_snapshot_cells])), (A_t_board, .inr (0, [.ref A_t_board_numbers, .ref A_t_board_owners, .ref A_t_board_cells])), (A_t_board_numbers, .inl (cI, 10, .inl V_t_board_numbers)), (A_t_snapshot_numbers, .inl (cI, 10, .inl f1)), (A_t_board_owners, .inl (cI, 12, .inl V_t_board_owners)), (A_t_snapshot_owners, .inl (cI, 12, .inl f2)), (A_t_board_cells, .inl (cI, 63, .inl V_t_board_cells)), (A_t_snapshot_cells, .inl (cI, 63, .inl f3))]) hx hb hts in_X4_keep_X4 tyX4 tyX4_ok nmX4 hown hK hP hD hS 0 rfl rfl 6 (by decide) wd_X4_keep_3 rfl (by decide +kernel) bo_1.1 bo_1.2 (Nat.le_of_ble_eq_true rfl) rfl dX4_keep_13 (fun H locs hP hD hS => ?_)
  refine lv_aload_n hx hb dX4_keep_16 rfl (lv_at hl 0 rfl) ?_
  refine xget (ci := 4) (C := RX4) (T := TX4) (N := 8) (v := .ref A_t_board) hx hb hts in_X4_keep_X4 hown hK hP 0 rfl rfl 1 (by decide) wd_X4_keep_2 rfl dX4_keep_17 ?_
  refine lv_iconst (v := 0) hx hb dX4_keep_20 (by decide) ?_
  obtain ⟨v4, hq, hg⟩ := bind_ex hg
  refine callRVi (As := [.int 0]) (rest := []) S hK hP (c_X0_number l D cI cZ cB cJ A_t_board A_t_board_numbers A_t_board_owners A_t_board_cells V_t_board_numbers 0 v4 hq) [2, 3] rfl (cwV 1 hts gX4_keep_X0_number rfl rfl rfl hd_X0_number ⟨Nat.le_of_ble_eq_true rfl, Nat.le_of_ble_eq_true rfl⟩) rfl rfl rfl hl.1 rfl (Nat.le_of_ble_eq_true rfl) dX4_keep_21 ⟨Nat.zero_le _, Nat.zero_le _⟩ ?_
  cases hg
  exact fin _ _ _ _ dX4_keep_24 hP hD hS
theorem hd_X4_fieldNumber : yX4_fieldNumber.cls = RX4 ∧ yX4_fieldNumber.cls ≠ "java/lang/invoke/MethodHandle" ∧ yX4_fieldNumber.cls ≠ "java/lang/invoke/VarHandle" ∧ (parseMethodDescriptor yX4_fieldNumber.desc).map (fun d => d.parameters.length) = some 2 := by decide +kernel
theorem in_X4_fieldNumber_X4 : ∀ w ∈ u_ws RX4 TX4 8, w ∈ wsX4_fieldNumber := fun _ h => List.mem_cons_of_mem _ (List.mem_append_left _ (List.mem_append_right _ h))
theorem wd_X4_fieldNumber_1 : Cond.fieldLink RX4 20 "FogOrders" "board" "LFogOrders$Board;" ∈ wsX4_fieldNumber := List.mem_of_getElem? (i := 1) rfl
abbrev rX4_fieldNumber : Room := { frames := 2, cells := 0, slots := 0, locals := 47 }
set_option maxHeartbeats 4000000 in
set_option maxRecDepth 100000 in
theorem c_X4_fieldNumber (l : Launch) (D : va_G) (cI cZ cB cJ : ClassId) (A_t : Nat) (A_t_opening : Nat) (A_t_board : Nat) (A_t_trialOpening : Nat) (A_t_trial : Nat) (A_t_history : Nat) (A_t_snapshot : Nat) (A_t_text : Nat) (A_t_board_numbers : Nat) (A_t_board_owners : Nat) (A_t_board_cells : Nat) (V_t_hasSnapshot : Int32) (V_t_board_numbers : Nat → Int32) (V_t_board_cells : Nat → Int32) (V_t_board_owners : Nat → Int32) (x1 : Int32) (x2 : Int32) (r0 : Int32) (hg : g_X4_fieldNumber V_t_board_numbers V_t_board_cells V_t_board_owners x1 x2 = some r0) : Met l yX4_fieldNumber wsX4_fieldNumber rX4_fieldNumber (PcR D cI cZ cB cJ [(A_t, .inr (4, [.ref A_t_opening, .ref A_t_board, .ref A_t_trialOpening, .ref A_t_trial, .ref A_t_history, .ref A_t_snapshot, .int V_t_hasSnapshot, .ref A_t_text])), (A_t_board, .inr (0, [.ref A_t_board_numbers, .ref A_t_board_owners, .ref A_t_board_cells])), (A_t_board_numbers, .inl (cI, 10, .inl V_t_board_numbers)), (A_t_board_cells, .inl (cI, 63, .inl V_t_board_cells)), (A_t_board_owners, .inl (cI, 12, .inl V_t_board_owners))] [.ref A_t, .int x1, .int x2]) (vp_Si (fun r' => r' = r0 ∧ True)) 0 0 (fun _ => False) := by
  refine bodyRi (cc := cX4_fieldNumber) (maxL := 3) (lv := [(0, .ref A_t), (1, .int x1), (2, .int x2)]) (by decide) rfl (Nat.le_of_ble_eq_true rfl) rfl ?_
  intro p e s m args below meth c Q hx hb hml hown hts hP hK fin ls hl
  replace hown : s.vm.findClass RX4 = some m.cls := hown
  have S : CallFix p m c cX4_fieldNumber 3 s args wsX4_fieldNumber RX4 := ⟨hx, hb, hml, hown, hts⟩
  unfold g_X4_fieldNumber at hg
  refine lv_iload_n hx hb dX4_fieldNumber_0 rfl (lv_at hl 2 rfl) ?_
  by_cases hk0 : x2 = 0
  · replace hg := if_yes hg hk0
    refine lv_tableIn (off := 31) (tgt := 32) hx hb dX4_fieldNumber_1 (by rw [hk0]; decide) (by rw [hk0]; decide) (by rw [hk0]; decide) (by decide) ?_
    refine lv_aload_n hx hb dX4_fieldNumber_32 rfl (lv_at hl 0 rfl) ?_
    refine xget (ci := 4) (C := RX4) (T := TX4) (N := 8) (v := .ref A_t_board) hx hb hts in_X4_fieldNumber_X4 hown hK hP 0 rfl rfl 1 (by decide) wd_X4_fieldNumber_1 rfl dX4_fieldNumber_33 ?_
    refine lv_iload_n hx hb dX4_fieldNumber_36 rfl (lv_at hl 1 rfl) ?_
    obtain ⟨v1, hq, hg⟩ := bind_ex hg
    refine callRVi (As := [.int x1]) (rest := []) S hK hP (c_X0_armyOn l D cI cZ cB cJ A_t_board A_t_board_numbers A_t_board_owners A_t_board_cells V_t_board_numbers V_t_board_cells x1 v1 hq) [1, 2, 3] rfl (cwV 1 hts gX4_fieldNumber_X0_armyOn rfl rfl rfl hd_X0_armyOn ⟨Nat.le_of_ble_eq_true rfl, Nat.le_of_ble_eq_true rfl⟩) rfl rfl rfl hl.1 rfl (Nat.le_of_ble_eq_true rfl) dX4_fieldNumber_37 ⟨Nat.zero_le _, Nat.zero_le _⟩ ?_
    cases hg
    exact fin _ _ dX4_fieldNumber_40
  · replace hg := if_no hg hk0
    by_cases hk1 : x2 = 1
    · replace hg := if_yes hg hk1
      refine lv_tableIn (off := 40) (tgt := 41) hx hb dX4_fieldNumber_1 (by rw [hk1]; decide) (by rw [hk1]; decide) (by rw [hk1]; decide) (by decide) ?_
      refine lv_iload_n hx hb dX4_fieldNumber_41 rfl (lv_at hl 1 rfl) ?_
      obtain ⟨v2, hq, hg⟩ := bind_ex hg
      refine callRSz (As := [.int x1]) (rest := []) S hK hP (c_X4_isCentre l D cI cZ cB cJ x1 v2 hq) [] rfl (va_cwS 1 hts gX4_fieldNumber_X4_isCentre rfl rfl rfl hd_X4_isCentre ⟨Nat.le_of_ble_eq_true rfl, Nat.le_of_ble_eq_true rfl⟩) rfl hl.1 rfl (Nat.le_of_ble_eq_true rfl) dX4_fieldNumber_42 ⟨Nat.zero_le _, Nat.zero_le _⟩ (fun hz_v2 => ?_)
      refine lv_if_eq (tgt := 52) hx hb dX4_fieldNumber_45 (by decide) (fun hc => ?_) (fun hc => ?_)
      · replace hg := if_yes hg hc
        refine lv_iconst (v := 0) hx hb dX4_fieldNumber_52 (by decide) ?_
        cases hg
        exact fin _ _ dX4_fieldNumber_53
      · replace hg := if_no hg hc
        refine lv_iconst (v := 1) hx hb dX4_fieldNumber_48 (by decide) ?_
        refine lv_goto (tgt := 53) hx hb dX4_fieldNumber_49 (by decide) ?_
        cases hg
        exact fin _ _ dX4_fieldNumber_53
    · replace hg := if_no hg hk1
      by_cases hk2 : x2 = 2
      · replace hg := if_yes hg hk2
        refine lv_tableIn (off := 53) (tgt := 54) hx hb dX4_fieldNumber_1 (by rw [hk2]; decide) (by rw [hk2]; decide) (by rw [hk2]; decide) (by decide) ?_
        refine lv_aload_n hx hb dX4_fieldNumber_54 rfl (lv_at hl 0 rfl) ?_
        refine xget (ci := 4) (C := RX4) (T := TX4) (N := 8) (v := .ref A_t_board) hx hb hts in_X4_fieldNumber_X4 hown hK hP 0 rfl rfl 1 (by decide) wd_X4_fieldNumber_1 rfl dX4_fieldNumber_55 ?_
        refine lv_iload_n hx hb dX4_fieldNumber_58 rfl (lv_at hl 1 rfl) ?_
        obtain ⟨v3, hq, hg⟩ := bind_ex hg
        refine callRVi (As := [.int x1]) (rest := []) S hK hP (c_X0_owner l D cI cZ cB cJ A_t_board A_t_board_numbers A_t_board_owners A_t_board_cells V_t_board_owners x1 v3 hq) [1, 4] rfl (cwV 1 hts gX4_fieldNumber_X0_owner rfl rfl rfl hd_X0_owner ⟨Nat.le_of_ble_eq_true rfl, Nat.le_of_ble_eq_true rfl⟩) rfl rfl rfl hl.1 rfl (Nat.le_of_ble_eq_true rfl) dX4_fieldNumber_59 ⟨Nat.zero_le _, Nat.zero_le _⟩ ?_
        cases hg
        exact fin _ _ dX4_fieldNumber_62
      · replace hg := if_no hg hk2
        by_cases hk3 : x2 = 3
        · replace hg := if_yes hg hk3
          refine lv_tableIn (off := 62) (tgt := 63) hx hb dX4_fieldNumber_1 (by rw [hk3]; decide) (by rw [hk3]; decide) (by rw [hk3]; decide) (by decide) ?_
          refine lv_aload_n hx hb dX4_fieldNumber_63 rfl (lv_at hl 0 rfl) ?_
          refine xget (ci := 4) (C := RX4) (T := TX4) (N := 8) (v := .ref A_t_board) hx hb hts in_X4_fieldNumber_X4 hown hK hP 0 rfl rfl 1 (by decide) wd_X4_fieldNumber_1 rfl dX4_fieldNumber_64 ?_
          refine lv_iload_n hx hb dX4_fieldNumber_67 rfl (lv_at hl 1 rfl) ?_
          obtain ⟨v4, hq, hg⟩ := bind_ex hg
          refine callRVi (As := [.int x1]) (rest := []) S hK hP (c_X0_seatsSeeing l D cI cZ cB cJ A_t_board A_t_board_numbers A_t_board_owners A_t_board_cells V_t_board_numbers V_t_board_cells x1 v4 hq) [1, 2, 3] rfl (cwV 1 hts gX4_fieldNumber_X0_seatsSeeing rfl rfl rfl hd_X0_seatsSeeing ⟨Nat.le_of_ble_eq_true rfl, Nat.le_of_ble_eq_true rfl⟩) rfl rfl rfl hl.1 rfl (Nat.le_of_ble_eq_true rfl) dX4_fieldNumber_68 ⟨Nat.zero_le _, Nat.zero_le _⟩ ?_
          cases hg
          exact fin _ _ dX4_fieldNumber_71
        · replace hg := if_no hg hk3
          refine lv_tableOut (tgt := 72) hx hb dX4_fieldNumber_1 (sw_out (fun k h1 h2 => by rcases (show k = 0 ∨ k = 1 ∨ k = 2 ∨ k = 3 by omega) with rfl | rfl | rfl | rfl <;> first | exact hk0 | exact hk1 | exact hk2 | exact hk3)) (by decide) ?_
          refine lv_iload_n hx hb dX4_fieldNumber_72 rfl (lv_at hl 1 rfl) ?_
          obtain ⟨v5, hq, hg⟩ := bind_ex hg
          refine callRSi (As := [.int x1]) (rest := []) S hK hP (c_X4_neighbourMask l D cI cZ cB cJ x1 v5 hq) [] rfl (va_cwS 1 hts gX4_fieldNumber_X4_neighbourMask rfl rfl rfl hd_X4_neighbourMask ⟨Nat.le_of_ble_eq_true rfl, Nat.le_of_ble_eq_true rfl⟩) rfl hl.1 rfl (Nat.le_of_ble_eq_true rfl) dX4_fieldNumber_73 ⟨Nat.zero_le _, Nat.zero_le _⟩ ?_
          cases hg
          exact fin _ _ dX4_fieldNumber_76
theorem hd_X4_seatNumber : yX4_seatNumber.cls = RX4 ∧ yX4_seatNumber.cls ≠ "java/lang/invoke/MethodHandle" ∧ yX4_seatNumber.cls ≠ "java/lang/invoke/VarHandle" ∧ (parseMethodDescriptor yX4_seatNumber.desc).map (fun d => d.parameters.length) = some 2 := by decide +kernel
theorem in_X4_seatNumber_X4 : ∀ w ∈ u_ws RX4 TX4 8, w ∈ wsX4_seatNumber := fun _ h => List.mem_cons_of_mem _ (List.mem_append_left _ (List.mem_append_right _ h))
theorem wd_X4_seatNumber_1 : Cond.fieldLink RX4 20 "FogOrders" "board" "LFogOrders$Board;" ∈ wsX4_seatNumber := List.mem_of_getElem? (i := 1) rfl
abbrev rX4_seatNumber : Room := { frames := 4, cells := 0, slots := 0, locals := 92 }
set_option maxHeartbeats 4000000 in
set_option maxRecDepth 100000 in
theorem c_X4_seatNumber (l : Launch) (D : va_G) (cI cZ cB cJ : ClassId) (A_t : Nat) (A_t_opening : Nat) (A_t_board : Nat) (A_t_trialOpening : Nat) (A_t_trial : Nat) (A_t_history : Nat) (A_t_snapshot : Nat) (A_t_text : Nat) (A_t_board_numbers : Nat) (A_t_board_owners : Nat) (A_t_board_cells : Nat) (V_t_hasSnapshot : Int32) (V_t_board_numbers : Nat → Int32) (V_t_board_cells : Nat → Int32) (V_t_board_owners : Nat → Int32) (x1 : Int32) (x2 : Int32) (r0 : Int32) (hg : g_X4_seatNumber V_t_board_numbers V_t_board_cells V_t_board_owners x1 x2 = some r0) : Met l yX4_seatNumber wsX4_seatNumber rX4_seatNumber (PcR D cI cZ cB cJ [(A_t, .inr (4, [.ref A_t_opening, .ref A_t_board, .ref A_t_trialOpening, .ref A_t_trial, .ref A_t_history, .ref A_t_snapshot, .int V_t_hasSnapshot, .ref A_t_text])), (A_t_board, .inr (0, [.ref A_t_board_numbers, .ref A_t_board_owners, .ref A_t_board_cells])), (A_t_board_numbers, .inl (cI, 10, .inl V_t_board_numbers)), (A_t_board_cells, .inl (cI, 63, .inl V_t_board_cells)), (A_t_board_owners, .inl (cI, 12, .inl V_t_board_owners))] [.ref A_t, .int x1, .int x2]) (vp_Si (fun r' => r' = r0 ∧ True)) 0 0 (fun _ => False) := by
  refine bodyRi (cc := cX4_seatNumber) (maxL := 3) (lv := [(0, .ref A_t), (1, .int x1), (2, .int x2)]) (by decide) rfl (Nat.le_of_ble_eq_true rfl) rfl ?_
  intro p e s m args below meth c Q hx hb hml hown hts hP hK fin ls hl
  replace hown : s.vm.findClass RX4 = some m.cls := hown
  have S : CallFix p m c cX4_seatNumber 3 s args wsX4_seatNumber RX4 := ⟨hx, hb, hml, hown, hts⟩
  unfold g_X4_seatNumber at hg
  refine lv_iload_n hx hb dX4_seatNumber_0 rfl (lv_at hl 2 rfl) ?_
  by_cases hk0 : x2 = 0
  · replace hg := if_yes hg hk0
    refine lv_tableIn (off := 31) (tgt := 32) hx hb dX4_seatNumber_1 (by rw [hk0]; decide) (by rw [hk0]; decide) (by rw [hk0]; decide) (by decide) ?_
    refine lv_aload_n hx hb dX4_seatNumber_32 rfl (lv_at hl 0 rfl) ?_
    refine xget (ci := 4) (C := RX4) (T := TX4) (N := 8) (v := .ref A_t_board) hx hb hts in_X4_seatNumber_X4 hown hK hP 0 rfl rfl 1 (by decide) wd_X4_seatNumber_1 rfl dX4_seatNumber_33 ?_
    refine lv_iload_n hx hb dX4_seatNumber_36 rfl (lv_at hl 1 rfl) ?_
    obtain ⟨v1, hq, hg⟩ := bind_ex hg
    refine callRVi (As := [.int x1]) (rest := []) S hK hP (c_X0_armiesOf l D cI cZ cB cJ A_t_board A_t_board_numbers A_t_board_owners A_t_board_cells V_t_board_numbers V_t_board_cells x1 v1 hq) [1, 2, 3] rfl (cwV 1 hts gX4_seatNumber_X0_armiesOf rfl rfl rfl hd_X0_armiesOf ⟨Nat.le_of_ble_eq_true rfl, Nat.le_of_ble_eq_true rfl⟩) rfl rfl rfl hl.1 rfl (Nat.le_of_ble_eq_true rfl) dX4_seatNumber_37 ⟨Nat.zero_le _, Nat.zero_le _⟩ ?_
    cases hg
    exact fin _ _ dX4_seatNumber_40
  · replace hg := if_no hg hk0
    by_cases hk1 : x2 = 1
    · replace hg := if_yes hg hk1
      refine lv_tableIn (off := 40) (tgt := 41) hx hb dX4_seatNumber_1 (by rw [hk1]; decide) (by rw [hk1]; decide) (by rw [hk1]; decide) (by decide) ?_
      refine lv_aload_n hx hb dX4_seatNumber_41 rfl (lv_at hl 0 rfl) ?_
      refine xget (ci := 4) (C := RX4) (T := TX4) (N := 8) (v := .ref A_t_board) hx hb hts in_X4_seatNumber_X4 hown hK hP 0 rfl rfl 1 (by decide) wd_X4_seatNumber_1 rfl dX4_seatNumber_42 ?_
      refine lv_iload_n hx hb dX4_seatNumber_45 rfl (lv_at hl 1 rfl) ?_
      obtain ⟨v2, hq, hg⟩ := bind_ex hg
      refine callRVi (As := [.int x1]) (rest := []) S hK hP (c_X0_centresOf l D cI cZ cB cJ A_t_board A_t_board_numbers A_t_board_owners A_t_board_cells V_t_board_owners x1 v2 hq) [1, 4] rfl (cwV 1 hts gX4_seatNumber_X0_centresOf rfl rfl rfl hd_X0_centresOf ⟨Nat.le_of_ble_eq_true rfl, Nat.le_of_ble_eq_true rfl⟩) rfl rfl rfl hl.1 rfl (Nat.le_of_ble_eq_true rfl) dX4_seatNumber_46 ⟨Nat.zero_le _, Nat.zero_le _⟩ ?_
      cases hg
      exact fin _ _ dX4_seatNumber_49
    · replace hg := if_no hg hk1
      by_cases hk2 : x2 = 2
      · replace hg := if_yes hg hk2
        refine lv_tableIn (off := 49) (tgt := 50) hx hb dX4_seatNumber_1 (by rw [hk2]; decide) (by rw [hk2]; decide) (by rw [hk2]; decide) (by decide) ?_
        refine lv_aload_n hx hb dX4_seatNumber_50 rfl (lv_at hl 0 rfl) ?_
        refine xget (ci := 4) (C := RX4) (T := TX4) (N := 8) (v := .ref A_t_board) hx hb hts in_X4_seatNumber_X4 hown hK hP 0 rfl rfl 1 (by decide) wd_X4_seatNumber_1 rfl dX4_seatNumber_51 ?_
        refine lv_iload_n hx hb dX4_seatNumber_54 rfl (lv_at hl 1 rfl) ?_
        obtain ⟨v3, hq, hg⟩ := bind_ex hg
        refine callRVi (As := [.int x1]) (rest := []) S hK hP (c_X0_seenMask l D cI cZ cB cJ A_t_board A_t_board_numbers A_t_board_owners A_t_board_cells V_t_board_numbers V_t_board_cells x1 v3 hq) [1, 2, 3] rfl (cwV 1 hts gX4_seatNumber_X0_seenMask rfl rfl rfl hd_X0_seenMask ⟨Nat.le_of_ble_eq_true rfl, Nat.le_of_ble_eq_true rfl⟩) rfl rfl rfl hl.1 rfl (Nat.le_of_ble_eq_true rfl) dX4_seatNumber_55 ⟨Nat.zero_le _, Nat.zero_le _⟩ ?_
        cases hg
        exact fin _ _ dX4_seatNumber_58
      · replace hg := if_no hg hk2
        by_cases hk3 : x2 = 3
        · replace hg := if_yes hg hk3
          refine lv_tableIn (off := 58) (tgt := 59) hx hb dX4_seatNumber_1 (by rw [hk3]; decide) (by rw [hk3]; decide) (by rw [hk3]; decide) (by decide) ?_
          refine lv_aload_n hx hb dX4_seatNumber_59 rfl (lv_at hl 0 rfl) ?_
          refine xget (ci := 4) (C := RX4) (T := TX4) (N := 8) (v := .ref A_t_board) hx hb hts in_X4_seatNumber_X4 hown hK hP 0 rfl rfl 1 (by decide) wd_X4_seatNumber_1 rfl dX4_seatNumber_60 ?_
          refine lv_iload_n hx hb dX4_seatNumber_63 rfl (lv_at hl 1 rfl) ?_
          obtain ⟨v4, hq, hg⟩ := bind_ex hg
          refine callRVi (As := [.int x1]) (rest := []) S hK hP (c_X0_lowestFieldOf l D cI cZ cB cJ A_t_board A_t_board_numbers A_t_board_owners A_t_board_cells V_t_board_numbers V_t_board_cells x1 v4 hq) [1, 2, 3] rfl (cwV 1 hts gX4_seatNumber_X0_lowestFieldOf rfl rfl rfl hd_X0_lowestFieldOf ⟨Nat.le_of_ble_eq_true rfl, Nat.le_of_ble_eq_true rfl⟩) rfl rfl rfl hl.1 rfl (Nat.le_of_ble_eq_true rfl) dX4_seatNumber_64 ⟨Nat.zero_le _, Nat.zero_le _⟩ ?_
          cases hg
          exact fin _ _ dX4_seatNumber_67
        · replace hg := if_no hg hk3
          refine lv_tableOut (tgt := 68) hx hb dX4_seatNumber_1 (sw_out (fun k h1 h2 => by rcases (show k = 0 ∨ k = 1 ∨ k = 2 ∨ k = 3 by omega) with rfl | rfl | rfl | rfl <;> first | exact hk0 | exact hk1 | exact hk2 | exact hk3)) (by decide) ?_
          refine lv_aload_n hx hb dX4_seatNumber_68 rfl (lv_at hl 0 rfl) ?_
          refine xget (ci := 4) (C := RX4) (T := TX4) (N := 8) (v := .ref A_t_board) hx hb hts in_X4_seatNumber_X4 hown hK hP 0 rfl rfl 1 (by decide) wd_X4_seatNumber_1 rfl dX4_seatNumber_69 ?_
          refine lv_iload_n hx hb dX4_seatNumber_72 rfl (lv_at hl 1 rfl) ?_
          obtain ⟨v5, hq, hg⟩ := bind_ex hg
          refine callRVi (As := [.int x1]) (rest := []) S hK hP (c_X0_othersSeen l D cI cZ cB cJ A_t_board A_t_board_numbers A_t_board_owners A_t_board_cells V_t_board_numbers V_t_board_cells x1 v5 hq) [1, 2, 3] rfl (cwV 1 hts gX4_seatNumber_X0_othersSeen rfl rfl rfl hd_X0_othersSeen ⟨Nat.le_of_ble_eq_true rfl, Nat.le_of_ble_eq_true rfl⟩) rfl rfl rfl hl.1 rfl (Nat.le_of_ble_eq_true rfl) dX4_seatNumber_73 ⟨Nat.zero_le _, Nat.zero_le _⟩ ?_
          cases hg
          exact fin _ _ dX4_seatNumber_76
theorem hd_X4_countNumber : yX4_countNumber.cls = RX4 ∧ yX4_countNumber.cls ≠ "java/lang/invoke/MethodHandle" ∧ yX4_countNumber.cls ≠ "java/lang/invoke/VarHandle" ∧ (parseMethodDescriptor yX4_countNumber.desc).map (fun d => d.parameters.length) = some 1 := by decide +kernel
theorem in_X4_countNumber_X4 : ∀ w ∈ u_ws RX4 TX4 8, w ∈ wsX4_countNumber := fun _ h => List.mem_cons_of_mem _ (List.mem_append_left _ (List.mem_append_left _ (List.mem_append_right _ h)))
theorem wd_X4_countNumber_2 : Cond.fieldLink RX4 30 "FogOrders" "history" "LFogOrders$History;" ∈ wsX4_countNumber := List.mem_of_getElem? (i := 2) rfl
theorem wd_X4_countNumber_1 : Cond.fieldLink RX4 20 "FogOrders" "board" "LFogOrders$Board;" ∈ wsX4_countNumber := List.mem_of_getElem? (i := 1) rfl
abbrev rX4_countNumber : Room := { frames := 2, cells := 0, slots := 0, locals := 46 }
set_option maxHeartbeats 4000000 in
set_option maxRecDepth 100000 in
theorem c_X4_countNumber (l : Launch) (D : va_G) (cI cZ cB cJ : ClassId) (A_t : Nat) (A_t_opening : Nat) (A_t_board : Nat) (A_t_trialOpening : Nat) (A_t_trial : Nat) (A_t_history : Nat) (A_t_snapshot : Nat) (A_t_text : Nat) (A_t_history_boards : Nat) (A_t_board_numbers : Nat) (A_t_board_owners : Nat) (A_t_board_cells : Nat) (V_t_hasSnapshot : Int32) (V_t_history_oldest : Int32) (V_t_history_saved : Int32) (V_t_board_numbers : Nat → Int32) (V_t_board_cells : Nat → Int32) (x1 : Int32) (r0 : Int32) (hg : g_X4_countNumber V_t_history_saved V_t_board_numbers V_t_board_cells x1 = some r0) : Met l yX4_countNumber wsX4_countNumber rX4_countNumber (PcR D cI cZ cB cJ [(A_t, .inr (4, [.ref A_t_opening, .ref A_t_board, .ref A_t_trialOpening, .ref A_t_trial, .ref A_t_history, .ref A_t_snapshot, .int V_t_hasSnapshot, .ref A_t_text])), (A_t_history, .inr (1, [.ref A_t_history_boards, .int V_t_history_oldest, .int V_t_history_saved])), (A_t_board, .inr (0, [.ref A_t_board_numbers, .ref A_t_board_owners, .ref A_t_board_cells])), (A_t_board_numbers, .inl (cI, 10, .inl V_t_board_numbers)), (A_t_board_cells, .inl (cI, 63, .inl V_t_board_cells))] [.ref A_t, .int x1]) (vp_Si (fun r' => r' = r0 ∧ True)) 0 0 (fun _ => False) := by
  refine bodyRi (cc := cX4_countNumber) (maxL := 2) (lv := [(0, .ref A_t), (1, .int x1)]) (by decide) rfl (Nat.le_of_ble_eq_true rfl) rfl ?_
  intro p e s m args below meth c Q hx hb hml hown hts hP hK fin ls hl
  replace hown : s.vm.findClass RX4 = some m.cls := hown
  have S : CallFix p m c cX4_countNumber 2 s args wsX4_countNumber RX4 := ⟨hx, hb, hml, hown, hts⟩
  unfold g_X4_countNumber at hg
  refine lv_iload_n hx hb dX4_countNumber_0 rfl (lv_at hl 1 rfl) ?_
  refine lv_bipush (v := 10) hx hb dX4_countNumber_1 (by decide) ?_
  refine lv_icmp_ge (tgt := 15) hx hb dX4_countNumber_3 (by decide) (fun hc => ?_) (fun hc => ?_)
  · replace hg := if_yes hg hc
    refine lv_iload_n hx hb dX4_countNumber_15 rfl (lv_at hl 1 rfl) ?_
    refine lv_bipush (v := 10) hx hb dX4_countNumber_16 (by decide) ?_
    refine lv_icmp_ne (tgt := 30) hx hb dX4_countNumber_18 (by decide) (fun hc => ?_) (fun hc => ?_)
    · replace hg := if_no hg hc
      refine lv_iload_n hx hb dX4_countNumber_30 rfl (lv_at hl 1 rfl) ?_
      refine lv_bipush (v := 11) hx hb dX4_countNumber_31 (by decide) ?_
      refine lv_icmp_ne (tgt := 47) hx hb dX4_countNumber_33 (by decide) (fun hc => ?_) (fun hc => ?_)
      · replace hg := if_no hg hc
        refine lv_aload_n hx hb dX4_countNumber_47 rfl (lv_at hl 0 rfl) ?_
        refine xget (ci := 4) (C := RX4) (T := TX4) (N := 8) (v := .ref A_t_history) hx hb hts in_X4_countNumber_X4 hown hK hP 0 rfl rfl 4 (by decide) wd_X4_countNumber_2 rfl dX4_countNumber_48 ?_
        obtain ⟨v1, hq, hg⟩ := bind_ex hg
        refine callRVi (As := []) (rest := []) S hK hP (c_X1_size l D cI cZ cB cJ A_t_history A_t_history_boards V_t_history_oldest V_t_history_saved v1 hq) [1] rfl (cwV 0 hts gX4_countNumber_X1_size rfl rfl rfl hd_X1_size ⟨Nat.le_of_ble_eq_true rfl, Nat.le_of_ble_eq_true rfl⟩) rfl rfl rfl hl.1 rfl (Nat.le_of_ble_eq_true rfl) dX4_countNumber_51 ⟨Nat.zero_le _, Nat.zero_le _⟩ ?_
        cases hg
        exact fin _ _ dX4_countNumber_54
      · replace hg := if_yes hg hc
        refine lv_aload_n hx hb dX4_countNumber_36 rfl (lv_at hl 0 rfl) ?_
        refine xget (ci := 4) (C := RX4) (T := TX4) (N := 8) (v := .ref A_t_board) hx hb hts in_X4_countNumber_X4 hown hK hP 0 rfl rfl 1 (by decide) wd_X4_countNumber_1 rfl dX4_countNumber_37 ?_
        refine lv_iconst (v := 2) hx hb dX4_countNumber_40 (by decide) ?_
        obtain ⟨v2, hq, hg⟩ := bind_ex hg
        refine callRVi (As := [.int 2]) (rest := []) S hK hP (c_X0_ordersOf l D cI cZ cB cJ A_t_board A_t_board_numbers A_t_board_owners A_t_board_cells V_t_board_numbers V_t_board_cells 2 v2 hq) [2, 3, 4] rfl (cwV 1 hts gX4_countNumber_X0_ordersOf rfl rfl rfl hd_X0_ordersOf ⟨Nat.le_of_ble_eq_true rfl, Nat.le_of_ble_eq_true rfl⟩) rfl rfl rfl hl.1 rfl (Nat.le_of_ble_eq_true rfl) dX4_countNumber_41 ⟨Nat.zero_le _, Nat.zero_le _⟩ ?_
        refine lv_goto (tgt := 54) hx hb dX4_countNumber_44 (by decide) ?_
        cases hg
        exact fin _ _ dX4_countNumber_54
    · replace hg := if_yes hg hc
      refine lv_aload_n hx hb dX4_countNumber_21 rfl (lv_at hl 0 rfl) ?_
      refine xget (ci := 4) (C := RX4) (T := TX4) (N := 8) (v := .ref A_t_board) hx hb hts in_X4_countNumber_X4 hown hK hP 0 rfl rfl 1 (by decide) wd_X4_countNumber_1 rfl dX4_countNumber_22 ?_
      refine lv_iconst (v := 1) hx hb dX4_countNumber_25 (by decide) ?_
      obtain ⟨v3, hq, hg⟩ := bind_ex hg
      refine callRVi (As := [.int 1]) (rest := []) S hK hP (c_X0_ordersOf l D cI cZ cB cJ A_t_board A_t_board_numbers A_t_board_owners A_t_board_cells V_t_board_numbers V_t_board_cells 1 v3 hq) [2, 3, 4] rfl (cwV 1 hts gX4_countNumber_X0_ordersOf rfl rfl rfl hd_X0_ordersOf ⟨Nat.le_of_ble_eq_true rfl, Nat.le_of_ble_eq_true rfl⟩) rfl rfl rfl hl.1 rfl (Nat.le_of_ble_eq_true rfl) dX4_countNumber_26 ⟨Nat.zero_le _, Nat.zero_le _⟩ ?_
      cases hg
      exact fin _ _ dX4_countNumber_29
  · replace hg := if_no hg hc
    refine lv_aload_n hx hb dX4_countNumber_6 rfl (lv_at hl 0 rfl) ?_
    refine xget (ci := 4) (C := RX4) (T := TX4) (N := 8) (v := .ref A_t_board) hx hb hts in_X4_countNumber_X4 hown hK hP 0 rfl rfl 1 (by decide) wd_X4_countNumber_1 rfl dX4_countNumber_7 ?_
    refine lv_iload_n hx hb dX4_countNumber_10 rfl (lv_at hl 1 rfl) ?_
    obtain ⟨v4, hq, hg⟩ := bind_ex hg
    refine callRVi (As := [.int x1]) (rest := []) S hK hP (c_X0_number l D cI cZ cB cJ A_t_board A_t_board_numbers A_t_board_owners A_t_board_cells V_t_board_numbers x1 v4 hq) [2, 3] rfl (cwV 1 hts gX4_countNumber_X0_number rfl rfl rfl hd_X0_number ⟨Nat.le_of_ble_eq_true rfl, Nat.le_of_ble_eq_true rfl⟩) rfl rfl rfl hl.1 rfl (Nat.le_of_ble_eq_true rfl) dX4_countNumber_11 ⟨Nat.zero_le _, Nat.zero_le _⟩ ?_
    cases hg
    exact fin _ _ dX4_countNumber_14
theorem hd_X4_reachMask : yX4_reachMask.cls = RX4 ∧ yX4_reachMask.cls ≠ "java/lang/invoke/MethodHandle" ∧ yX4_reachMask.cls ≠ "java/lang/invoke/VarHandle" ∧ (parseMethodDescriptor yX4_reachMask.desc).map (fun d => d.parameters.length) = some 1 := by decide +kernel
theorem in_X4_reachMask_X4 : ∀ w ∈ u_ws RX4 TX4 8, w ∈ wsX4_reachMask := fun _ h => List.mem_cons_of_mem _ (List.mem_append_left _ (List.mem_append_left _ (List.mem_append_right _ h)))
theorem wd_X4_reachMask_1 : Cond.fieldLink RX4 24 "FogOrders" "trial" "LFogOrders$Board;" ∈ wsX4_reachMask := List.mem_of_getElem? (i := 1) rfl
theorem wd_X4_reachMask_2 : Cond.fieldLink RX4 20 "FogOrders" "board" "LFogOrders$Board;" ∈ wsX4_reachMask := List.mem_of_getElem? (i := 2) rfl
theorem wd_X4_reachMask_3 : Cond.fieldLink RX4 21 "FogOrders" "trialOpening" "LFogOrders$Opening;" ∈ wsX4_reachMask := List.mem_of_getElem? (i := 3) rfl
abbrev rX4_reachMask : Room := { frames := 5, cells := 0, slots := 0, locals := 112 }
set_option maxHeartbeats 4000000 in
set_option maxRecDepth 100000 in
theorem c_X4_reachMask (l : Launch) (D : va_G) (cI cZ cB cJ : ClassId) (A_t : Nat) (A_t_opening : Nat) (A_t_board : Nat) (A_t_trialOpening : Nat) (A_t_trial : Nat) (A_t_history : Nat) (A_t_snapshot : Nat) (A_t_text : Nat) (A_t_trial_numbers : Nat) (A_t_trial_owners : Nat) (A_t_trial_cells : Nat) (A_t_board_numbers : Nat) (A_t_board_owners : Nat) (A_t_board_cells : Nat) (A_t_trialOpening_cut : Nat) (A_t_trialOpening_counts : Nat) (A_t_trialOpening_strength : Nat) (A_t_trialOpening_reason : Nat) (A_t_trialOpening_driver : Nat) (A_t_trialOpening_waits : Nat) (A_t_trialOpening_stands : Nat) (sz : Nat) (V_t_hasSnapshot : Int32) (V_t_board_numbers : Nat → Int32) (V_t_trial_numbers : Nat → Int32) (V_t_board_owners : Nat → Int32) (V_t_trial_owners : Nat → Int32) (V_t_board_cells : Nat → Int32) (V_t_trial_cells : Nat → Int32) (V_t_trialOpening_cut : Nat → Int32) (V_t_trialOpening_counts : Nat → Int32) (V_t_trialOpening_strength : Nat → Int32) (V_t_trialOpening_reason : Nat → Int32) (x1 : Int32) (r0 : Int32) (w1 : Nat → Int32) (w2 : Nat → Int32) (w3 : Nat → Int32) (w4 : Nat → Int32) (w5 : Nat → Int32) (w6 : Nat → Int32) (w7 : Nat → Int32) (hg : g_X4_reachMask V_t_board_numbers V_t_trial_numbers V_t_board_owners V_t_trial_owners V_t_board_cells V_t_trial_cells V_t_trialOpening_cut V_t_trialOpening_counts V_t_trialOpening_strength V_t_trialOpening_reason x1 = some (r0, w1, w2, w3, w4, w5, w6, w7)) : Met l yX4_reachMask wsX4_reachMask rX4_reachMask (PcW D cI cZ cB cJ sz [(A_t, .inr (4, [.ref A_t_opening, .ref A_t_board, .ref A_t_trialOpening, .ref A_t_trial, .ref A_t_history, .ref A_t_snapshot, .int V_t_hasSnapshot, .ref A_t_text])), (A_t_trial, .inr (0, [.ref A_t_trial_numbers, .ref A_t_trial_owners, .ref A_t_trial_cells])), (A_t_board, .inr (0, [.ref A_t_board_numbers, .ref A_t_board_owners, .ref A_t_board_cells])), (A_t_board_numbers, .inl (cI, 10, .inl V_t_board_numbers)), (A_t_trial_numbers, .inl (cI, 10, .inl V_t_trial_numbers)), (A_t_board_owners, .inl (cI, 12, .inl V_t_board_owners)), (A_t_trial_owners, .inl (cI, 12, .inl V_t_trial_owners)), (A_t_board_cells, .inl (cI, 63, .inl V_t_board_cells)), (A_t_trial_cells, .inl (cI, 63, .inl V_t_trial_cells)), (A_t_trialOpening, .inr (2, [.ref A_t_trial, .ref A_t_trialOpening_cut, .ref A_t_trialOpening_counts, .ref A_t_trialOpening_strength, .ref A_t_trialOpening_reason, .ref A_t_trialOpening_driver, .ref A_t_trialOpening_waits, .ref A_t_trialOpening_stands])), (A_t_trialOpening_cut, .inl (cI, 9, .inl V_t_trialOpening_cut)), (A_t_trialOpening_counts, .inl (cI, 9, .inl V_t_trialOpening_counts)), (A_t_trialOpening_strength, .inl (cI, 9, .inl V_t_trialOpening_strength)), (A_t_trialOpening_reason, .inl (cI, 9, .inl V_t_trialOpening_reason))] [.ref A_t, .int x1]) (QWi D cI cZ cB cJ sz [(A_t, .inr (4, [.ref A_t_opening, .ref A_t_board, .ref A_t_trialOpening, .ref A_t_trial, .ref A_t_history, .ref A_t_snapshot, .int V_t_hasSnapshot, .ref A_t_text])), (A_t_trial, .inr (0, [.ref A_t_trial_numbers, .ref A_t_trial_owners, .ref A_t_trial_cells])), (A_t_board, .inr (0, [.ref A_t_board_numbers, .ref A_t_board_owners, .ref A_t_board_cells])), (A_t_board_numbers, .inl (cI, 10, .inl V_t_board_numbers)), (A_t_trial_numbers, .inl (cI, 10, .inl V_t_trial_numbers)), (A_t_board_owners, .inl (cI, 12, .inl V_t_board_owners)), (A_t_trial_owners, .inl (cI, 12, .inl V_t_trial_owners)), (A_t_board_cells, .inl (cI, 63, .inl V_t_board_cells)), (A_t_trial_cells, .inl (cI, 63, .inl V_t_trial_cells)), (A_t_trialOpening, .inr (2, [.ref A_t_trial, .ref A_t_trialOpening_cut, .ref A_t_trialOpening_counts, .ref A_t_trialOpening_strength, .ref A_t_trialOpening_reason, .ref A_t_trialOpening_driver, .ref A_t_trialOpening_waits, .ref A_t_trialOpening_stands])), (A_t_trialOpening_cut, .inl (cI, 9, .inl V_t_trialOpening_cut)), (A_t_trialOpening_counts, .inl (cI, 9, .inl V_t_trialOpening_counts)), (A_t_trialOpening_strength, .inl (cI, 9, .inl V_t_trialOpening_strength)), (A_t_trialOpening_reason, .inl (cI, 9, .inl V_t_trialOpening_reason))] [(A_t, .inr (4, [.ref A_t_opening, .ref A_t_board, .ref A_t_trialOpening, .ref A_t_trial, .ref A_t_history, .ref A_t_snapshot, .int V_t_hasSnapshot, .ref A_t_text])), (A_t_trial, .inr (0, [.ref A_t_trial_numbers, .ref A_t_trial_owners, .ref A_t_trial_cells])), (A_t_board, .inr (0, [.ref A_t_board_numbers, .ref A_t_board_owners, .ref A_t_board_cells])), (A_t_board_numbers, .inl (cI, 10, .inl V_t_board_numbers)), (A_t_trial_numbers, .inl (cI, 10, .inl w1)), (A_t_board_owners, .inl (cI, 12, .inl V_t_board_owners)), (A_t_trial_owners, .inl (cI, 12, .inl w2)), (A_t_board_cells, .inl (cI, 63, .inl V_t_board_cells)), (A_t_trial_cells, .inl (cI, 63, .inl w3)), (A_t_trialOpening, .inr (2, [.ref A_t_trial, .ref A_t_trialOpening_cut, .ref A_t_trialOpening_counts, .ref A_t_trialOpening_strength, .ref A_t_trialOpening_reason, .ref A_t_trialOpening_driver, .ref A_t_trialOpening_waits, .ref A_t_trialOpening_stands])), (A_t_trialOpening_cut, .inl (cI, 9, .inl w4)), (A_t_trialOpening_counts, .inl (cI, 9, .inl w5)), (A_t_trialOpening_strength, .inl (cI, 9, .inl w6)), (A_t_trialOpening_reason, .inl (cI, 9, .inl w7))] r0) 0 0 (va_A [(A_t, .inr (4, [.ref A_t_opening, .ref A_t_board, .ref A_t_trialOpening, .ref A_t_trial, .ref A_t_history, .ref A_t_snapshot, .int V_t_hasSnapshot, .ref A_t_text])), (A_t_trial, .inr (0, [.ref A_t_trial_numbers, .ref A_t_trial_owners, .ref A_t_trial_cells])), (A_t_board, .inr (0, [.ref A_t_board_numbers, .ref A_t_board_owners, .ref A_t_board_cells])), (A_t_board_numbers, .inl (cI, 10, .inl V_t_board_numbers)), (A_t_trial_numbers, .inl (cI, 10, .inl V_t_trial_numbers)), (A_t_board_owners, .inl (cI, 12, .inl V_t_board_owners)), (A_t_trial_owners, .inl (cI, 12, .inl V_t_trial_owners)), (A_t_board_cells, .inl (cI, 63, .inl V_t_board_cells)), (A_t_trial_cells, .inl (cI, 63, .inl V_t_trial_cells)), (A_t_trialOpening, .inr (2, [.ref A_t_trial, .ref A_t_trialOpening_cut, .ref A_t_trialOpening_counts, .ref A_t_trialOpening_strength, .ref A_t_trialOpening_reason, .ref A_t_trialOpening_driver, .ref A_t_trialOpening_waits, .ref A_t_trialOpening_stands])), (A_t_trialOpening_cut, .inl (cI, 9, .inl V_t_trialOpening_cut)), (A_t_trialOpening_counts, .inl (cI, 9, .inl V_t_trialOpening_counts)), (A_t_trialOpening_strength, .inl (cI, 9, .inl V_t_trialOpening_strength)), (A_t_trialOpening_reason, .inl (cI, 9, .inl V_t_trialOpening_reason))] sz) := by
  refine bodyWi (cc := cX4_reachMask) (maxL := 4) (lv := [(0, .ref A_t), (1, .int x1)]) (by decide) rfl (Nat.le_of_ble_eq_true rfl) rfl ?_
  intro p e s m args below meth c Q hx hb hml hown hts A hP hK hD hA hS fin ls hl
  replace hown : s.vm.findClass RX4 = some m.cls := hown
  have S : CallFix p m c cX4_reachMask 4 s args wsX4_reachMask RX4 := ⟨hx, hb, hml, hown, hts⟩
  unfold g_X4_reachMask at hg
  refine lv_aload_n hx hb dX4_reachMask_0 rfl (lv_at hl 0 rfl) ?_
  refine xget (ci := 4) (C := RX4) (T := TX4) (N := 8) (v := .ref A_t_trial) hx hb hts in_X4_reachMask_X4 hown hK hP 0 rfl rfl 3 (by decide) wd_X4_reachMask_1 rfl dX4_reachMask_1 ?_
  refine lv_aload_n hx hb dX4_reachMask_4 rfl (lv_at hl 0 rfl) ?_
  refine xget (ci := 4) (C := RX4) (T := TX4) (N := 8) (v := .ref A_t_board) hx hb hts in_X4_reachMask_X4 hown hK hP 0 rfl rfl 1 (by decide) wd_X4_reachMask_2 rfl dX4_reachMask_5 ?_
  obtain ⟨f1, f2, f3, hq, hg⟩ := b3_ex hg
  refine callWVv (As := [.ref A_t_board]) (rest := []) (wr := [(A_t, .inr (4, [.ref A_t_opening, .ref A_t_board, .ref A_t_trialOpening, .ref A_t_trial, .ref A_t_history, .ref A_t_snapshot, .int V_t_hasSnapshot, .ref A_t_text])), (A_t_trialOpening, .inr (2, [.ref A_t_trial, .ref A_t_trialOpening_cut, .ref A_t_trialOpening_counts, .ref A_t_trialOpening_strength, .ref A_t_trialOpening_reason, .ref A_t_trialOpening_driver, .ref A_t_trialOpening_waits, .ref A_t_trialOpening_stands])), (A_t_trialOpening_cut, .inl (cI, 9, .inl V_t_trialOpening_cut)), (A_t_trialOpening_counts, .inl (cI, 9, .inl V_t_trialOpening_counts)), (A_t_trialOpening_strength, .inl (cI, 9, .inl V_t_trialOpening_strength)), (A_t_trialOpening_reason, .inl (cI, 9, .inl V_t_trialOpening_reason))]) S hK hP hD hS hA (c_X0_copyFrom l D cI cZ cB cJ A_t_trial A_t_trial_numbers A_t_trial_owners A_t_trial_cells A_t_board A_t_board_numbers A_t_board_owners A_t_board_cells _ V_t_board_numbers V_t_trial_numbers V_t_board_owners V_t_trial_owners V_t_board_cells V_t_trial_cells f1 f2 f3 hq) [1, 2, 3, 4, 5, 6, 7, 8] [0, 9, 10, 11, 12, 13] rfl rfl (by decide +kernel) (by decide +kernel) (by decide +kernel) (cwV 1 hts gX4_reachMask_X0_copyFrom rfl rfl rfl hd_X0_copyFrom ⟨Nat.le_of_ble_eq_true rfl, Nat.le_of_ble_eq_true rfl⟩) rfl rfl rfl hl.1 rfl (Nat.le_of_ble_eq_true rfl) dX4_reachMask_8 ⟨Nat.zero_le _, Nat.zero_le _⟩ (fun H locs hP hD hS => ?_)
  replace hP : va_P D vwCl [(A_t, .inr (4, [.ref A_t_opening, .ref A_t_board, .ref A_t_trialOpening, .ref A_t_trial, .ref A_t_history, .ref A_t_snapshot, .int V_t_hasSnapshot, .ref A_t_text])), (A_t_trialOpening, .inr (2, [.ref A_t_trial, .ref A_t_trialOpening_cut, .ref A_t_trialOpening_counts, .ref A_t_trialOpening_strength, .ref A_t_trialOpening_reason, .ref A_t_trialOpening_driver, .ref A_t_trialOpening_waits, .ref A_t_trialOpening_stands])), (A_t_trialOpening_cut, .inl (cI, 9, .inl V_t_trialOpening_cut)), (A_t_trialOpening_counts, .inl (cI, 9, .inl V_t_trialOpening_counts)), (A_t_trialOpening_strength, .inl (cI, 9, .inl V_t_trialOpening_strength)), (A_t_trialOpening_reason, .inl (cI, 9, .inl V_t_trialOpening_reason)), (A_t_trial, .inr (0, [.ref A_t_trial_numbers, .ref A_t_trial_owners, .ref A_t_trial_cells])), (A_t_board, .inr (0, [.ref A_t_board_numbers, .ref A_t_board_owners, .ref A_t_board_cells])), (A_t_board_numbers, .inl (cI, 10, .inl V_t_board_numbers)), (A_t_trial_numbers, .inl (cI, 10, .inl f1)), (A_t_board_owners, .inl (cI, 12, .inl V_t_board_owners)), (A_t_trial_owners, .inl (cI, 12, .inl f2)), (A_t_board_cells, .inl (cI, 63, .inl V_t_board_cells)), (A_t_trial_cells, .inl (cI, 63, .inl f3))] H := hP
  replace hD : va_D A [(A_t, .inr (4, [.ref A_t_opening, .ref A_t_board, .ref A_t_trialOpening, .ref A_t_trial, .ref A_t_history, .ref A_t_snapshot, .int V_t_hasSnapshot, .ref A_t_text])), (A_t_trialOpening, .inr (2, [.ref A_t_trial, .ref A_t_trialOpening_cut, .ref A_t_trialOpening_counts, .ref A_t_trialOpening_strength, .ref A_t_trialOpening_reason, .ref A_t_trialOpening_driver, .ref A_t_trialOpening_waits, .ref A_t_trialOpening_stands])), (A_t_trialOpening_cut, .inl (cI, 9, .inl V_t_trialOpening_cut)), (A_t_trialOpening_counts, .inl (cI, 9, .inl V_t_trialOpening_counts)), (A_t_trialOpening_strength, .inl (cI, 9, .inl V_t_trialOpening_strength)), (A_t_trialOpening_reason, .inl (cI, 9, .inl V_t_trialOpening_reason)), (A_t_trial, .inr (0, [.ref A_t_trial_numbers, .ref A_t_trial_owners, .ref A_t_trial_cells])), (A_t_board, .inr (0, [.ref A_t_board_numbers, .ref A_t_board_owners, .ref A_t_board_cells])), (A_t_board_numbers, .inl (cI, 10, .inl V_t_board_numbers)), (A_t_trial_numbers, .inl (cI, 10, .inl f1)), (A_t_board_owners, .inl (cI, 12, .inl V_t_board_owners)), (A_t_trial_owners, .inl (cI, 12, .inl f2)), (A_t_board_cells, .inl (cI, 63, .inl V_t_board_cells)), (A_t_trial_cells, .inl (cI, 63, .inl f3))] := hD
  refine lv_iconst (v := 0) hx hb dX4_reachMask_11 (by decide) ?_
  refine lv_istore_n (lv' := [(2, .int 0), (0, .ref A_t), (1, .int x1)]) hx hb dX4_reachMask_12 rfl hl (by decide) rfl (fun ls hl => ?_)
  refine lv_iconst (v := 0) hx hb dX4_reachMask_13 (by decide) ?_
  refine lv_istore_n (lv' := [(3, .int 0), (2, .int 0), (0, .ref A_t), (1, .int x1)]) hx hb dX4_reachMask_14 rfl hl (by decide) rfl (fun ls hl => ?_)
  obtain ⟨v19, f20, f21, f22, f23, f24, hL, hg⟩ := b6_ex hg
  have kx : ∀ (H : Heap) (locs : List Loc), va_P D vwCl [(A_t, .inr (4, [.ref A_t_opening, .ref A_t_board, .ref A_t_trialOpening, .ref A_t_trial, .ref A_t_history, .ref A_t_snapshot, .int V_t_hasSnapshot, .ref A_t_text])), (A_t_trialOpening, .inr (2, [.ref A_t_trial, .ref A_t_trialOpening_cut, .ref A_t_trialOpening_counts, .ref A_t_trialOpening_strength, .ref A_t_trialOpening_reason, .ref A_t_trialOpening_driver, .ref A_t_trialOpening_waits, .ref A_t_trialOpening_stands])), (A_t_trialOpening_cut, .inl (cI, 9, .inl f22)), (A_t_trialOpening_counts, .inl (cI, 9, .inl f21)), (A_t_trialOpening_strength, .inl (cI, 9, .inl f24)), (A_t_trialOpening_reason, .inl (cI, 9, .inl f23)), (A_t_trial, .inr (0, [.ref A_t_trial_numbers, .ref A_t_trial_owners, .ref A_t_trial_cells])), (A_t_board, .inr (0, [.ref A_t_board_numbers, .ref A_t_board_owners, .ref A_t_board_cells])), (A_t_board_numbers, .inl (cI, 10, .inl V_t_board_numbers)), (A_t_trial_numbers, .inl (cI, 10, .inl f1)), (A_t_board_owners, .inl (cI, 12, .inl V_t_board_owners)), (A_t_trial_owners, .inl (cI, 12, .inl f2)), (A_t_board_cells, .inl (cI, 63, .inl V_t_board_cells)), (A_t_trial_cells, .inl (cI, 63, .inl f20))] H → va_D A [(A_t, .inr (4, [.ref A_t_opening, .ref A_t_board, .ref A_t_trialOpening, .ref A_t_trial, .ref A_t_history, .ref A_t_snapshot, .int V_t_hasSnapshot, .ref A_t_text])), (A_t_trialOpening, .inr (2, [.ref A_t_trial, .ref A_t_trialOpening_cut, .ref A_t_trialOpening_counts, .ref A_t_trialOpening_strength, .ref A_t_trialOpening_reason, .ref A_t_trialOpening_driver, .ref A_t_trialOpening_waits, .ref A_t_trialOpening_stands])), (A_t_trialOpening_cut, .inl (cI, 9, .inl f22)), (A_t_trialOpening_counts, .inl (cI, 9, .inl f21)), (A_t_trialOpening_strength, .inl (cI, 9, .inl f24)), (A_t_trialOpening_reason, .inl (cI, 9, .inl f23)), (A_t_trial, .inr (0, [.ref A_t_trial_numbers, .ref A_t_trial_owners, .ref A_t_trial_cells])), (A_t_board, .inr (0, [.ref A_t_board_numbers, .ref A_t_board_owners, .ref A_t_board_cells])), (A_t_board_numbers, .inl (cI, 10, .inl V_t_board_numbers)), (A_t_trial_numbers, .inl (cI, 10, .inl f1)), (A_t_board_owners, .inl (cI, 12, .inl V_t_board_owners)), (A_t_trial_owners, .inl (cI, 12, .inl f2)), (A_t_board_cells, .inl (cI, 63, .inl V_t_board_cells)), (A_t_trial_cells, .inl (cI, 63, .inl f20))] → va_S A s.heap H locs → ∀ ls : Array Slot, lv_has ls 4 [(2, .int v19)] → W p l e rX4_reachMask s m args below meth c H locs 0 0 Q (F0 m 81 ls []) := by
    intro H locs hP hD hS ls hl
    refine lv_iload_n hx hb dX4_reachMask_81 rfl (lv_at hl 0 rfl) ?_
    cases hg
    exact fin _ _ _ _ dX4_reachMask_82 (hP.sub [0, 6, 7, 8, 9, 10, 11, 12, 13, 1, 2, 3, 4, 5] rfl) (hD.sub [0, 6, 7, 8, 9, 10, 11, 12, 13, 1, 2, 3, 4, 5] (by decide) rfl) hS
  have L : ∀ (nf : Nat) (v4 : Int32) (v5 : Int32) (f6 : Nat → Int32) (f7 : Nat → Int32) (f8 : Nat → Int32) (f9 : Nat → Int32) (f10 : Nat → Int32), ∀ (H : Heap) (locs : List Loc), va_P D vwCl [(A_t, .inr (4, [.ref A_t_opening, .ref A_t_board, .ref A_t_trialOpening, .ref A_t_trial, .ref A_t_history, .ref A_t_snapshot, .int V_t_hasSnapshot, .ref A_t_text])), (A_t_trialOpening, .inr (2, [.ref A_t_trial, .ref A_t_trialOpening_cut, .ref A_t_trialOpening_counts, .ref A_t_trialOpening_strength, .ref A_t_trialOpening_reason, .ref A_t_trialOpening_driver, .ref A_t_trialOpening_waits, .ref A_t_trialOpening_stands])), (A_t_trialOpening_cut, .inl (cI, 9, .inl f8)), (A_t_trialOpening_counts, .inl (cI, 9, .inl f7)), (A_t_trialOpening_strength, .inl (cI, 9, .inl f10)), (A_t_trialOpening_reason, .inl (cI, 9, .inl f9)), (A_t_trial, .inr (0, [.ref A_t_trial_numbers, .ref A_t_trial_owners, .ref A_t_trial_cells])), (A_t_board, .inr (0, [.ref A_t_board_numbers, .ref A_t_board_owners, .ref A_t_board_cells])), (A_t_board_numbers, .inl (cI, 10, .inl V_t_board_numbers)), (A_t_trial_numbers, .inl (cI, 10, .inl f1)), (A_t_board_owners, .inl (cI, 12, .inl V_t_board_owners)), (A_t_trial_owners, .inl (cI, 12, .inl f2)), (A_t_board_cells, .inl (cI, 63, .inl V_t_board_cells)), (A_t_trial_cells, .inl (cI, 63, .inl f6))] H → va_D A [(A_t, .inr (4, [.ref A_t_opening, .ref A_t_board, .ref A_t_trialOpening, .ref A_t_trial, .ref A_t_history, .ref A_t_snapshot, .int V_t_hasSnapshot, .ref A_t_text])), (A_t_trialOpening, .inr (2, [.ref A_t_trial, .ref A_t_trialOpening_cut, .ref A_t_trialOpening_counts, .ref A_t_trialOpening_strength, .ref A_t_trialOpening_reason, .ref A_t_trialOpening_driver, .ref A_t_trialOpening_waits, .ref A_t_trialOpening_stands])), (A_t_trialOpening_cut, .inl (cI, 9, .inl f8)), (A_t_trialOpening_counts, .inl (cI, 9, .inl f7)), (A_t_trialOpening_strength, .inl (cI, 9, .inl f10)), (A_t_trialOpening_reason, .inl (cI, 9, .inl f9)), (A_t_trial, .inr (0, [.ref A_t_trial_numbers, .ref A_t_trial_owners, .ref A_t_trial_cells])), (A_t_board, .inr (0, [.ref A_t_board_numbers, .ref A_t_board_owners, .ref A_t_board_cells])), (A_t_board_numbers, .inl (cI, 10, .inl V_t_board_numbers)), (A_t_trial_numbers, .inl (cI, 10, .inl f1)), (A_t_board_owners, .inl (cI, 12, .inl V_t_board_owners)), (A_t_trial_owners, .inl (cI, 12, .inl f2)), (A_t_board_cells, .inl (cI, 63, .inl V_t_board_cells)), (A_t_trial_cells, .inl (cI, 63, .inl f6))] → va_S A s.heap H locs → ∀ ls : Array Slot, lv_has ls 4 [(3, .int v5), (2, .int v4), (0, .ref A_t), (1, .int x1)] → g_X4_reachMask_L1 f1 x1 nf v4 v5 f6 f7 f8 f9 f10 = some (v19, f20, f21, f22, f23, f24) → W p l e rX4_reachMask s m args below meth c H locs 0 0 Q (F0 m 15 ls []) := by
    intro nf
    induction nf with
    | zero =>
      intro v4 v5 f6 f7 f8 f9 f10 H locs hP hD hS ls hl hg
      exact no_some hg
    | succ nf ih =>
      intro v4 v5 f6 f7 f8 f9 f10 H locs hP hD hS ls hl hg
      rw [g_X4_reachMask_L1] at hg
      refine lv_iload_n hx hb dX4_reachMask_15 rfl (lv_at hl 0 rfl) ?_
      refine lv_bipush (v := 12) hx hb dX4_reachMask_16 (by decide) ?_
      refine lv_icmp_ge (tgt := 81) hx hb dX4_reachMask_18 (by decide) (fun hc => ?_) (fun hc => ?_)
      · replace hg := if_yes hg hc
        cases hg
        exact kx _ _ hP hD hS _ (lv_sub hl [1] rfl)
      · replace hg := if_no hg hc
        refine lv_aload_n hx hb dX4_reachMask_21 rfl (lv_at hl 2 rfl) ?_
        refine xget (ci := 4) (C := RX4) (T := TX4) (N := 8) (v := .ref A_t_trial) hx hb hts in_X4_reachMask_X4 hown hK hP 0 rfl rfl 3 (by decide) wd_X4_reachMask_1 rfl dX4_reachMask_22 ?_
        refine lv_iload_n hx hb dX4_reachMask_25 rfl (lv_at hl 3 rfl) ?_
        refine lv_iconst (v := 1) hx hb dX4_reachMask_26 (by decide) ?_
        refine lv_iconst (v := (-1)) hx hb dX4_reachMask_27 (by decide) ?_
        refine lv_iload_n hx hb dX4_reachMask_28 rfl (lv_at hl 0 rfl) ?_
        obtain ⟨v11, hq, hg⟩ := bind_ex hg
        refine callRVz (As := [.int x1, .int 1, .int (-1), .int v5]) (rest := []) S hK hP (c_X0_canBeGiven l D cI cZ cB cJ A_t_trial A_t_trial_numbers A_t_trial_owners A_t_trial_cells f1 f6 x1 1 (-1) v5 v11 hq) [6, 9, 13] rfl (cwV 4 hts gX4_reachMask_X0_canBeGiven rfl rfl rfl hd_X0_canBeGiven ⟨Nat.le_of_ble_eq_true rfl, Nat.le_of_ble_eq_true rfl⟩) rfl rfl rfl hl.1 rfl (Nat.le_of_ble_eq_true rfl) dX4_reachMask_29 ⟨Nat.zero_le _, Nat.zero_le _⟩ (fun hz_v11 => ?_)
        refine lv_if_eq (tgt := 75) hx hb dX4_reachMask_32 (by decide) (fun hc => ?_) (fun hc => ?_)
        · replace hg := if_yes hg hc
          refine lv_iinc (v := (v5 + 1)) (lv' := [(3, .int (v5 + 1)), (2, .int v4), (0, .ref A_t), (1, .int x1)]) hx hb dX4_reachMask_75 hl (k := 0) rfl rfl (by decide) rfl (fun ls hl => ?_)
          refine lv_goto (tgt := 15) hx hb dX4_reachMask_78 (by decide) ?_
          exact ih _ _ _ _ _ _ _ _ _ hP hD hS _ (lv_sub hl [0, 1, 2, 3] rfl) hg
        · replace hg := if_no hg hc
          refine lv_aload_n hx hb dX4_reachMask_35 rfl (lv_at hl 2 rfl) ?_
          refine xget (ci := 4) (C := RX4) (T := TX4) (N := 8) (v := .ref A_t_trial) hx hb hts in_X4_reachMask_X4 hown hK hP 0 rfl rfl 3 (by decide) wd_X4_reachMask_1 rfl dX4_reachMask_36 ?_
          refine lv_iload_n hx hb dX4_reachMask_39 rfl (lv_at hl 3 rfl) ?_
          refine lv_iconst (v := 1) hx hb dX4_reachMask_40 (by decide) ?_
          refine lv_iconst (v := (-1)) hx hb dX4_reachMask_41 (by decide) ?_
          refine lv_iload_n hx hb dX4_reachMask_42 rfl (lv_at hl 0 rfl) ?_
          obtain ⟨v13, f12, hq, hg⟩ := b2_ex hg
          refine callWV (As := [.int x1, .int 1, .int (-1), .int v5]) (rest := []) (wr := [(A_t, .inr (4, [.ref A_t_opening, .ref A_t_board, .ref A_t_trialOpening, .ref A_t_trial, .ref A_t_history, .ref A_t_snapshot, .int V_t_hasSnapshot, .ref A_t_text])), (A_t_trialOpening, .inr (2, [.ref A_t_trial, .ref A_t_trialOpening_cut, .ref A_t_trialOpening_counts, .ref A_t_trialOpening_strength, .ref A_t_trialOpening_reason, .ref A_t_trialOpening_driver, .ref A_t_trialOpening_waits, .ref A_t_trialOpening_stands])), (A_t_trialOpening_cut, .inl (cI, 9, .inl f8)), (A_t_trialOpening_counts, .inl (cI, 9, .inl f7)), (A_t_trialOpening_strength, .inl (cI, 9, .inl f10)), (A_t_trialOpening_reason, .inl (cI, 9, .inl f9)), (A_t_board, .inr (0, [.ref A_t_board_numbers, .ref A_t_board_owners, .ref A_t_board_cells])), (A_t_board_numbers, .inl (cI, 10, .inl V_t_board_numbers)), (A_t_trial_numbers, .inl (cI, 10, .inl f1)), (A_t_board_owners, .inl (cI, 12, .inl V_t_board_owners)), (A_t_trial_owners, .inl (cI, 12, .inl f2)), (A_t_board_cells, .inl (cI, 63, .inl V_t_board_cells))]) S hK hP hD hS hA (c_X0_give l D cI cZ cB cJ A_t_trial A_t_trial_numbers A_t_trial_owners A_t_trial_cells _ f6 x1 1 (-1) v5 v13 f12 hq) [6, 13] [0, 1, 2, 3, 4, 5, 7, 8, 9, 10, 11, 12] rfl rfl (by decide +kernel) (by decide +kernel) (by decide +kernel) (cwV 4 hts gX4_reachMask_X0_give rfl rfl rfl hd_X0_give ⟨Nat.le_of_ble_eq_true rfl, Nat.le_of_ble_eq_true rfl⟩) rfl rfl rfl hl.1 rfl (Nat.le_of_ble_eq_true rfl) dX4_reachMask_43 ⟨Nat.zero_le _, Nat.zero_le _⟩ (fun H locs hP hD hS => ?_)
          replace hP : va_P D vwCl [(A_t, .inr (4, [.ref A_t_opening, .ref A_t_board, .ref A_t_trialOpening, .ref A_t_trial, .ref A_t_history, .ref A_t_snapshot, .int V_t_hasSnapshot, .ref A_t_text])), (A_t_trialOpening, .inr (2, [.ref A_t_trial, .ref A_t_trialOpening_cut, .ref A_t_trialOpening_counts, .ref A_t_trialOpening_strength, .ref A_t_trialOpening_reason, .ref A_t_trialOpening_driver, .ref A_t_trialOpening_waits, .ref A_t_trialOpening_stands])), (A_t_trialOpening_cut, .inl (cI, 9, .inl f8)), (A_t_trialOpening_counts, .inl (cI, 9, .inl f7)), (A_t_trialOpening_strength, .inl (cI, 9, .inl f10)), (A_t_trialOpening_reason, .inl (cI, 9, .inl f9)), (A_t_board, .inr (0, [.ref A_t_board_numbers, .ref A_t_board_owners, .ref A_t_board_cells])), (A_t_board_numbers, .inl (cI, 10, .inl V_t_board_numbers)), (A_t_trial_numbers, .inl (cI, 10, .inl f1)), (A_t_board_owners, .inl (cI, 12, .inl V_t_board_owners)), (A_t_trial_owners, .inl (cI, 12, .inl f2)), (A_t_board_cells, .inl (cI, 63, .inl V_t_board_cells)), (A_t_trial, .inr (0, [.ref A_t_trial_numbers, .ref A_t_trial_owners, .ref A_t_trial_cells])), (A_t_trial_cells, .inl (cI, 63, .inl f12))] H := hP
          replace hD : va_D A [(A_t, .inr (4, [.ref A_t_opening, .ref A_t_board, .ref A_t_trialOpening, .ref A_t_trial, .ref A_t_history, .ref A_t_snapshot, .int V_t_hasSnapshot, .ref A_t_text])), (A_t_trialOpening, .inr (2, [.ref A_t_trial, .ref A_t_trialOpening_cut, .ref A_t_trialOpening_counts, .ref A_t_trialOpening_strength, .ref A_t_trialOpening_reason, .ref A_t_trialOpening_driver, .ref A_t_trialOpening_waits, .ref A_t_trialOpening_stands])), (A_t_trialOpening_cut, .inl (cI, 9, .inl f8)), (A_t_trialOpening_counts, .inl (cI, 9, .inl f7)), (A_t_trialOpening_strength, .inl (cI, 9, .inl f10)), (A_t_trialOpening_reason, .inl (cI, 9, .inl f9)), (A_t_board, .inr (0, [.ref A_t_board_numbers, .ref A_t_board_owners, .ref A_t_board_cells])), (A_t_board_numbers, .inl (cI, 10, .inl V_t_board_numbers)), (A_t_trial_numbers, .inl (cI, 10, .inl f1)), (A_t_board_owners, .inl (cI, 12, .inl V_t_board_owners)), (A_t_trial_owners, .inl (cI, 12, .inl f2)), (A_t_board_cells, .inl (cI, 63, .inl V_t_board_cells)), (A_t_trial, .inr (0, [.ref A_t_trial_numbers, .ref A_t_trial_owners, .ref A_t_trial_cells])), (A_t_trial_cells, .inl (cI, 63, .inl f12))] := hD
          refine lv_pop hx hb dX4_reachMask_46 rfl ?_
          refine lv_aload_n hx hb dX4_reachMask_47 rfl (lv_at hl 2 rfl) ?_
          refine xget (ci := 4) (C := RX4) (T := TX4) (N := 8) (v := .ref A_t_trialOpening) hx hb hts in_X4_reachMask_X4 hown hK hP 0 rfl rfl 2 (by decide) wd_X4_reachMask_3 rfl dX4_reachMask_48 ?_
          obtain ⟨f14, f15, f16, f17, hq, hg⟩ := b4_ex hg
          refine callWVv (As := []) (rest := []) (wr := [(A_t, .inr (4, [.ref A_t_opening, .ref A_t_board, .ref A_t_trialOpening, .ref A_t_trial, .ref A_t_history, .ref A_t_snapshot, .int V_t_hasSnapshot, .ref A_t_text])), (A_t_board, .inr (0, [.ref A_t_board_numbers, .ref A_t_board_owners, .ref A_t_board_cells])), (A_t_board_numbers, .inl (cI, 10, .inl V_t_board_numbers)), (A_t_board_owners, .inl (cI, 12, .inl V_t_board_owners)), (A_t_trial_owners, .inl (cI, 12, .inl f2)), (A_t_board_cells, .inl (cI, 63, .inl V_t_board_cells))]) S hK hP hD hS hA (c_X2_decideMoves l D cI cZ cB cJ A_t_trialOpening A_t_trial A_t_trialOpening_cut A_t_trialOpening_counts A_t_trialOpening_strength A_t_trialOpening_reason A_t_trialOpening_driver A_t_trialOpening_waits A_t_trialOpening_stands A_t_trial_numbers A_t_trial_owners A_t_trial_cells _ f1 f12 f8 f7 f10 f9 f14 f15 f16 f17 hq) [1, 12, 8, 13, 2, 3, 4, 5] [0, 6, 7, 9, 10, 11] rfl rfl (by decide +kernel) (by decide +kernel) (by decide +kernel) (cwV 0 hts gX4_reachMask_X2_decideMoves rfl rfl rfl hd_X2_decideMoves ⟨Nat.le_of_ble_eq_true rfl, Nat.le_of_ble_eq_true rfl⟩) rfl rfl rfl hl.1 rfl (Nat.le_of_ble_eq_true rfl) dX4_reachMask_51 ⟨Nat.zero_le _, Nat.zero_le _⟩ (fun H locs hP hD hS => ?_)
          replace hP : va_P D vwCl [(A_t, .inr (4, [.ref A_t_opening, .ref A_t_board, .ref A_t_trialOpening, .ref A_t_trial, .ref A_t_history, .ref A_t_snapshot, .int V_t_hasSnapshot, .ref A_t_text])), (A_t_board, .inr (0, [.ref A_t_board_numbers, .ref A_t_board_owners, .ref A_t_board_cells])), (A_t_board_numbers, .inl (cI, 10, .inl V_t_board_numbers)), (A_t_board_owners, .inl (cI, 12, .inl V_t_board_owners)), (A_t_trial_owners, .inl (cI, 12, .inl f2)), (A_t_board_cells, .inl (cI, 63, .inl V_t_board_cells)), (A_t_trialOpening, .inr (2, [.ref A_t_trial, .ref A_t_trialOpening_cut, .ref A_t_trialOpening_counts, .ref A_t_trialOpening_strength, .ref A_t_trialOpening_reason, .ref A_t_trialOpening_driver, .ref A_t_trialOpening_waits, .ref A_t_trialOpening_stands])), (A_t_trial, .inr (0, [.ref A_t_trial_numbers, .ref A_t_trial_owners, .ref A_t_trial_cells])), (A_t_trial_numbers, .inl (cI, 10, .inl f1)), (A_t_trial_cells, .inl (cI, 63, .inl f12)), (A_t_trialOpening_cut, .inl (cI, 9, .inl f14)), (A_t_trialOpening_counts, .inl (cI, 9, .inl f15)), (A_t_trialOpening_strength, .inl (cI, 9, .inl f16)), (A_t_trialOpening_reason, .inl (cI, 9, .inl f17))] H := hP
          replace hD : va_D A [(A_t, .inr (4, [.ref A_t_opening, .ref A_t_board, .ref A_t_trialOpening, .ref A_t_trial, .ref A_t_history, .ref A_t_snapshot, .int V_t_hasSnapshot, .ref A_t_text])), (A_t_board, .inr (0, [.ref A_t_board_numbers, .ref A_t_board_owners, .ref A_t_board_cells])), (A_t_board_numbers, .inl (cI, 10, .inl V_t_board_numbers)), (A_t_board_owners, .inl (cI, 12, .inl V_t_board_owners)), (A_t_trial_owners, .inl (cI, 12, .inl f2)), (A_t_board_cells, .inl (cI, 63, .inl V_t_board_cells)), (A_t_trialOpening, .inr (2, [.ref A_t_trial, .ref A_t_trialOpening_cut, .ref A_t_trialOpening_counts, .ref A_t_trialOpening_strength, .ref A_t_trialOpening_reason, .ref A_t_trialOpening_driver, .ref A_t_trialOpening_waits, .ref A_t_trialOpening_stands])), (A_t_trial, .inr (0, [.ref A_t_trial_numbers, .ref A_t_trial_owners, .ref A_t_trial_cells])), (A_t_trial_numbers, .inl (cI, 10, .inl f1)), (A_t_trial_cells, .inl (cI, 63, .inl f12)), (A_t_trialOpening_cut, .inl (cI, 9, .inl f14)), (A_t_trialOpening_counts, .inl (cI, 9, .inl f15)), (A_t_trialOpening_strength, .inl (cI, 9, .inl f16)), (A_t_trialOpening_reason, .inl (cI, 9, .inl f17))] := hD
          refine lv_iload_n hx hb dX4_reachMask_54 rfl (lv_at hl 1 rfl) ?_
          refine lv_aload_n hx hb dX4_reachMask_55 rfl (lv_at hl 2 rfl) ?_
          refine xget (ci := 4) (C := RX4) (T := TX4) (N := 8) (v := .ref A_t_trialOpening) hx hb hts in_X4_reachMask_X4 hown hK hP 0 rfl rfl 2 (by decide) wd_X4_reachMask_3 rfl dX4_reachMask_56 ?_
          refine lv_iload_n hx hb dX4_reachMask_59 rfl (lv_at hl 3 rfl) ?_
          obtain ⟨v18, hq, hg⟩ := bind_ex hg
          refine callRVz (As := [.int x1]) (rest := [.int v4]) S hK hP (c_X2_goes l D cI cZ cB cJ A_t_trialOpening A_t_trial A_t_trialOpening_cut A_t_trialOpening_counts A_t_trialOpening_strength A_t_trialOpening_reason A_t_trialOpening_driver A_t_trialOpening_waits A_t_trialOpening_stands A_t_trial_numbers A_t_trial_owners A_t_trial_cells f12 f17 x1 v18 hq) [6, 7, 9, 13] rfl (cwV 1 hts gX4_reachMask_X2_goes rfl rfl rfl hd_X2_goes ⟨Nat.le_of_ble_eq_true rfl, Nat.le_of_ble_eq_true rfl⟩) rfl rfl rfl hl.1 rfl (Nat.le_of_ble_eq_true rfl) dX4_reachMask_60 ⟨Nat.zero_le _, Nat.zero_le _⟩ (fun hz_v18 => ?_)
          refine lv_if_eq (tgt := 72) hx hb dX4_reachMask_63 (by decide) (fun hc => ?_) (fun hc => ?_)
          · replace hg := if_yes hg hc
            refine lv_iconst (v := 0) hx hb dX4_reachMask_72 (by decide) ?_
            refine lv_ior hx hb dX4_reachMask_73 ?_
            refine lv_istore_n (lv' := [(2, .int (v4 ||| 0)), (3, .int v5), (0, .ref A_t), (1, .int x1)]) hx hb dX4_reachMask_74 rfl hl (by decide) rfl (fun ls hl => ?_)
            refine lv_iinc (v := (v5 + 1)) (lv' := [(3, .int (v5 + 1)), (2, .int (v4 ||| 0)), (0, .ref A_t), (1, .int x1)]) hx hb dX4_reachMask_75 hl (k := 1) rfl rfl (by decide) rfl (fun ls hl => ?_)
            refine lv_goto (tgt := 15) hx hb dX4_reachMask_78 (by decide) ?_
            exact ih _ _ _ _ _ _ _ _ _ (hP.sub [0, 6, 10, 11, 12, 13, 7, 1, 2, 8, 3, 4, 5, 9] rfl) (hD.sub [0, 6, 10, 11, 12, 13, 7, 1, 2, 8, 3, 4, 5, 9] (by decide) rfl) hS _ (lv_sub hl [0, 1, 2, 3] rfl) hg
          · replace hg := if_no hg hc
            refine lv_iconst (v := 1) hx hb dX4_reachMask_66 (by decide) ?_
            refine lv_iload_n hx hb dX4_reachMask_67 rfl (lv_at hl 0 rfl) ?_
            refine lv_ishl hx hb dX4_reachMask_68 ?_
            refine lv_goto (tgt := 73) hx hb dX4_reachMask_69 (by decide) ?_
            refine lv_ior hx hb dX4_reachMask_73 ?_
            refine lv_istore_n (lv' := [(2, .int (v4 ||| (1 <<< (v5 &&& 31)))), (3, .int v5), (0, .ref A_t), (1, .int x1)]) hx hb dX4_reachMask_74 rfl hl (by decide) rfl (fun ls hl => ?_)
            refine lv_iinc (v := (v5 + 1)) (lv' := [(3, .int (v5 + 1)), (2, .int (v4 ||| (1 <<< (v5 &&& 31)))), (0, .ref A_t), (1, .int x1)]) hx hb dX4_reachMask_75 hl (k := 1) rfl rfl (by decide) rfl (fun ls hl => ?_)
            refine lv_goto (tgt := 15) hx hb dX4_reachMask_78 (by decide) ?_
            exact ih _ _ _ _ _ _ _ _ _ (hP.sub [0, 6, 10, 11, 12, 13, 7, 1, 2, 8, 3, 4, 5, 9] rfl) (hD.sub [0, 6, 10, 11, 12, 13, 7, 1, 2, 8, 3, 4, 5, 9] (by decide) rfl) hS _ (lv_sub hl [0, 1, 2, 3] rfl) hg
  exact L FU _ _ _ _ _ _ _ _ _ hP hD hS _ (lv_sub hl [0, 1, 2, 3] rfl) hL
theorem hd_X4_danger : yX4_danger.cls = RX4 ∧ yX4_danger.cls ≠ "java/lang/invoke/MethodHandle" ∧ yX4_danger.cls ≠ "java/lang/invoke/VarHandle" ∧ (parseMethodDescriptor yX4_danger.desc).map (fun d => d.parameters.length) = some 0 := by decide +kernel
theorem in_X4_danger_X4 : ∀ w ∈ u_ws RX4 TX4 8, w ∈ wsX4_danger := fun _ h => List.mem_cons_of_mem _ (List.mem_append_left _ (List.mem_append_left _ (List.mem_append_right _ h)))
theorem wd_X4_danger_1 : Cond.fieldLink RX4 10 "FogOrders" "opening" "LFogOrders$Opening;" ∈ wsX4_danger := List.mem_of_getElem? (i := 1) rfl
abbrev rX4_danger : Room := { frames := 6, cells := 0, slots := 0, locals := 132 }
set_option maxHeartbeats 4000000 in
set_option maxRecDepth 100000 in
theorem c_X4_danger (l : Launch) (D : va_G) (cI cZ cB cJ : ClassId) (A_t : Nat) (A_t_opening : Nat) (A_t_board : Nat) (A_t_trialOpening : Nat) (A_t_trial : Nat) (A_t_history : Nat) (A_t_snapshot : Nat) (A_t_text : Nat) (A_t_opening_cut : Nat) (A_t_opening_counts : Nat) (A_t_opening_strength : Nat) (A_t_opening_reason : Nat) (A_t_opening_driver : Nat) (A_t_opening_waits : Nat) (A_t_opening_stands : Nat) (A_t_board_numbers : Nat) (A_t_board_owners : Nat) (A_t_board_cells : Nat) (sz : Nat) (V_t_hasSnapshot : Int32) (V_t_board_numbers : Nat → Int32) (V_t_board_cells : Nat → Int32) (V_t_opening_cut : Nat → Int32) (V_t_opening_counts : Nat → Int32) (V_t_opening_strength : Nat → Int32) (V_t_opening_reason : Nat → Int32) (V_t_opening_driver : Nat → Int32) (V_t_opening_waits : Nat → Int32) (V_t_opening_stands : Nat → Int32) (r0 : Int32) (w1 : Nat → Int32) (w2 : Nat → Int32) (w3 : Nat → Int32) (w4 : Nat → Int32) (w5 : Nat → Int32) (w6 : Nat → Int32) (w7 : Nat → Int32) (hg : g_X4_danger V_t_board_numbers V_t_board_cells V_t_opening_cut V_t_opening_counts V_t_opening_strength V_t_opening_reason V_t_opening_driver V_t_opening_waits V_t_opening_stands = some (r0, w1, w2, w3, w4, w5, w6, w7)) : Met l yX4_danger wsX4_danger rX4_danger (PcW D cI cZ cB cJ sz [(A_t, .inr (4, [.ref A_t_opening, .ref A_t_board, .ref A_t_trialOpening, .ref A_t_trial, .ref A_t_history, .ref A_t_snapshot, .int V_t_hasSnapshot, .ref A_t_text])), (A_t_opening, .inr (2, [.ref A_t_board, .ref A_t_opening_cut, .ref A_t_opening_counts, .ref A_t_opening_strength, .ref A_t_opening_reason, .ref A_t_opening_driver, .ref A_t_opening_waits, .ref A_t_opening_stands])), (A_t_board, .inr (0, [.ref A_t_board_numbers, .ref A_t_board_owners, .ref A_t_board_cells])), (A_t_board_numbers, .inl (cI, 10, .inl V_t_board_numbers)), (A_t_board_cells, .inl (cI, 63, .inl V_t_board_cells)), (A_t_opening_cut, .inl (cI, 9, .inl V_t_opening_cut)), (A_t_opening_counts, .inl (cI, 9, .inl V_t_opening_counts)), (A_t_opening_strength, .inl (cI, 9, .inl V_t_opening_strength)), (A_t_opening_reason, .inl (cI, 9, .inl V_t_opening_reason)), (A_t_opening_driver, .inl (cI, 9, .inl V_t_opening_driver)), (A_t_opening_waits, .inl (cI, 9, .inl V_t_opening_waits)), (A_t_opening_stands, .inl (cI, 9, .inl V_t_opening_stands))] [.ref A_t]) (QWi D cI cZ cB cJ sz [(A_t, .inr (4, [.ref A_t_opening, .ref A_t_board, .ref A_t_trialOpening, .ref A_t_trial, .ref A_t_history, .ref A_t_snapshot, .int V_t_hasSnapshot, .ref A_t_text])), (A_t_opening, .inr (2, [.ref A_t_board, .ref A_t_opening_cut, .ref A_t_opening_counts, .ref A_t_opening_strength, .ref A_t_opening_reason, .ref A_t_opening_driver, .ref A_t_opening_waits, .ref A_t_opening_stands])), (A_t_board, .inr (0, [.ref A_t_board_numbers, .ref A_t_board_owners, .ref A_t_board_cells])), (A_t_board_numbers, .inl (cI, 10, .inl V_t_board_numbers)), (A_t_board_cells, .inl (cI, 63, .inl V_t_board_cells)), (A_t_opening_cut, .inl (cI, 9, .inl V_t_opening_cut)), (A_t_opening_counts, .inl (cI, 9, .inl V_t_opening_counts)), (A_t_opening_strength, .inl (cI, 9, .inl V_t_opening_strength)), (A_t_opening_reason, .inl (cI, 9, .inl V_t_opening_reason)), (A_t_opening_driver, .inl (cI, 9, .inl V_t_opening_driver)), (A_t_opening_waits, .inl (cI, 9, .inl V_t_opening_waits)), (A_t_opening_stands, .inl (cI, 9, .inl V_t_opening_stands))] [(A_t, .inr (4, [.ref A_t_opening, .ref A_t_board, .ref A_t_trialOpening, .ref A_t_trial, .ref A_t_history, .ref A_t_snapshot, .int V_t_hasSnapshot, .ref A_t_text])), (A_t_opening, .inr (2, [.ref A_t_board, .ref A_t_opening_cut, .ref A_t_opening_counts, .ref A_t_opening_strength, .ref A_t_opening_reason, .ref A_t_opening_driver, .ref A_t_opening_waits, .ref A_t_opening_stands])), (A_t_board, .inr (0, [.ref A_t_board_numbers, .ref A_t_board_owners, .ref A_t_board_cells])), (A_t_board_numbers, .inl (cI, 10, .inl V_t_board_numbers)), (A_t_board_cells, .inl (cI, 63, .inl V_t_board_cells)), (A_t_opening_cut, .inl (cI, 9, .inl w1)), (A_t_opening_counts, .inl (cI, 9, .inl w2)), (A_t_opening_strength, .inl (cI, 9, .inl w3)), (A_t_opening_reason, .inl (cI, 9, .inl w4)), (A_t_opening_driver, .inl (cI, 9, .inl w5)), (A_t_opening_waits, .inl (cI, 9, .inl w6)), (A_t_opening_stands, .inl (cI, 9, .inl w7))] r0) 0 0 (va_A [(A_t, .inr (4, [.ref A_t_opening, .ref A_t_board, .ref A_t_trialOpening, .ref A_t_trial, .ref A_t_history, .ref A_t_snapshot, .int V_t_hasSnapshot, .ref A_t_text])), (A_t_opening, .inr (2, [.ref A_t_board, .ref A_t_opening_cut, .ref A_t_opening_counts, .ref A_t_opening_strength, .ref A_t_opening_reason, .ref A_t_opening_driver, .ref A_t_opening_waits, .ref A_t_opening_stands])), (A_t_board, .inr (0, [.ref A_t_board_numbers, .ref A_t_board_owners, .ref A_t_board_cells])), (A_t_board_numbers, .inl (cI, 10, .inl V_t_board_numbers)), (A_t_board_cells, .inl (cI, 63, .inl V_t_board_cells)), (A_t_opening_cut, .inl (cI, 9, .inl V_t_opening_cut)), (A_t_opening_counts, .inl (cI, 9, .inl V_t_opening_counts)), (A_t_opening_strength, .inl (cI, 9, .inl V_t_opening_strength)), (A_t_opening_reason, .inl (cI, 9, .inl V_t_opening_reason)), (A_t_opening_driver, .inl (cI, 9, .inl V_t_opening_driver)), (A_t_opening_waits, .inl (cI, 9, .inl V_t_opening_waits)), (A_t_opening_stands, .inl (cI, 9, .inl V_t_opening_stands))] sz) := by
  refine bodyWi (cc := cX4_danger) (maxL := 1) (lv := [(0, .ref A_t)]) (by decide) rfl (Nat.le_of_ble_eq_true rfl) rfl ?_
  intro p e s m args below meth c Q hx hb hml hown hts A hP hK hD hA hS fin ls hl
  replace hown : s.vm.findClass RX4 = some m.cls := hown
  have S : CallFix p m c cX4_danger 1 s args wsX4_danger RX4 := ⟨hx, hb, hml, hown, hts⟩
  unfold g_X4_danger at hg
  refine lv_aload_n hx hb dX4_danger_0 rfl (lv_at hl 0 rfl) ?_
  refine xget (ci := 4) (C := RX4) (T := TX4) (N := 8) (v := .ref A_t_opening) hx hb hts in_X4_danger_X4 hown hK hP 0 rfl rfl 0 (by decide) wd_X4_danger_1 rfl dX4_danger_1 ?_
  obtain ⟨f1, f2, f3, f4, f5, f6, f7, hq, hg⟩ := b7_ex hg
  refine callWVv (As := []) (rest := []) (wr := [(A_t, .inr (4, [.ref A_t_opening, .ref A_t_board, .ref A_t_trialOpening, .ref A_t_trial, .ref A_t_history, .ref A_t_snapshot, .int V_t_hasSnapshot, .ref A_t_text]))]) S hK hP hD hS hA (c_X2_study l D cI cZ cB cJ A_t_opening A_t_board A_t_opening_cut A_t_opening_counts A_t_opening_strength A_t_opening_reason A_t_opening_driver A_t_opening_waits A_t_opening_stands A_t_board_numbers A_t_board_owners A_t_board_cells _ V_t_board_numbers V_t_board_cells V_t_opening_cut V_t_opening_counts V_t_opening_strength V_t_opening_reason V_t_opening_driver V_t_opening_waits V_t_opening_stands f1 f2 f3 f4 f5 f6 f7 hq) [1, 2, 3, 4, 5, 6, 7, 8, 9, 10, 11] [0] rfl rfl (by decide +kernel) (by decide +kernel) (by decide +kernel) (cwV 0 hts gX4_danger_X2_study rfl rfl rfl hd_X2_study ⟨Nat.le_of_ble_eq_true rfl, Nat.le_of_ble_eq_true rfl⟩) rfl rfl rfl hl.1 rfl (Nat.le_of_ble_eq_true rfl) dX4_danger_4 ⟨Nat.zero_le _, Nat.zero_le _⟩ (fun H locs hP hD hS => ?_)
  replace hP : va_P D vwCl [(A_t, .inr (4, [.ref A_t_opening, .ref A_t_board, .ref A_t_trialOpening, .ref A_t_trial, .ref A_t_history, .ref A_t_snapshot, .int V_t_hasSnapshot, .ref A_t_text])), (A_t_opening, .inr (2, [.ref A_t_board, .ref A_t_opening_cut, .ref A_t_opening_counts, .ref A_t_opening_strength, .ref A_t_opening_reason, .ref A_t_opening_driver, .ref A_t_opening_waits, .ref A_t_opening_stands])), (A_t_board, .inr (0, [.ref A_t_board_numbers, .ref A_t_board_owners, .ref A_t_board_cells])), (A_t_board_numbers, .inl (cI, 10, .inl V_t_board_numbers)), (A_t_board_cells, .inl (cI, 63, .inl V_t_board_cells)), (A_t_opening_cut, .inl (cI, 9, .inl f1)), (A_t_opening_counts, .inl (cI, 9, .inl f2)), (A_t_opening_strength, .inl (cI, 9, .inl f3)), (A_t_opening_reason, .inl (cI, 9, .inl f4)), (A_t_opening_driver, .inl (cI, 9, .inl f5)), (A_t_opening_waits, .inl (cI, 9, .inl f6)), (A_t_opening_stands, .inl (cI, 9, .inl f7))] H := hP
  replace hD : va_D A [(A_t, .inr (4, [.ref A_t_opening, .ref A_t_board, .ref A_t_trialOpening, .ref A_t_trial, .ref A_t_history, .ref A_t_snapshot, .int V_t_hasSnapshot, .ref A_t_text])), (A_t_opening, .inr (2, [.ref A_t_board, .ref A_t_opening_cut, .ref A_t_opening_counts, .ref A_t_opening_strength, .ref A_t_opening_reason, .ref A_t_opening_driver, .ref A_t_opening_waits, .ref A_t_opening_stands])), (A_t_board, .inr (0, [.ref A_t_board_numbers, .ref A_t_board_owners, .ref A_t_board_cells])), (A_t_board_numbers, .inl (cI, 10, .inl V_t_board_numbers)), (A_t_board_cells, .inl (cI, 63, .inl V_t_board_cells)), (A_t_opening_cut, .inl (cI, 9, .inl f1)), (A_t_opening_counts, .inl (cI, 9, .inl f2)), (A_t_opening_strength, .inl (cI, 9, .inl f3)), (A_t_opening_reason, .inl (cI, 9, .inl f4)), (A_t_opening_driver, .inl (cI, 9, .inl f5)), (A_t_opening_waits, .inl (cI, 9, .inl f6)), (A_t_opening_stands, .inl (cI, 9, .inl f7))] := hD
  refine lv_aload_n hx hb dX4_danger_7 rfl (lv_at hl 0 rfl) ?_
  refine xget (ci := 4) (C := RX4) (T := TX4) (N := 8) (v := .ref A_t_opening) hx hb hts in_X4_danger_X4 hown hK hP 0 rfl rfl 0 (by decide) wd_X4_danger_1 rfl dX4_danger_8 ?_
  obtain ⟨v8, hq, hg⟩ := bind_ex hg
  refine callRVi (As := []) (rest := []) S hK hP (c_X2_mostInDanger l D cI cZ cB cJ A_t_opening A_t_board A_t_opening_cut A_t_opening_counts A_t_opening_strength A_t_opening_reason A_t_opening_driver A_t_opening_waits A_t_opening_stands A_t_board_numbers A_t_board_owners A_t_board_cells V_t_board_numbers f5 f6 f3 v8 hq) [1, 2, 3, 9, 10, 7] rfl (cwV 0 hts gX4_danger_X2_mostInDanger rfl rfl rfl hd_X2_mostInDanger ⟨Nat.le_of_ble_eq_true rfl, Nat.le_of_ble_eq_true rfl⟩) rfl rfl rfl hl.1 rfl (Nat.le_of_ble_eq_true rfl) dX4_danger_11 ⟨Nat.zero_le _, Nat.zero_le _⟩ ?_
  cases hg
  exact fin _ _ _ _ dX4_danger_14 hP hD hS
theorem hd_X4_successShare : yX4_successShare.cls = RX4 ∧ yX4_successShare.cls ≠ "java/lang/invoke/MethodHandle" ∧ yX4_successShare.cls ≠ "java/lang/invoke/VarHandle" ∧ (parseMethodDescriptor yX4_successShare.desc).map (fun d => d.parameters.length) = some 0 := by decide +kernel
theorem in_X4_successShare_X4 : ∀ w ∈ u_ws RX4 TX4 8, w ∈ wsX4_successShare := fun _ h => List.mem_cons_of_mem _ (List.mem_append_left _ (List.mem_append_right _ h))
theorem wd_X4_successShare_1 : Cond.fieldLink RX4 20 "FogOrders" "board" "LFogOrders$Board;" ∈ wsX4_successShare := List.mem_of_getElem? (i := 1) rfl
abbrev rX4_successShare : Room := { frames := 1, cells := 0, slots := 0, locals := 21 }
set_option maxHeartbeats 4000000 in
set_option maxRecDepth 100000 in
theorem c_X4_successShare (l : Launch) (D : va_G) (cI cZ cB cJ : ClassId) (A_t : Nat) (A_t_opening : Nat) (A_t_board : Nat) (A_t_trialOpening : Nat) (A_t_trial : Nat) (A_t_history : Nat) (A_t_snapshot : Nat) (A_t_text : Nat) (A_t_board_numbers : Nat) (A_t_board_owners : Nat) (A_t_board_cells : Nat) (V_t_hasSnapshot : Int32) (V_t_board_numbers : Nat → Int32) (r0 : UInt64) (hg : g_X4_successShare V_t_board_numbers = some r0) : Met l yX4_successShare wsX4_successShare rX4_successShare (PcR D cI cZ cB cJ [(A_t, .inr (4, [.ref A_t_opening, .ref A_t_board, .ref A_t_trialOpening, .ref A_t_trial, .ref A_t_history, .ref A_t_snapshot, .int V_t_hasSnapshot, .ref A_t_text])), (A_t_board, .inr (0, [.ref A_t_board_numbers, .ref A_t_board_owners, .ref A_t_board_cells])), (A_t_board_numbers, .inl (cI, 10, .inl V_t_board_numbers))] [.ref A_t]) (vp_Sd (fun r' => r' = r0)) 0 0 (fun _ => False) := by
  refine bodyRd (cc := cX4_successShare) (maxL := 3) (lv := [(0, .ref A_t)]) (by decide) rfl (Nat.le_of_ble_eq_true rfl) rfl ?_
  intro p e s m args below meth c Q hx hb hml hown hts hP hK fin ls hl
  replace hown : s.vm.findClass RX4 = some m.cls := hown
  have S : CallFix p m c cX4_successShare 3 s args wsX4_successShare RX4 := ⟨hx, hb, hml, hown, hts⟩
  unfold g_X4_successShare at hg
  refine lv_aload_n hx hb dX4_successShare_0 rfl (lv_at hl 0 rfl) ?_
  refine xget (ci := 4) (C := RX4) (T := TX4) (N := 8) (v := .ref A_t_board) hx hb hts in_X4_successShare_X4 hown hK hP 0 rfl rfl 1 (by decide) wd_X4_successShare_1 rfl dX4_successShare_1 ?_
  refine lv_iconst (v := 4) hx hb dX4_successShare_4 (by decide) ?_
  obtain ⟨v1, hq, hg⟩ := bind_ex hg
  refine callRVi (As := [.int 4]) (rest := []) S hK hP (c_X0_number l D cI cZ cB cJ A_t_board A_t_board_numbers A_t_board_owners A_t_board_cells V_t_board_numbers 4 v1 hq) [1, 2] rfl (cwV 1 hts gX4_successShare_X0_number rfl rfl rfl hd_X0_number ⟨Nat.le_of_ble_eq_true rfl, Nat.le_of_ble_eq_true rfl⟩) rfl rfl rfl hl.1 rfl (Nat.le_of_ble_eq_true rfl) dX4_successShare_5 ⟨Nat.zero_le _, Nat.zero_le _⟩ ?_
  refine lv_istore_n (lv' := [(1, .int v1), (0, .ref A_t)]) hx hb dX4_successShare_8 rfl hl (by decide) rfl (fun ls hl => ?_)
  refine lv_iload_n hx hb dX4_successShare_9 rfl (lv_at hl 0 rfl) ?_
  refine lv_aload_n hx hb dX4_successShare_10 rfl (lv_at hl 1 rfl) ?_
  refine xget (ci := 4) (C := RX4) (T := TX4) (N := 8) (v := .ref A_t_board) hx hb hts in_X4_successShare_X4 hown hK hP 0 rfl rfl 1 (by decide) wd_X4_successShare_1 rfl dX4_successShare_11 ?_
  refine lv_iconst (v := 5) hx hb dX4_successShare_14 (by decide) ?_
  obtain ⟨v2, hq, hg⟩ := bind_ex hg
  refine callRVi (As := [.int 5]) (rest := [.int v1]) S hK hP (c_X0_number l D cI cZ cB cJ A_t_board A_t_board_numbers A_t_board_owners A_t_board_cells V_t_board_numbers 5 v2 hq) [1, 2] rfl (cwV 1 hts gX4_successShare_X0_number rfl rfl rfl hd_X0_number ⟨Nat.le_of_ble_eq_true rfl, Nat.le_of_ble_eq_true rfl⟩) rfl rfl rfl hl.1 rfl (Nat.le_of_ble_eq_true rfl) dX4_successShare_15 ⟨Nat.zero_le _, Nat.zero_le _⟩ ?_
  refine lv_iadd hx hb dX4_successShare_18 ?_
  refine lv_istore_n (lv' := [(2, .int (v1 + v2)), (1, .int v1), (0, .ref A_t)]) hx hb dX4_successShare_19 rfl hl (by decide) rfl (fun ls hl => ?_)
  refine lv_iload_n hx hb dX4_successShare_20 rfl (lv_at hl 0 rfl) ?_
  have hJ1 : ∀ (v4 : UInt64), ∀ ls : Array Slot, lv_has ls 3 [] → g_X4_successShare_J1 v4 = some r0 → W p l e rX4_successShare s m args below meth c s.heap [] 0 0 Q (F0 m 33 ls [.double v4]) := by
    intro v4 ls hl hg
    unfold g_X4_successShare_J1 at hg
    cases hg
    exact fin _ _ dX4_successShare_33
  refine lv_if_le (tgt := 32) hx hb dX4_successShare_21 (by decide) (fun hc => ?_) (fun hc => ?_)
  · replace hg := if_yes hg hc
    refine lv_dconst1 hx hb dX4_successShare_32 ?_
    exact hJ1 _ _ (lv_sub hl [] rfl) hg
  · replace hg := if_no hg hc
    refine lv_iload_n hx hb dX4_successShare_24 rfl (lv_at hl 1 rfl) ?_
    refine lv_i2d hx hb dX4_successShare_25 ?_
    refine lv_iload_n hx hb dX4_successShare_26 rfl (lv_at hl 0 rfl) ?_
    refine lv_i2d hx hb dX4_successShare_27 ?_
    obtain ⟨v3, hin, hv, hg⟩ := ndA_ex hg
    refine xddiv hx hb hin hv dX4_successShare_28 ?_
    refine lv_goto (tgt := 33) hx hb dX4_successShare_29 (by decide) ?_
    exact hJ1 _ _ (lv_sub hl [] rfl) hg
theorem hd_X4_success : yX4_success.cls = RX4 ∧ yX4_success.cls ≠ "java/lang/invoke/MethodHandle" ∧ yX4_success.cls ≠ "java/lang/invoke/VarHandle" ∧ (parseMethodDescriptor yX4_success.desc).map (fun d => d.parameters.length) = some 0 := by decide +kernel
abbrev rX4_success : Room := { frames := 2, cells := 0, slots := 0, locals := 43 }
set_option maxHeartbeats 4000000 in
set_option maxRecDepth 100000 in
theorem c_X4_success (l : Launch) (D : va_G) (cI cZ cB cJ : ClassId) (A_t : Nat) (A_t_opening : Nat) (A_t_board : Nat) (A_t_trialOpening : Nat) (A_t_trial : Nat) (A_t_history : Nat) (A_t_snapshot : Nat) (A_t_text : Nat) (A_t_board_numbers : Nat) (A_t_board_owners : Nat) (A_t_board_cells : Nat) (V_t_hasSnapshot : Int32) (V_t_board_numbers : Nat → Int32) (r0 : UInt64) (hg : g_X4_success V_t_board_numbers = some r0) : Met l yX4_success wsX4_success rX4_success (PcR D cI cZ cB cJ [(A_t, .inr (4, [.ref A_t_opening, .ref A_t_board, .ref A_t_trialOpening, .ref A_t_trial, .ref A_t_history, .ref A_t_snapshot, .int V_t_hasSnapshot, .ref A_t_text])), (A_t_board, .inr (0, [.ref A_t_board_numbers, .ref A_t_board_owners, .ref A_t_board_cells])), (A_t_board_numbers, .inl (cI, 10, .inl V_t_board_numbers))] [.ref A_t]) (vp_Sd (fun r' => r' = r0)) 0 0 (fun _ => False) := by
  refine bodyRd (cc := cX4_success) (maxL := 1) (lv := [(0, .ref A_t)]) (by decide) rfl (Nat.le_of_ble_eq_true rfl) rfl ?_
  intro p e s m args below meth c Q hx hb hml hown hts hP hK fin ls hl
  replace hown : s.vm.findClass RX4 = some m.cls := hown
  have S : CallFix p m c cX4_success 1 s args wsX4_success RX4 := ⟨hx, hb, hml, hown, hts⟩
  unfold g_X4_success at hg
  refine lv_aload_n hx hb dX4_success_0 rfl (lv_at hl 0 rfl) ?_
  obtain ⟨v1, hq, hg⟩ := bind_ex hg
  refine callRVd (As := []) (rest := []) S hK hP (c_X4_successShare l D cI cZ cB cJ A_t A_t_opening A_t_board A_t_trialOpening A_t_trial A_t_history A_t_snapshot A_t_text A_t_board_numbers A_t_board_owners A_t_board_cells V_t_hasSnapshot V_t_board_numbers v1 hq) [0, 1, 2] rfl (cwV 0 hts gX4_success_X4_successShare rfl rfl rfl hd_X4_successShare ⟨Nat.le_of_ble_eq_true rfl, Nat.le_of_ble_eq_true rfl⟩) rfl rfl rfl hl.1 rfl (Nat.le_of_ble_eq_true rfl) dX4_success_1 ⟨Nat.zero_le _, Nat.zero_le _⟩ ?_
  cases hg
  exact fin _ _ dX4_success_4
theorem hd_X4_mixed : yX4_mixed.cls ≠ "java/lang/invoke/MethodHandle" ∧ yX4_mixed.cls ≠ "java/lang/invoke/VarHandle" ∧ (parseMethodDescriptor yX4_mixed.desc).map (fun d => d.parameters.length) = some 2 := by decide +kernel
theorem wd_X4_mixed_1 : Cond.constantLong RX4 275 (31) ∈ wsX4_mixed := List.mem_of_getElem? (i := 1) rfl
abbrev rX4_mixed : Room := { frames := 0, cells := 0, slots := 0, locals := 0 }
set_option maxHeartbeats 4000000 in
set_option maxRecDepth 100000 in
theorem c_X4_mixed (l : Launch) (D : va_G) (cI cZ cB cJ : ClassId) (x1 : Int64) (x2 : Int64) (r0 : Int64) (hg : g_X4_mixed x1 x2 = some r0) : Met l yX4_mixed wsX4_mixed rX4_mixed (PcR D cI cZ cB cJ [] [.long x1, .long x2]) (vp_Sl (fun r' => r' = r0)) 0 0 (fun _ => False) := by
  refine bodyRl (cc := cX4_mixed) (maxL := 4) (lv := [(0, .long x1), (2, .long x2)]) (by decide) rfl (Nat.le_of_ble_eq_true rfl) rfl ?_
  intro p e s m args below meth c Q hx hb hml hown hts hP hK fin ls hl
  replace hown : s.vm.findClass RX4 = some m.cls := hown
  have S : CallFix p m c cX4_mixed 4 s args wsX4_mixed RX4 := ⟨hx, hb, hml, hown, hts⟩
  unfold g_X4_mixed at hg
  refine lv_ldc2 hx hb hown (hts _ wd_X4_mixed_1) dX4_mixed_0 ?_
  refine lv_lload_n hx hb dX4_mixed_3 rfl (lv_at hl 0 rfl) ?_
  refine lv_lmul hx hb dX4_mixed_4 ?_
  refine lv_lload_n hx hb dX4_mixed_5 rfl (lv_at hl 1 rfl) ?_
  refine lv_ladd hx hb dX4_mixed_6 ?_
  cases hg
  exact fin _ _ dX4_mixed_7
theorem hd_X4_mixedArmies : yX4_mixedArmies.cls = RX4 ∧ yX4_mixedArmies.cls ≠ "java/lang/invoke/MethodHandle" ∧ yX4_mixedArmies.cls ≠ "java/lang/invoke/VarHandle" ∧ (parseMethodDescriptor yX4_mixedArmies.desc).map (fun d => d.parameters.length) = some 1 := by decide +kernel
theorem in_X4_mixedArmies_X4 : ∀ w ∈ u_ws RX4 TX4 8, w ∈ wsX4_mixedArmies := fun _ h => List.mem_cons_of_mem _ (List.mem_append_left _ (List.mem_append_left _ (List.mem_append_right _ h)))
theorem wd_X4_mixedArmies_1 : Cond.fieldLink RX4 20 "FogOrders" "board" "LFogOrders$Board;" ∈ wsX4_mixedArmies := List.mem_of_getElem? (i := 1) rfl
theorem wd_X4_mixedArmies_2 : Cond.fieldLink RX4 10 "FogOrders" "opening" "LFogOrders$Opening;" ∈ wsX4_mixedArmies := List.mem_of_getElem? (i := 2) rfl
abbrev rX4_mixedArmies : Room := { frames := 6, cells := 0, slots := 0, locals := 135 }
set_option maxHeartbeats 4000000 in
set_option maxRecDepth 100000 in
theorem c_X4_mixedArmies (l : Launch) (D : va_G) (cI cZ cB cJ : ClassId) (A_t : Nat) (A_t_opening : Nat) (A_t_board : Nat) (A_t_trialOpening : Nat) (A_t_trial : Nat) (A_t_history : Nat) (A_t_snapshot : Nat) (A_t_text : Nat) (A_t_board_numbers : Nat) (A_t_board_owners : Nat) (A_t_board_cells : Nat) (A_t_opening_cut : Nat) (A_t_opening_counts : Nat) (A_t_opening_strength : Nat) (A_t_opening_reason : Nat) (A_t_opening_driver : Nat) (A_t_opening_waits : Nat) (A_t_opening_stands : Nat) (A_t_trial_numbers : Nat) (A_t_trial_owners : Nat) (A_t_trial_cells : Nat) (A_t_trialOpening_cut : Nat) (A_t_trialOpening_counts : Nat) (A_t_trialOpening_strength : Nat) (A_t_trialOpening_reason : Nat) (A_t_trialOpening_driver : Nat) (A_t_trialOpening_waits : Nat) (A_t_trialOpening_stands : Nat) (sz : Nat) (V_t_hasSnapshot : Int32) (V_t_board_numbers : Nat → Int32) (V_t_board_cells : Nat → Int32) (V_t_opening_stands : Nat → Int32) (V_t_opening_strength : Nat → Int32) (V_t_opening_reason : Nat → Int32) (V_t_opening_driver : Nat → Int32) (V_t_opening_counts : Nat → Int32) (V_t_opening_cut : Nat → Int32) (V_t_trial_numbers : Nat → Int32) (V_t_board_owners : Nat → Int32) (V_t_trial_owners : Nat → Int32) (V_t_trial_cells : Nat → Int32) (V_t_trialOpening_cut : Nat → Int32) (V_t_trialOpening_counts : Nat → Int32) (V_t_trialOpening_strength : Nat → Int32) (V_t_trialOpening_reason : Nat → Int32) (x1 : Int64) (r0 : Int64) (w1 : Nat → Int32) (w2 : Nat → Int32) (w3 : Nat → Int32) (w4 : Nat → Int32) (w5 : Nat → Int32) (w6 : Nat → Int32) (w7 : Nat → Int32) (hg : g_X4_mixedArmies V_t_board_numbers V_t_board_cells V_t_opening_stands V_t_opening_strength V_t_opening_reason V_t_opening_driver V_t_opening_counts V_t_opening_cut V_t_trial_numbers V_t_board_owners V_t_trial_owners V_t_trial_cells V_t_trialOpening_cut V_t_trialOpening_counts V_t_trialOpening_strength V_t_trialOpening_reason x1 = some (r0, w1, w2, w3, w4, w5, w6, w7)) : Met l yX4_mixedArmies wsX4_mixedArmies rX4_mixedArmies (PcW D cI cZ cB cJ sz [(A_t, .inr (4, [.ref A_t_opening, .ref A_t_board, .ref A_t_trialOpening, .ref A_t_trial, .ref A_t_history, .ref A_t_snapshot, .int V_t_hasSnapshot, .ref A_t_text])), (A_t_board, .inr (0, [.ref A_t_board_numbers, .ref A_t_board_owners, .ref A_t_board_cells])), (A_t_board_numbers, .inl (cI, 10, .inl V_t_board_numbers)), (A_t_board_cells, .inl (cI, 63, .inl V_t_board_cells)), (A_t_opening, .inr (2, [.ref A_t_board, .ref A_t_opening_cut, .ref A_t_opening_counts, .ref A_t_opening_strength, .ref A_t_opening_reason, .ref A_t_opening_driver, .ref A_t_opening_waits, .ref A_t_opening_stands])), (A_t_opening_stands, .inl (cI, 9, .inl V_t_opening_stands)), (A_t_opening_strength, .inl (cI, 9, .inl V_t_opening_strength)), (A_t_opening_reason, .inl (cI, 9, .inl V_t_opening_reason)), (A_t_opening_driver, .inl (cI, 9, .inl V_t_opening_driver)), (A_t_opening_counts, .inl (cI, 9, .inl V_t_opening_counts)), (A_t_opening_cut, .inl (cI, 9, .inl V_t_opening_cut)), (A_t_trial, .inr (0, [.ref A_t_trial_numbers, .ref A_t_trial_owners, .ref A_t_trial_cells])), (A_t_trial_numbers, .inl (cI, 10, .inl V_t_trial_numbers)), (A_t_board_owners, .inl (cI, 12, .inl V_t_board_owners)), (A_t_trial_owners, .inl (cI, 12, .inl V_t_trial_owners)), (A_t_trial_cells, .inl (cI, 63, .inl V_t_trial_cells)), (A_t_trialOpening, .inr (2, [.ref A_t_trial, .ref A_t_trialOpening_cut, .ref A_t_trialOpening_counts, .ref A_t_trialOpening_strength, .ref A_t_trialOpening_reason, .ref A_t_trialOpening_driver, .ref A_t_trialOpening_waits, .ref A_t_trialOpening_stands])), (A_t_trialOpening_cut, .inl (cI, 9, .inl V_t_trialOpening_cut)), (A_t_trialOpening_counts, .inl (cI, 9, .inl V_t_trialOpening_counts)), (A_t_trialOpening_strength, .inl (cI, 9, .inl V_t_trialOpening_strength)), (A_t_trialOpening_reason, .inl (cI, 9, .inl V_t_trialOpening_reason))] [.ref A_t, .long x1]) (QWl D cI cZ cB cJ sz [(A_t, .inr (4, [.ref A_t_opening, .ref A_t_board, .ref A_t_trialOpening, .ref A_t_trial, .ref A_t_history, .ref A_t_snapshot, .int V_t_hasSnapshot, .ref A_t_text])), (A_t_board, .inr (0, [.ref A_t_board_numbers, .ref A_t_board_owners, .ref A_t_board_cells])), (A_t_board_numbers, .inl (cI, 10, .inl V_t_board_numbers)), (A_t_board_cells, .inl (cI, 63, .inl V_t_board_cells)), (A_t_opening, .inr (2, [.ref A_t_board, .ref A_t_opening_cut, .ref A_t_opening_counts, .ref A_t_opening_strength, .ref A_t_opening_reason, .ref A_t_opening_driver, .ref A_t_opening_waits, .ref A_t_opening_stands])), (A_t_opening_stands, .inl (cI, 9, .inl V_t_opening_stands)), (A_t_opening_strength, .inl (cI, 9, .inl V_t_opening_strength)), (A_t_opening_reason, .inl (cI, 9, .inl V_t_opening_reason)), (A_t_opening_driver, .inl (cI, 9, .inl V_t_opening_driver)), (A_t_opening_counts, .inl (cI, 9, .inl V_t_opening_counts)), (A_t_opening_cut, .inl (cI, 9, .inl V_t_opening_cut)), (A_t_trial, .inr (0, [.ref A_t_trial_numbers, .ref A_t_trial_owners, .ref A_t_trial_cells])), (A_t_trial_numbers, .inl (cI, 10, .inl V_t_trial_numbers)), (A_t_board_owners, .inl (cI, 12, .inl V_t_board_owners)), (A_t_trial_owners, .inl (cI, 12, .inl V_t_trial_owners)), (A_t_trial_cells, .inl (cI, 63, .inl V_t_trial_cells)), (A_t_trialOpening, .inr (2, [.ref A_t_trial, .ref A_t_trialOpening_cut, .ref A_t_trialOpening_counts, .ref A_t_trialOpening_strength, .ref A_t_trialOpening_reason, .ref A_t_trialOpening_driver, .ref A_t_trialOpening_waits, .ref A_t_trialOpening_stands])), (A_t_trialOpening_cut, .inl (cI, 9, .inl V_t_trialOpening_cut)), (A_t_trialOpening_counts, .inl (cI, 9, .inl V_t_trialOpening_counts)), (A_t_trialOpening_strength, .inl (cI, 9, .inl V_t_trialOpening_strength)), (A_t_trialOpening_reason, .inl (cI, 9, .inl V_t_trialOpening_reason))] [(A_t, .inr (4, [.ref A_t_opening, .ref A_t_board, .ref A_t_trialOpening, .ref A_t_trial, .ref A_t_history, .ref A_t_snapshot, .int V_t_hasSnapshot, .ref A_t_text])), (A_t_board, .inr (0, [.ref A_t_board_numbers, .ref A_t_board_owners, .ref A_t_board_cells])), (A_t_board_numbers, .inl (cI, 10, .inl V_t_board_numbers)), (A_t_board_cells, .inl (cI, 63, .inl V_t_board_cells)), (A_t_opening, .inr (2, [.ref A_t_board, .ref A_t_opening_cut, .ref A_t_opening_counts, .ref A_t_opening_strength, .ref A_t_opening_reason, .ref A_t_opening_driver, .ref A_t_opening_waits, .ref A_t_opening_stands])), (A_t_opening_stands, .inl (cI, 9, .inl V_t_opening_stands)), (A_t_opening_strength, .inl (cI, 9, .inl V_t_opening_strength)), (A_t_opening_reason, .inl (cI, 9, .inl V_t_opening_reason)), (A_t_opening_driver, .inl (cI, 9, .inl V_t_opening_driver)), (A_t_opening_counts, .inl (cI, 9, .inl V_t_opening_counts)), (A_t_opening_cut, .inl (cI, 9, .inl V_t_opening_cut)), (A_t_trial, .inr (0, [.ref A_t_trial_numbers, .ref A_t_trial_owners, .ref A_t_trial_cells])), (A_t_trial_numbers, .inl (cI, 10, .inl w1)), (A_t_board_owners, .inl (cI, 12, .inl V_t_board_owners)), (A_t_trial_owners, .inl (cI, 12, .inl w2)), (A_t_trial_cells, .inl (cI, 63, .inl w3)), (A_t_trialOpening, .inr (2, [.ref A_t_trial, .ref A_t_trialOpening_cut, .ref A_t_trialOpening_counts, .ref A_t_trialOpening_strength, .ref A_t_trialOpening_reason, .ref A_t_trialOpening_driver, .ref A_t_trialOpening_waits, .ref A_t_trialOpening_stands])), (A_t_trialOpening_cut, .inl (cI, 9, .inl w4)), (A_t_trialOpening_counts, .inl (cI, 9, .inl w5)), (A_t_trialOpening_strength, .inl (cI, 9, .inl w6)), (A_t_trialOpening_reason, .inl (cI, 9, .inl w7))] r0) 0 0 (va_A [(A_t, .inr (4, [.ref A_t_opening, .ref A_t_board, .ref A_t_trialOpening, .ref A_t_trial, .ref A_t_history, .ref A_t_snapshot, .int V_t_hasSnapshot, .ref A_t_text])), (A_t_board, .inr (0, [.ref A_t_board_numbers, .ref A_t_board_owners, .ref A_t_board_cells])), (A_t_board_numbers, .inl (cI, 10, .inl V_t_board_numbers)), (A_t_board_cells, .inl (cI, 63, .inl V_t_board_cells)), (A_t_opening, .inr (2, [.ref A_t_board, .ref A_t_opening_cut, .ref A_t_opening_counts, .ref A_t_opening_strength, .ref A_t_opening_reason, .ref A_t_opening_driver, .ref A_t_opening_waits, .ref A_t_opening_stands])), (A_t_opening_stands, .inl (cI, 9, .inl V_t_opening_stands)), (A_t_opening_strength, .inl (cI, 9, .inl V_t_opening_strength)), (A_t_opening_reason, .inl (cI, 9, .inl V_t_opening_reason)), (A_t_opening_driver, .inl (cI, 9, .inl V_t_opening_driver)), (A_t_opening_counts, .inl (cI, 9, .inl V_t_opening_counts)), (A_t_opening_cut, .inl (cI, 9, .inl V_t_opening_cut)), (A_t_trial, .inr (0, [.ref A_t_trial_numbers, .ref A_t_trial_owners, .ref A_t_trial_cells])), (A_t_trial_numbers, .inl (cI, 10, .inl V_t_trial_numbers)), (A_t_board_owners, .inl (cI, 12, .inl V_t_board_owners)), (A_t_trial_owners, .inl (cI, 12, .inl V_t_trial_owners)), (A_t_trial_cells, .inl (cI, 63, .inl V_t_trial_cells)), (A_t_trialOpening, .inr (2, [.ref A_t_trial, .ref A_t_trialOpening_cut, .ref A_t_trialOpening_counts, .ref A_t_trialOpening_strength, .ref A_t_trialOpening_reason, .ref A_t_trialOpening_driver, .ref A_t_trialOpening_waits, .ref A_t_trialOpening_stands])), (A_t_trialOpening_cut, .inl (cI, 9, .inl V_t_trialOpening_cut)), (A_t_trialOpening_counts, .inl (cI, 9, .inl V_t_trialOpening_counts)), (A_t_trialOpening_strength, .inl (cI, 9, .inl V_t_trialOpening_strength)), (A_t_trialOpening_reason, .inl (cI, 9, .inl V_t_trialOpening_reason))] sz) := by
  refine bodyWl (cc := cX4_mixedArmies) (maxL := 7) (lv := [(0, .ref A_t), (1, .long x1)]) (by decide) rfl (Nat.le_of_ble_eq_true rfl) rfl ?_
  intro p e s m args below meth c Q hx hb hml hown hts A hP hK hD hA hS fin ls hl
  replace hown : s.vm.findClass RX4 = some m.cls := hown
  have S : CallFix p m c cX4_mixedArmies 7 s args wsX4_mixedArmies RX4 := ⟨hx, hb, hml, hown, hts⟩
  unfold g_X4_mixedArmies at hg
  refine lv_lload_n hx hb dX4_mixedArmies_0 rfl (lv_at hl 1 rfl) ?_
  refine lv_lstore_n (lv' := [(3, .long x1), (0, .ref A_t), (1, .long x1)]) hx hb dX4_mixedArmies_1 rfl hl (by decide) rfl (fun ls hl => ?_)
  refine lv_iconst (v := 0) hx hb dX4_mixedArmies_2 (by decide) ?_
  refine lv_istore (lv' := [(5, .int 0), (3, .long x1), (0, .ref A_t), (1, .long x1)]) hx hb dX4_mixedArmies_3 hl (by decide) rfl (fun ls hl => ?_)
  obtain ⟨v30, f31, f32, f33, f34, f35, f36, f37, hL, hg⟩ := b8_ex hg
  have kx : ∀ (H : Heap) (locs : List Loc), va_P D vwCl [(A_t, .inr (4, [.ref A_t_opening, .ref A_t_board, .ref A_t_trialOpening, .ref A_t_trial, .ref A_t_history, .ref A_t_snapshot, .int V_t_hasSnapshot, .ref A_t_text])), (A_t_board, .inr (0, [.ref A_t_board_numbers, .ref A_t_board_owners, .ref A_t_board_cells])), (A_t_board_numbers, .inl (cI, 10, .inl V_t_board_numbers)), (A_t_board_cells, .inl (cI, 63, .inl V_t_board_cells)), (A_t_opening, .inr (2, [.ref A_t_board, .ref A_t_opening_cut, .ref A_t_opening_counts, .ref A_t_opening_strength, .ref A_t_opening_reason, .ref A_t_opening_driver, .ref A_t_opening_waits, .ref A_t_opening_stands])), (A_t_opening_stands, .inl (cI, 9, .inl V_t_opening_stands)), (A_t_opening_strength, .inl (cI, 9, .inl V_t_opening_strength)), (A_t_opening_reason, .inl (cI, 9, .inl V_t_opening_reason)), (A_t_opening_driver, .inl (cI, 9, .inl V_t_opening_driver)), (A_t_opening_counts, .inl (cI, 9, .inl V_t_opening_counts)), (A_t_opening_cut, .inl (cI, 9, .inl V_t_opening_cut)), (A_t_trial, .inr (0, [.ref A_t_trial_numbers, .ref A_t_trial_owners, .ref A_t_trial_cells])), (A_t_trial_numbers, .inl (cI, 10, .inl f32)), (A_t_board_owners, .inl (cI, 12, .inl V_t_board_owners)), (A_t_trial_owners, .inl (cI, 12, .inl f33)), (A_t_trial_cells, .inl (cI, 63, .inl f31)), (A_t_trialOpening, .inr (2, [.ref A_t_trial, .ref A_t_trialOpening_cut, .ref A_t_trialOpening_counts, .ref A_t_trialOpening_strength, .ref A_t_trialOpening_reason, .ref A_t_trialOpening_driver, .ref A_t_trialOpening_waits, .ref A_t_trialOpening_stands])), (A_t_trialOpening_cut, .inl (cI, 9, .inl f35)), (A_t_trialOpening_counts, .inl (cI, 9, .inl f34)), (A_t_trialOpening_strength, .inl (cI, 9, .inl f37)), (A_t_trialOpening_reason, .inl (cI, 9, .inl f36))] H → va_D A [(A_t, .inr (4, [.ref A_t_opening, .ref A_t_board, .ref A_t_trialOpening, .ref A_t_trial, .ref A_t_history, .ref A_t_snapshot, .int V_t_hasSnapshot, .ref A_t_text])), (A_t_board, .inr (0, [.ref A_t_board_numbers, .ref A_t_board_owners, .ref A_t_board_cells])), (A_t_board_numbers, .inl (cI, 10, .inl V_t_board_numbers)), (A_t_board_cells, .inl (cI, 63, .inl V_t_board_cells)), (A_t_opening, .inr (2, [.ref A_t_board, .ref A_t_opening_cut, .ref A_t_opening_counts, .ref A_t_opening_strength, .ref A_t_opening_reason, .ref A_t_opening_driver, .ref A_t_opening_waits, .ref A_t_opening_stands])), (A_t_opening_stands, .inl (cI, 9, .inl V_t_opening_stands)), (A_t_opening_strength, .inl (cI, 9, .inl V_t_opening_strength)), (A_t_opening_reason, .inl (cI, 9, .inl V_t_opening_reason)), (A_t_opening_driver, .inl (cI, 9, .inl V_t_opening_driver)), (A_t_opening_counts, .inl (cI, 9, .inl V_t_opening_counts)), (A_t_opening_cut, .inl (cI, 9, .inl V_t_opening_cut)), (A_t_trial, .inr (0, [.ref A_t_trial_numbers, .ref A_t_trial_owners, .ref A_t_trial_cells])), (A_t_trial_numbers, .inl (cI, 10, .inl f32)), (A_t_board_owners, .inl (cI, 12, .inl V_t_board_owners)), (A_t_trial_owners, .inl (cI, 12, .inl f33)), (A_t_trial_cells, .inl (cI, 63, .inl f31)), (A_t_trialOpening, .inr (2, [.ref A_t_trial, .ref A_t_trialOpening_cut, .ref A_t_trialOpening_counts, .ref A_t_trialOpening_strength, .ref A_t_trialOpening_reason, .ref A_t_trialOpening_driver, .ref A_t_trialOpening_waits, .ref A_t_trialOpening_stands])), (A_t_trialOpening_cut, .inl (cI, 9, .inl f35)), (A_t_trialOpening_counts, .inl (cI, 9, .inl f34)), (A_t_trialOpening_strength, .inl (cI, 9, .inl f37)), (A_t_trialOpening_reason, .inl (cI, 9, .inl f36))] → va_S A s.heap H locs → ∀ ls : Array Slot, lv_has ls 7 [(3, .long v30)] → W p l e rX4_mixedArmies s m args below meth c H locs 0 0 Q (F0 m 102 ls []) := by
    intro H locs hP hD hS ls hl
    refine lv_lload_n hx hb dX4_mixedArmies_102 rfl (lv_at hl 0 rfl) ?_
    cases hg
    exact fin _ _ _ _ dX4_mixedArmies_103 hP hD hS
  have L : ∀ (nf : Nat) (v1 : Int64) (v2 : Int32) (f3 : Nat → Int32) (f4 : Nat → Int32) (f5 : Nat → Int32) (f6 : Nat → Int32) (f7 : Nat → Int32) (f8 : Nat → Int32) (f9 : Nat → Int32), ∀ (H : Heap) (locs : List Loc), va_P D vwCl [(A_t, .inr (4, [.ref A_t_opening, .ref A_t_board, .ref A_t_trialOpening, .ref A_t_trial, .ref A_t_history, .ref A_t_snapshot, .int V_t_hasSnapshot, .ref A_t_text])), (A_t_board, .inr (0, [.ref A_t_board_numbers, .ref A_t_board_owners, .ref A_t_board_cells])), (A_t_board_numbers, .inl (cI, 10, .inl V_t_board_numbers)), (A_t_board_cells, .inl (cI, 63, .inl V_t_board_cells)), (A_t_opening, .inr (2, [.ref A_t_board, .ref A_t_opening_cut, .ref A_t_opening_counts, .ref A_t_opening_strength, .ref A_t_opening_reason, .ref A_t_opening_driver, .ref A_t_opening_waits, .ref A_t_opening_stands])), (A_t_opening_stands, .inl (cI, 9, .inl V_t_opening_stands)), (A_t_opening_strength, .inl (cI, 9, .inl V_t_opening_strength)), (A_t_opening_reason, .inl (cI, 9, .inl V_t_opening_reason)), (A_t_opening_driver, .inl (cI, 9, .inl V_t_opening_driver)), (A_t_opening_counts, .inl (cI, 9, .inl V_t_opening_counts)), (A_t_opening_cut, .inl (cI, 9, .inl V_t_opening_cut)), (A_t_trial, .inr (0, [.ref A_t_trial_numbers, .ref A_t_trial_owners, .ref A_t_trial_cells])), (A_t_trial_numbers, .inl (cI, 10, .inl f4)), (A_t_board_owners, .inl (cI, 12, .inl V_t_board_owners)), (A_t_trial_owners, .inl (cI, 12, .inl f5)), (A_t_trial_cells, .inl (cI, 63, .inl f3)), (A_t_trialOpening, .inr (2, [.ref A_t_trial, .ref A_t_trialOpening_cut, .ref A_t_trialOpening_counts, .ref A_t_trialOpening_strength, .ref A_t_trialOpening_reason, .ref A_t_trialOpening_driver, .ref A_t_trialOpening_waits, .ref A_t_trialOpening_stands])), (A_t_trialOpening_cut, .inl (cI, 9, .inl f7)), (A_t_trialOpening_counts, .inl (cI, 9, .inl f6)), (A_t_trialOpening_strength, .inl (cI, 9, .inl f9)), (A_t_trialOpening_reason, .inl (cI, 9, .inl f8))] H → va_D A [(A_t, .inr (4, [.ref A_t_opening, .ref A_t_board, .ref A_t_trialOpening, .ref A_t_trial, .ref A_t_history, .ref A_t_snapshot, .int V_t_hasSnapshot, .ref A_t_text])), (A_t_board, .inr (0, [.ref A_t_board_numbers, .ref A_t_board_owners, .ref A_t_board_cells])), (A_t_board_numbers, .inl (cI, 10, .inl V_t_board_numbers)), (A_t_board_cells, .inl (cI, 63, .inl V_t_board_cells)), (A_t_opening, .inr (2, [.ref A_t_board, .ref A_t_opening_cut, .ref A_t_opening_counts, .ref A_t_opening_strength, .ref A_t_opening_reason, .ref A_t_opening_driver, .ref A_t_opening_waits, .ref A_t_opening_stands])), (A_t_opening_stands, .inl (cI, 9, .inl V_t_opening_stands)), (A_t_opening_strength, .inl (cI, 9, .inl V_t_opening_strength)), (A_t_opening_reason, .inl (cI, 9, .inl V_t_opening_reason)), (A_t_opening_driver, .inl (cI, 9, .inl V_t_opening_driver)), (A_t_opening_counts, .inl (cI, 9, .inl V_t_opening_counts)), (A_t_opening_cut, .inl (cI, 9, .inl V_t_opening_cut)), (A_t_trial, .inr (0, [.ref A_t_trial_numbers, .ref A_t_trial_owners, .ref A_t_trial_cells])), (A_t_trial_numbers, .inl (cI, 10, .inl f4)), (A_t_board_owners, .inl (cI, 12, .inl V_t_board_owners)), (A_t_trial_owners, .inl (cI, 12, .inl f5)), (A_t_trial_cells, .inl (cI, 63, .inl f3)), (A_t_trialOpening, .inr (2, [.ref A_t_trial, .ref A_t_trialOpening_cut, .ref A_t_trialOpening_counts, .ref A_t_trialOpening_strength, .ref A_t_trialOpening_reason, .ref A_t_trialOpening_driver, .ref A_t_trialOpening_waits, .ref A_t_trialOpening_stands])), (A_t_trialOpening_cut, .inl (cI, 9, .inl f7)), (A_t_trialOpening_counts, .inl (cI, 9, .inl f6)), (A_t_trialOpening_strength, .inl (cI, 9, .inl f9)), (A_t_trialOpening_reason, .inl (cI, 9, .inl f8))] → va_S A s.heap H locs → ∀ ls : Array Slot, lv_has ls 7 [(5, .int v2), (3, .long v1), (0, .ref A_t)] → g_X4_mixedArmies_L1 V_t_board_numbers V_t_board_cells V_t_opening_stands V_t_opening_strength V_t_opening_reason V_t_opening_driver V_t_opening_counts V_t_opening_cut V_t_board_owners nf v1 v2 f3 f4 f5 f6 f7 f8 f9 = some (v30, f31, f32, f33, f34, f35, f36, f37) → W p l e rX4_mixedArmies s m args below meth c H locs 0 0 Q (F0 m 5 ls []) := by
    intro nf
    induction nf with
    | zero =>
      intro v1 v2 f3 f4 f5 f6 f7 f8 f9 H locs hP hD hS ls hl hg
      exact no_some hg
    | succ nf ih =>
      intro v1 v2 f3 f4 f5 f6 f7 f8 f9 H locs hP hD hS ls hl hg
      rw [g_X4_mixedArmies_L1] at hg
      refine lv_iload hx hb dX4_mixedArmies_5 (lv_at hl 0 rfl) ?_
      refine lv_aload_n hx hb dX4_mixedArmies_7 rfl (lv_at hl 2 rfl) ?_
      refine xget (ci := 4) (C := RX4) (T := TX4) (N := 8) (v := .ref A_t_board) hx hb hts in_X4_mixedArmies_X4 hown hK hP 0 rfl rfl 1 (by decide) wd_X4_mixedArmies_1 rfl dX4_mixedArmies_8 ?_
      refine lv_iconst (v := 0) hx hb dX4_mixedArmies_11 (by decide) ?_
      obtain ⟨v10, hq, hg⟩ := bind_ex hg
      refine callRVi (As := [.int 0]) (rest := [.int v2]) S hK hP (c_X0_number l D cI cZ cB cJ A_t_board A_t_board_numbers A_t_board_owners A_t_board_cells V_t_board_numbers 0 v10 hq) [1, 2] rfl (cwV 1 hts gX4_mixedArmies_X0_number rfl rfl rfl hd_X0_number ⟨Nat.le_of_ble_eq_true rfl, Nat.le_of_ble_eq_true rfl⟩) rfl rfl rfl hl.1 rfl (Nat.le_of_ble_eq_true rfl) dX4_mixedArmies_12 ⟨Nat.zero_le _, Nat.zero_le _⟩ ?_
      refine lv_icmp_ge (tgt := 102) hx hb dX4_mixedArmies_15 (by decide) (fun hc => ?_) (fun hc => ?_)
      · replace hg := if_yes hg hc
        cases hg
        exact kx _ _ hP hD hS _ (lv_sub hl [1] rfl)
      · replace hg := if_no hg hc
        refine lv_iconst (v := 0) hx hb dX4_mixedArmies_18 (by decide) ?_
        refine lv_istore (lv' := [(6, .int 0), (5, .int v2), (3, .long v1), (0, .ref A_t)]) hx hb dX4_mixedArmies_19 hl (by decide) rfl (fun ls hl => ?_)
        obtain ⟨v15, hL, hg⟩ := bind_ex hg
        have kx : ∀ (H : Heap) (locs : List Loc), va_P D vwCl [(A_t, .inr (4, [.ref A_t_opening, .ref A_t_board, .ref A_t_trialOpening, .ref A_t_trial, .ref A_t_history, .ref A_t_snapshot, .int V_t_hasSnapshot, .ref A_t_text])), (A_t_board, .inr (0, [.ref A_t_board_numbers, .ref A_t_board_owners, .ref A_t_board_cells])), (A_t_board_numbers, .inl (cI, 10, .inl V_t_board_numbers)), (A_t_board_cells, .inl (cI, 63, .inl V_t_board_cells)), (A_t_opening, .inr (2, [.ref A_t_board, .ref A_t_opening_cut, .ref A_t_opening_counts, .ref A_t_opening_strength, .ref A_t_opening_reason, .ref A_t_opening_driver, .ref A_t_opening_waits, .ref A_t_opening_stands])), (A_t_opening_stands, .inl (cI, 9, .inl V_t_opening_stands)), (A_t_opening_strength, .inl (cI, 9, .inl V_t_opening_strength)), (A_t_opening_reason, .inl (cI, 9, .inl V_t_opening_reason)), (A_t_opening_driver, .inl (cI, 9, .inl V_t_opening_driver)), (A_t_opening_counts, .inl (cI, 9, .inl V_t_opening_counts)), (A_t_opening_cut, .inl (cI, 9, .inl V_t_opening_cut)), (A_t_trial, .inr (0, [.ref A_t_trial_numbers, .ref A_t_trial_owners, .ref A_t_trial_cells])), (A_t_trial_numbers, .inl (cI, 10, .inl f4)), (A_t_board_owners, .inl (cI, 12, .inl V_t_board_owners)), (A_t_trial_owners, .inl (cI, 12, .inl f5)), (A_t_trial_cells, .inl (cI, 63, .inl f3)), (A_t_trialOpening, .inr (2, [.ref A_t_trial, .ref A_t_trialOpening_cut, .ref A_t_trialOpening_counts, .ref A_t_trialOpening_strength, .ref A_t_trialOpening_reason, .ref A_t_trialOpening_driver, .ref A_t_trialOpening_waits, .ref A_t_trialOpening_stands])), (A_t_trialOpening_cut, .inl (cI, 9, .inl f7)), (A_t_trialOpening_counts, .inl (cI, 9, .inl f6)), (A_t_trialOpening_strength, .inl (cI, 9, .inl f9)), (A_t_trialOpening_reason, .inl (cI, 9, .inl f8))] H → va_D A [(A_t, .inr (4, [.ref A_t_opening, .ref A_t_board, .ref A_t_trialOpening, .ref A_t_trial, .ref A_t_history, .ref A_t_snapshot, .int V_t_hasSnapshot, .ref A_t_text])), (A_t_board, .inr (0, [.ref A_t_board_numbers, .ref A_t_board_owners, .ref A_t_board_cells])), (A_t_board_numbers, .inl (cI, 10, .inl V_t_board_numbers)), (A_t_board_cells, .inl (cI, 63, .inl V_t_board_cells)), (A_t_opening, .inr (2, [.ref A_t_board, .ref A_t_opening_cut, .ref A_t_opening_counts, .ref A_t_opening_strength, .ref A_t_opening_reason, .ref A_t_opening_driver, .ref A_t_opening_waits, .ref A_t_opening_stands])), (A_t_opening_stands, .inl (cI, 9, .inl V_t_opening_stands)), (A_t_opening_strength, .inl (cI, 9, .inl V_t_opening_strength)), (A_t_opening_reason, .inl (cI, 9, .inl V_t_opening_reason)), (A_t_opening_driver, .inl (cI, 9, .inl V_t_opening_driver)), (A_t_opening_counts, .inl (cI, 9, .inl V_t_opening_counts)), (A_t_opening_cut, .inl (cI, 9, .inl V_t_opening_cut)), (A_t_trial, .inr (0, [.ref A_t_trial_numbers, .ref A_t_trial_owners, .ref A_t_trial_cells])), (A_t_trial_numbers, .inl (cI, 10, .inl f4)), (A_t_board_owners, .inl (cI, 12, .inl V_t_board_owners)), (A_t_trial_owners, .inl (cI, 12, .inl f5)), (A_t_trial_cells, .inl (cI, 63, .inl f3)), (A_t_trialOpening, .inr (2, [.ref A_t_trial, .ref A_t_trialOpening_cut, .ref A_t_trialOpening_counts, .ref A_t_trialOpening_strength, .ref A_t_trialOpening_reason, .ref A_t_trialOpening_driver, .ref A_t_trialOpening_waits, .ref A_t_trialOpening_stands])), (A_t_trialOpening_cut, .inl (cI, 9, .inl f7)), (A_t_trialOpening_counts, .inl (cI, 9, .inl f6)), (A_t_trialOpening_strength, .inl (cI, 9, .inl f9)), (A_t_trialOpening_reason, .inl (cI, 9, .inl f8))] → va_S A s.heap H locs → ∀ ls : Array Slot, lv_has ls 7 [(5, .int v2), (3, .long v15), (0, .ref A_t)] → W p l e rX4_mixedArmies s m args below meth c H locs 0 0 Q (F0 m 51 ls []) := by
          intro H locs hP hD hS ls hl
          refine lv_iconst (v := 0) hx hb dX4_mixedArmies_51 (by decide) ?_
          refine lv_istore (lv' := [(6, .int 0), (5, .int v2), (3, .long v15), (0, .ref A_t)]) hx hb dX4_mixedArmies_52 hl (by decide) rfl (fun ls hl => ?_)
          obtain ⟨v20, hL, hg⟩ := bind_ex hg
          have kx : ∀ (H : Heap) (locs : List Loc), va_P D vwCl [(A_t, .inr (4, [.ref A_t_opening, .ref A_t_board, .ref A_t_trialOpening, .ref A_t_trial, .ref A_t_history, .ref A_t_snapshot, .int V_t_hasSnapshot, .ref A_t_text])), (A_t_board, .inr (0, [.ref A_t_board_numbers, .ref A_t_board_owners, .ref A_t_board_cells])), (A_t_board_numbers, .inl (cI, 10, .inl V_t_board_numbers)), (A_t_board_cells, .inl (cI, 63, .inl V_t_board_cells)), (A_t_opening, .inr (2, [.ref A_t_board, .ref A_t_opening_cut, .ref A_t_opening_counts, .ref A_t_opening_strength, .ref A_t_opening_reason, .ref A_t_opening_driver, .ref A_t_opening_waits, .ref A_t_opening_stands])), (A_t_opening_stands, .inl (cI, 9, .inl V_t_opening_stands)), (A_t_opening_strength, .inl (cI, 9, .inl V_t_opening_strength)), (A_t_opening_reason, .inl (cI, 9, .inl V_t_opening_reason)), (A_t_opening_driver, .inl (cI, 9, .inl V_t_opening_driver)), (A_t_opening_counts, .inl (cI, 9, .inl V_t_opening_counts)), (A_t_opening_cut, .inl (cI, 9, .inl V_t_opening_cut)), (A_t_trial, .inr (0, [.ref A_t_trial_numbers, .ref A_t_trial_owners, .ref A_t_trial_cells])), (A_t_trial_numbers, .inl (cI, 10, .inl f4)), (A_t_board_owners, .inl (cI, 12, .inl V_t_board_owners)), (A_t_trial_owners, .inl (cI, 12, .inl f5)), (A_t_trial_cells, .inl (cI, 63, .inl f3)), (A_t_trialOpening, .inr (2, [.ref A_t_trial, .ref A_t_trialOpening_cut, .ref A_t_trialOpening_counts, .ref A_t_trialOpening_strength, .ref A_t_trialOpening_reason, .ref A_t_trialOpening_driver, .ref A_t_trialOpening_waits, .ref A_t_trialOpening_stands])), (A_t_trialOpening_cut, .inl (cI, 9, .inl f7)), (A_t_trialOpening_counts, .inl (cI, 9, .inl f6)), (A_t_trialOpening_strength, .inl (cI, 9, .inl f9)), (A_t_trialOpening_reason, .inl (cI, 9, .inl f8))] H → va_D A [(A_t, .inr (4, [.ref A_t_opening, .ref A_t_board, .ref A_t_trialOpening, .ref A_t_trial, .ref A_t_history, .ref A_t_snapshot, .int V_t_hasSnapshot, .ref A_t_text])), (A_t_board, .inr (0, [.ref A_t_board_numbers, .ref A_t_board_owners, .ref A_t_board_cells])), (A_t_board_numbers, .inl (cI, 10, .inl V_t_board_numbers)), (A_t_board_cells, .inl (cI, 63, .inl V_t_board_cells)), (A_t_opening, .inr (2, [.ref A_t_board, .ref A_t_opening_cut, .ref A_t_opening_counts, .ref A_t_opening_strength, .ref A_t_opening_reason, .ref A_t_opening_driver, .ref A_t_opening_waits, .ref A_t_opening_stands])), (A_t_opening_stands, .inl (cI, 9, .inl V_t_opening_stands)), (A_t_opening_strength, .inl (cI, 9, .inl V_t_opening_strength)), (A_t_opening_reason, .inl (cI, 9, .inl V_t_opening_reason)), (A_t_opening_driver, .inl (cI, 9, .inl V_t_opening_driver)), (A_t_opening_counts, .inl (cI, 9, .inl V_t_opening_counts)), (A_t_opening_cut, .inl (cI, 9, .inl V_t_opening_cut)), (A_t_trial, .inr (0, [.ref A_t_trial_numbers, .ref A_t_trial_owners, .ref A_t_trial_cells])), (A_t_trial_numbers, .inl (cI, 10, .inl f4)), (A_t_board_owners, .inl (cI, 12, .inl V_t_board_owners)), (A_t_trial_owners, .inl (cI, 12, .inl f5)), (A_t_trial_cells, .inl (cI, 63, .inl f3)), (A_t_trialOpening, .inr (2, [.ref A_t_trial, .ref A_t_trialOpening_cut, .ref A_t_trialOpening_counts, .ref A_t_trialOpening_strength, .ref A_t_trialOpening_reason, .ref A_t_trialOpening_driver, .ref A_t_trialOpening_waits, .ref A_t_trialOpening_stands])), (A_t_trialOpening_cut, .inl (cI, 9, .inl f7)), (A_t_trialOpening_counts, .inl (cI, 9, .inl f6)), (A_t_trialOpening_strength, .inl (cI, 9, .inl f9)), (A_t_trialOpening_reason, .inl (cI, 9, .inl f8))] → va_S A s.heap H locs → ∀ ls : Array Slot, lv_has ls 7 [(5, .int v2), (3, .long v20), (0, .ref A_t)] → W p l e rX4_mixedArmies s m args below meth c H locs 0 0 Q (F0 m 84 ls []) := by
            intro H locs hP hD hS ls hl
            refine lv_lload_n hx hb dX4_mixedArmies_84 rfl (lv_at hl 1 rfl) ?_
            refine lv_aload_n hx hb dX4_mixedArmies_85 rfl (lv_at hl 2 rfl) ?_
            refine lv_iload hx hb dX4_mixedArmies_86 (lv_at hl 0 rfl) ?_
            obtain ⟨v28, f21, f22, f23, f24, f25, f26, f27, hq, hg⟩ := b8_ex hg
            refine callWV (As := [.int v2]) (rest := [.long v20]) (wr := [(A_t_opening, .inr (2, [.ref A_t_board, .ref A_t_opening_cut, .ref A_t_opening_counts, .ref A_t_opening_strength, .ref A_t_opening_reason, .ref A_t_opening_driver, .ref A_t_opening_waits, .ref A_t_opening_stands])), (A_t_opening_stands, .inl (cI, 9, .inl V_t_opening_stands)), (A_t_opening_strength, .inl (cI, 9, .inl V_t_opening_strength)), (A_t_opening_reason, .inl (cI, 9, .inl V_t_opening_reason)), (A_t_opening_driver, .inl (cI, 9, .inl V_t_opening_driver)), (A_t_opening_counts, .inl (cI, 9, .inl V_t_opening_counts)), (A_t_opening_cut, .inl (cI, 9, .inl V_t_opening_cut))]) S hK hP hD hS hA (c_X4_reachMask l D cI cZ cB cJ A_t A_t_opening A_t_board A_t_trialOpening A_t_trial A_t_history A_t_snapshot A_t_text A_t_trial_numbers A_t_trial_owners A_t_trial_cells A_t_board_numbers A_t_board_owners A_t_board_cells A_t_trialOpening_cut A_t_trialOpening_counts A_t_trialOpening_strength A_t_trialOpening_reason A_t_trialOpening_driver A_t_trialOpening_waits A_t_trialOpening_stands _ V_t_hasSnapshot V_t_board_numbers f4 V_t_board_owners f5 V_t_board_cells f3 f7 f6 f9 f8 v2 v28 f21 f22 f23 f24 f25 f26 f27 hq) [0, 11, 1, 2, 12, 13, 14, 3, 15, 16, 17, 18, 19, 20] [4, 5, 6, 7, 8, 9, 10] rfl rfl (by decide +kernel) (by decide +kernel) (by decide +kernel) (cwV 1 hts gX4_mixedArmies_X4_reachMask rfl rfl rfl hd_X4_reachMask ⟨Nat.le_of_ble_eq_true rfl, Nat.le_of_ble_eq_true rfl⟩) rfl rfl rfl hl.1 rfl (Nat.le_of_ble_eq_true rfl) dX4_mixedArmies_88 ⟨Nat.zero_le _, Nat.zero_le _⟩ (fun H locs hP hD hS => ?_)
            replace hP : va_P D vwCl [(A_t_opening, .inr (2, [.ref A_t_board, .ref A_t_opening_cut, .ref A_t_opening_counts, .ref A_t_opening_strength, .ref A_t_opening_reason, .ref A_t_opening_driver, .ref A_t_opening_waits, .ref A_t_opening_stands])), (A_t_opening_stands, .inl (cI, 9, .inl V_t_opening_stands)), (A_t_opening_strength, .inl (cI, 9, .inl V_t_opening_strength)), (A_t_opening_reason, .inl (cI, 9, .inl V_t_opening_reason)), (A_t_opening_driver, .inl (cI, 9, .inl V_t_opening_driver)), (A_t_opening_counts, .inl (cI, 9, .inl V_t_opening_counts)), (A_t_opening_cut, .inl (cI, 9, .inl V_t_opening_cut)), (A_t, .inr (4, [.ref A_t_opening, .ref A_t_board, .ref A_t_trialOpening, .ref A_t_trial, .ref A_t_history, .ref A_t_snapshot, .int V_t_hasSnapshot, .ref A_t_text])), (A_t_trial, .inr (0, [.ref A_t_trial_numbers, .ref A_t_trial_owners, .ref A_t_trial_cells])), (A_t_board, .inr (0, [.ref A_t_board_numbers, .ref A_t_board_owners, .ref A_t_board_cells])), (A_t_board_numbers, .inl (cI, 10, .inl V_t_board_numbers)), (A_t_trial_numbers, .inl (cI, 10, .inl f21)), (A_t_board_owners, .inl (cI, 12, .inl V_t_board_owners)), (A_t_trial_owners, .inl (cI, 12, .inl f22)), (A_t_board_cells, .inl (cI, 63, .inl V_t_board_cells)), (A_t_trial_cells, .inl (cI, 63, .inl f23)), (A_t_trialOpening, .inr (2, [.ref A_t_trial, .ref A_t_trialOpening_cut, .ref A_t_trialOpening_counts, .ref A_t_trialOpening_strength, .ref A_t_trialOpening_reason, .ref A_t_trialOpening_driver, .ref A_t_trialOpening_waits, .ref A_t_trialOpening_stands])), (A_t_trialOpening_cut, .inl (cI, 9, .inl f24)), (A_t_trialOpening_counts, .inl (cI, 9, .inl f25)), (A_t_trialOpening_strength, .inl (cI, 9, .inl f26)), (A_t_trialOpening_reason, .inl (cI, 9, .inl f27))] H := hP
            replace hD : va_D A [(A_t_opening, .inr (2, [.ref A_t_board, .ref A_t_opening_cut, .ref A_t_opening_counts, .ref A_t_opening_strength, .ref A_t_opening_reason, .ref A_t_opening_driver, .ref A_t_opening_waits, .ref A_t_opening_stands])), (A_t_opening_stands, .inl (cI, 9, .inl V_t_opening_stands)), (A_t_opening_strength, .inl (cI, 9, .inl V_t_opening_strength)), (A_t_opening_reason, .inl (cI, 9, .inl V_t_opening_reason)), (A_t_opening_driver, .inl (cI, 9, .inl V_t_opening_driver)), (A_t_opening_counts, .inl (cI, 9, .inl V_t_opening_counts)), (A_t_opening_cut, .inl (cI, 9, .inl V_t_opening_cut)), (A_t, .inr (4, [.ref A_t_opening, .ref A_t_board, .ref A_t_trialOpening, .ref A_t_trial, .ref A_t_history, .ref A_t_snapshot, .int V_t_hasSnapshot, .ref A_t_text])), (A_t_trial, .inr (0, [.ref A_t_trial_numbers, .ref A_t_trial_owners, .ref A_t_trial_cells])), (A_t_board, .inr (0, [.ref A_t_board_numbers, .ref A_t_board_owners, .ref A_t_board_cells])), (A_t_board_numbers, .inl (cI, 10, .inl V_t_board_numbers)), (A_t_trial_numbers, .inl (cI, 10, .inl f21)), (A_t_board_owners, .inl (cI, 12, .inl V_t_board_owners)), (A_t_trial_owners, .inl (cI, 12, .inl f22)), (A_t_board_cells, .inl (cI, 63, .inl V_t_board_cells)), (A_t_trial_cells, .inl (cI, 63, .inl f23)), (A_t_trialOpening, .inr (2, [.ref A_t_trial, .ref A_t_trialOpening_cut, .ref A_t_trialOpening_counts, .ref A_t_trialOpening_strength, .ref A_t_trialOpening_reason, .ref A_t_trialOpening_driver, .ref A_t_trialOpening_waits, .ref A_t_trialOpening_stands])), (A_t_trialOpening_cut, .inl (cI, 9, .inl f24)), (A_t_trialOpening_counts, .inl (cI, 9, .inl f25)), (A_t_trialOpening_strength, .inl (cI, 9, .inl f26)), (A_t_trialOpening_reason, .inl (cI, 9, .inl f27))] := hD
            refine lv_i2l (v := v28.toInt64) hx hb dX4_mixedArmies_91 rfl ?_
            obtain ⟨v29, hq, hg⟩ := bind_ex hg
            refine callRSl (As := [.long v20, .long v28.toInt64]) (rest := []) S hK hP (c_X4_mixed l D cI cZ cB cJ v20 v28.toInt64 v29 hq) [] rfl (va_cwS 2 hts gX4_mixedArmies_X4_mixed rfl rfl rfl hd_X4_mixed ⟨Nat.le_of_ble_eq_true rfl, Nat.le_of_ble_eq_true rfl⟩) rfl hl.1 rfl (Nat.le_of_ble_eq_true rfl) dX4_mixedArmies_92 ⟨Nat.zero_le _, Nat.zero_le _⟩ ?_
            refine lv_lstore_n (lv' := [(3, .long v29), (5, .int v2), (0, .ref A_t)]) hx hb dX4_mixedArmies_95 rfl hl (by decide) rfl (fun ls hl => ?_)
            refine lv_iinc (v := (v2 + 1)) (lv' := [(5, .int (v2 + 1)), (3, .long v29), (0, .ref A_t)]) hx hb dX4_mixedArmies_96 hl (k := 1) rfl rfl (by decide) rfl (fun ls hl => ?_)
            refine lv_goto (tgt := 5) hx hb dX4_mixedArmies_99 (by decide) ?_
            exact ih _ _ _ _ _ _ _ _ _ _ _ (hP.sub [7, 9, 10, 14, 0, 1, 2, 3, 4, 5, 6, 8, 11, 12, 13, 15, 16, 17, 18, 19, 20] rfl) (hD.sub [7, 9, 10, 14, 0, 1, 2, 3, 4, 5, 6, 8, 11, 12, 13, 15, 16, 17, 18, 19, 20] (by decide) rfl) hS _ (lv_sub hl [0, 1, 2] rfl) hg
          have L : ∀ (nf : Nat) (v16 : Int64) (v17 : Int32), ∀ (H : Heap) (locs : List Loc), va_P D vwCl [(A_t, .inr (4, [.ref A_t_opening, .ref A_t_board, .ref A_t_trialOpening, .ref A_t_trial, .ref A_t_history, .ref A_t_snapshot, .int V_t_hasSnapshot, .ref A_t_text])), (A_t_board, .inr (0, [.ref A_t_board_numbers, .ref A_t_board_owners, .ref A_t_board_cells])), (A_t_board_numbers, .inl (cI, 10, .inl V_t_board_numbers)), (A_t_board_cells, .inl (cI, 63, .inl V_t_board_cells)), (A_t_opening, .inr (2, [.ref A_t_board, .ref A_t_opening_cut, .ref A_t_opening_counts, .ref A_t_opening_strength, .ref A_t_opening_reason, .ref A_t_opening_driver, .ref A_t_opening_waits, .ref A_t_opening_stands])), (A_t_opening_stands, .inl (cI, 9, .inl V_t_opening_stands)), (A_t_opening_strength, .inl (cI, 9, .inl V_t_opening_strength)), (A_t_opening_reason, .inl (cI, 9, .inl V_t_opening_reason)), (A_t_opening_driver, .inl (cI, 9, .inl V_t_opening_driver)), (A_t_opening_counts, .inl (cI, 9, .inl V_t_opening_counts)), (A_t_opening_cut, .inl (cI, 9, .inl V_t_opening_cut)), (A_t_trial, .inr (0, [.ref A_t_trial_numbers, .ref A_t_trial_owners, .ref A_t_trial_cells])), (A_t_trial_numbers, .inl (cI, 10, .inl f4)), (A_t_board_owners, .inl (cI, 12, .inl V_t_board_owners)), (A_t_trial_owners, .inl (cI, 12, .inl f5)), (A_t_trial_cells, .inl (cI, 63, .inl f3)), (A_t_trialOpening, .inr (2, [.ref A_t_trial, .ref A_t_trialOpening_cut, .ref A_t_trialOpening_counts, .ref A_t_trialOpening_strength, .ref A_t_trialOpening_reason, .ref A_t_trialOpening_driver, .ref A_t_trialOpening_waits, .ref A_t_trialOpening_stands])), (A_t_trialOpening_cut, .inl (cI, 9, .inl f7)), (A_t_trialOpening_counts, .inl (cI, 9, .inl f6)), (A_t_trialOpening_strength, .inl (cI, 9, .inl f9)), (A_t_trialOpening_reason, .inl (cI, 9, .inl f8))] H → va_D A [(A_t, .inr (4, [.ref A_t_opening, .ref A_t_board, .ref A_t_trialOpening, .ref A_t_trial, .ref A_t_history, .ref A_t_snapshot, .int V_t_hasSnapshot, .ref A_t_text])), (A_t_board, .inr (0, [.ref A_t_board_numbers, .ref A_t_board_owners, .ref A_t_board_cells])), (A_t_board_numbers, .inl (cI, 10, .inl V_t_board_numbers)), (A_t_board_cells, .inl (cI, 63, .inl V_t_board_cells)), (A_t_opening, .inr (2, [.ref A_t_board, .ref A_t_opening_cut, .ref A_t_opening_counts, .ref A_t_opening_strength, .ref A_t_opening_reason, .ref A_t_opening_driver, .ref A_t_opening_waits, .ref A_t_opening_stands])), (A_t_opening_stands, .inl (cI, 9, .inl V_t_opening_stands)), (A_t_opening_strength, .inl (cI, 9, .inl V_t_opening_strength)), (A_t_opening_reason, .inl (cI, 9, .inl V_t_opening_reason)), (A_t_opening_driver, .inl (cI, 9, .inl V_t_opening_driver)), (A_t_opening_counts, .inl (cI, 9, .inl V_t_opening_counts)), (A_t_opening_cut, .inl (cI, 9, .inl V_t_opening_cut)), (A_t_trial, .inr (0, [.ref A_t_trial_numbers, .ref A_t_trial_owners, .ref A_t_trial_cells])), (A_t_trial_numbers, .inl (cI, 10, .inl f4)), (A_t_board_owners, .inl (cI, 12, .inl V_t_board_owners)), (A_t_trial_owners, .inl (cI, 12, .inl f5)), (A_t_trial_cells, .inl (cI, 63, .inl f3)), (A_t_trialOpening, .inr (2, [.ref A_t_trial, .ref A_t_trialOpening_cut, .ref A_t_trialOpening_counts, .ref A_t_trialOpening_strength, .ref A_t_trialOpening_reason, .ref A_t_trialOpening_driver, .ref A_t_trialOpening_waits, .ref A_t_trialOpening_stands])), (A_t_trialOpening_cut, .inl (cI, 9, .inl f7)), (A_t_trialOpening_counts, .inl (cI, 9, .inl f6)), (A_t_trialOpening_strength, .inl (cI, 9, .inl f9)), (A_t_trialOpening_reason, .inl (cI, 9, .inl f8))] → va_S A s.heap H locs → ∀ ls : Array Slot, lv_has ls 7 [(6, .int v17), (5, .int v2), (3, .long v16), (0, .ref A_t)] → g_X4_mixedArmies_L3 V_t_opening_stands V_t_opening_strength V_t_opening_reason V_t_opening_driver V_t_opening_counts V_t_opening_cut v2 nf v16 v17 = some v20 → W p l e rX4_mixedArmies s m args below meth c H locs 0 0 Q (F0 m 54 ls []) := by
            intro nf
            induction nf with
            | zero =>
              intro v16 v17 H locs hP hD hS ls hl hg
              exact no_some hg
            | succ nf ih =>
              intro v16 v17 H locs hP hD hS ls hl hg
              rw [g_X4_mixedArmies_L3] at hg
              refine lv_iload hx hb dX4_mixedArmies_54 (lv_at hl 0 rfl) ?_
              refine lv_bipush (v := 6) hx hb dX4_mixedArmies_56 (by decide) ?_
              refine lv_icmp_ge (tgt := 84) hx hb dX4_mixedArmies_58 (by decide) (fun hc => ?_) (fun hc => ?_)
              · replace hg := if_yes hg hc
                cases hg
                exact kx _ _ hP hD hS _ (lv_sub hl [1, 2, 3] rfl)
              · replace hg := if_no hg hc
                refine lv_lload_n hx hb dX4_mixedArmies_61 rfl (lv_at hl 2 rfl) ?_
                refine lv_aload_n hx hb dX4_mixedArmies_62 rfl (lv_at hl 3 rfl) ?_
                refine xget (ci := 4) (C := RX4) (T := TX4) (N := 8) (v := .ref A_t_opening) hx hb hts in_X4_mixedArmies_X4 hown hK hP 0 rfl rfl 0 (by decide) wd_X4_mixedArmies_2 rfl dX4_mixedArmies_63 ?_
                refine lv_iload hx hb dX4_mixedArmies_66 (lv_at hl 1 rfl) ?_
                refine lv_iload hx hb dX4_mixedArmies_68 (lv_at hl 0 rfl) ?_
                obtain ⟨v18, hq, hg⟩ := bind_ex hg
                refine callRVi (As := [.int v2, .int v17]) (rest := [.long v16]) S hK hP (c_X2_outcome l D cI cZ cB cJ A_t_opening A_t_board A_t_opening_cut A_t_opening_counts A_t_opening_strength A_t_opening_reason A_t_opening_driver A_t_opening_waits A_t_opening_stands V_t_opening_stands V_t_opening_strength V_t_opening_reason V_t_opening_driver V_t_opening_counts V_t_opening_cut v2 v17 v18 hq) [4, 5, 6, 7, 8, 9, 10] rfl (cwV 2 hts gX4_mixedArmies_X2_outcome rfl rfl rfl hd_X2_outcome ⟨Nat.le_of_ble_eq_true rfl, Nat.le_of_ble_eq_true rfl⟩) rfl rfl rfl hl.1 rfl (Nat.le_of_ble_eq_true rfl) dX4_mixedArmies_70 ⟨Nat.zero_le _, Nat.zero_le _⟩ ?_
                refine lv_i2l (v := v18.toInt64) hx hb dX4_mixedArmies_73 rfl ?_
                obtain ⟨v19, hq, hg⟩ := bind_ex hg
                refine callRSl (As := [.long v16, .long v18.toInt64]) (rest := []) S hK hP (c_X4_mixed l D cI cZ cB cJ v16 v18.toInt64 v19 hq) [] rfl (va_cwS 2 hts gX4_mixedArmies_X4_mixed rfl rfl rfl hd_X4_mixed ⟨Nat.le_of_ble_eq_true rfl, Nat.le_of_ble_eq_true rfl⟩) rfl hl.1 rfl (Nat.le_of_ble_eq_true rfl) dX4_mixedArmies_74 ⟨Nat.zero_le _, Nat.zero_le _⟩ ?_
                refine lv_lstore_n (lv' := [(3, .long v19), (6, .int v17), (5, .int v2), (0, .ref A_t)]) hx hb dX4_mixedArmies_77 rfl hl (by decide) rfl (fun ls hl => ?_)
                refine lv_iinc (v := (v17 + 1)) (lv' := [(6, .int (v17 + 1)), (3, .long v19), (5, .int v2), (0, .ref A_t)]) hx hb dX4_mixedArmies_78 hl (k := 1) rfl rfl (by decide) rfl (fun ls hl => ?_)
                refine lv_goto (tgt := 54) hx hb dX4_mixedArmies_81 (by decide) ?_
                exact ih _ _ _ _ hP hD hS _ (lv_sub hl [0, 2, 1, 3] rfl) hg
          exact L FU _ _ _ _ hP hD hS _ (lv_sub hl [0, 1, 2, 3] rfl) hL
        have L : ∀ (nf : Nat) (v11 : Int64) (v12 : Int32), ∀ (H : Heap) (locs : List Loc), va_P D vwCl [(A_t, .inr (4, [.ref A_t_opening, .ref A_t_board, .ref A_t_trialOpening, .ref A_t_trial, .ref A_t_history, .ref A_t_snapshot, .int V_t_hasSnapshot, .ref A_t_text])), (A_t_board, .inr (0, [.ref A_t_board_numbers, .ref A_t_board_owners, .ref A_t_board_cells])), (A_t_board_numbers, .inl (cI, 10, .inl V_t_board_numbers)), (A_t_board_cells, .inl (cI, 63, .inl V_t_board_cells)), (A_t_opening, .inr (2, [.ref A_t_board, .ref A_t_opening_cut, .ref A_t_opening_counts, .ref A_t_opening_strength, .ref A_t_opening_reason, .ref A_t_opening_driver, .ref A_t_opening_waits, .ref A_t_opening_stands])), (A_t_opening_stands, .inl (cI, 9, .inl V_t_opening_stands)), (A_t_opening_strength, .inl (cI, 9, .inl V_t_opening_strength)), (A_t_opening_reason, .inl (cI, 9, .inl V_t_opening_reason)), (A_t_opening_driver, .inl (cI, 9, .inl V_t_opening_driver)), (A_t_opening_counts, .inl (cI, 9, .inl V_t_opening_counts)), (A_t_opening_cut, .inl (cI, 9, .inl V_t_opening_cut)), (A_t_trial, .inr (0, [.ref A_t_trial_numbers, .ref A_t_trial_owners, .ref A_t_trial_cells])), (A_t_trial_numbers, .inl (cI, 10, .inl f4)), (A_t_board_owners, .inl (cI, 12, .inl V_t_board_owners)), (A_t_trial_owners, .inl (cI, 12, .inl f5)), (A_t_trial_cells, .inl (cI, 63, .inl f3)), (A_t_trialOpening, .inr (2, [.ref A_t_trial, .ref A_t_trialOpening_cut, .ref A_t_trialOpening_counts, .ref A_t_trialOpening_strength, .ref A_t_trialOpening_reason, .ref A_t_trialOpening_driver, .ref A_t_trialOpening_waits, .ref A_t_trialOpening_stands])), (A_t_trialOpening_cut, .inl (cI, 9, .inl f7)), (A_t_trialOpening_counts, .inl (cI, 9, .inl f6)), (A_t_trialOpening_strength, .inl (cI, 9, .inl f9)), (A_t_trialOpening_reason, .inl (cI, 9, .inl f8))] H → va_D A [(A_t, .inr (4, [.ref A_t_opening, .ref A_t_board, .ref A_t_trialOpening, .ref A_t_trial, .ref A_t_history, .ref A_t_snapshot, .int V_t_hasSnapshot, .ref A_t_text])), (A_t_board, .inr (0, [.ref A_t_board_numbers, .ref A_t_board_owners, .ref A_t_board_cells])), (A_t_board_numbers, .inl (cI, 10, .inl V_t_board_numbers)), (A_t_board_cells, .inl (cI, 63, .inl V_t_board_cells)), (A_t_opening, .inr (2, [.ref A_t_board, .ref A_t_opening_cut, .ref A_t_opening_counts, .ref A_t_opening_strength, .ref A_t_opening_reason, .ref A_t_opening_driver, .ref A_t_opening_waits, .ref A_t_opening_stands])), (A_t_opening_stands, .inl (cI, 9, .inl V_t_opening_stands)), (A_t_opening_strength, .inl (cI, 9, .inl V_t_opening_strength)), (A_t_opening_reason, .inl (cI, 9, .inl V_t_opening_reason)), (A_t_opening_driver, .inl (cI, 9, .inl V_t_opening_driver)), (A_t_opening_counts, .inl (cI, 9, .inl V_t_opening_counts)), (A_t_opening_cut, .inl (cI, 9, .inl V_t_opening_cut)), (A_t_trial, .inr (0, [.ref A_t_trial_numbers, .ref A_t_trial_owners, .ref A_t_trial_cells])), (A_t_trial_numbers, .inl (cI, 10, .inl f4)), (A_t_board_owners, .inl (cI, 12, .inl V_t_board_owners)), (A_t_trial_owners, .inl (cI, 12, .inl f5)), (A_t_trial_cells, .inl (cI, 63, .inl f3)), (A_t_trialOpening, .inr (2, [.ref A_t_trial, .ref A_t_trialOpening_cut, .ref A_t_trialOpening_counts, .ref A_t_trialOpening_strength, .ref A_t_trialOpening_reason, .ref A_t_trialOpening_driver, .ref A_t_trialOpening_waits, .ref A_t_trialOpening_stands])), (A_t_trialOpening_cut, .inl (cI, 9, .inl f7)), (A_t_trialOpening_counts, .inl (cI, 9, .inl f6)), (A_t_trialOpening_strength, .inl (cI, 9, .inl f9)), (A_t_trialOpening_reason, .inl (cI, 9, .inl f8))] → va_S A s.heap H locs → ∀ ls : Array Slot, lv_has ls 7 [(6, .int v12), (5, .int v2), (3, .long v11), (0, .ref A_t)] → g_X4_mixedArmies_L2 V_t_board_cells v2 nf v11 v12 = some v15 → W p l e rX4_mixedArmies s m args below meth c H locs 0 0 Q (F0 m 21 ls []) := by
          intro nf
          induction nf with
          | zero =>
            intro v11 v12 H locs hP hD hS ls hl hg
            exact no_some hg
          | succ nf ih =>
            intro v11 v12 H locs hP hD hS ls hl hg
            rw [g_X4_mixedArmies_L2] at hg
            refine lv_iload hx hb dX4_mixedArmies_21 (lv_at hl 0 rfl) ?_
            refine lv_bipush (v := 7) hx hb dX4_mixedArmies_23 (by decide) ?_
            refine lv_icmp_ge (tgt := 51) hx hb dX4_mixedArmies_25 (by decide) (fun hc => ?_) (fun hc => ?_)
            · replace hg := if_yes hg hc
              cases hg
              exact kx _ _ hP hD hS _ (lv_sub hl [1, 2, 3] rfl)
            · replace hg := if_no hg hc
              refine lv_lload_n hx hb dX4_mixedArmies_28 rfl (lv_at hl 2 rfl) ?_
              refine lv_aload_n hx hb dX4_mixedArmies_29 rfl (lv_at hl 3 rfl) ?_
              refine xget (ci := 4) (C := RX4) (T := TX4) (N := 8) (v := .ref A_t_board) hx hb hts in_X4_mixedArmies_X4 hown hK hP 0 rfl rfl 1 (by decide) wd_X4_mixedArmies_1 rfl dX4_mixedArmies_30 ?_
              refine lv_iload hx hb dX4_mixedArmies_33 (lv_at hl 1 rfl) ?_
              refine lv_iload hx hb dX4_mixedArmies_35 (lv_at hl 0 rfl) ?_
              obtain ⟨v13, hq, hg⟩ := bind_ex hg
              refine callRVi (As := [.int v2, .int v12]) (rest := [.long v11]) S hK hP (c_X0_of l D cI cZ cB cJ A_t_board A_t_board_numbers A_t_board_owners A_t_board_cells V_t_board_cells v2 v12 v13 hq) [1, 3] rfl (cwV 2 hts gX4_mixedArmies_X0_of rfl rfl rfl hd_X0_of ⟨Nat.le_of_ble_eq_true rfl, Nat.le_of_ble_eq_true rfl⟩) rfl rfl rfl hl.1 rfl (Nat.le_of_ble_eq_true rfl) dX4_mixedArmies_37 ⟨Nat.zero_le _, Nat.zero_le _⟩ ?_
              refine lv_i2l (v := v13.toInt64) hx hb dX4_mixedArmies_40 rfl ?_
              obtain ⟨v14, hq, hg⟩ := bind_ex hg
              refine callRSl (As := [.long v11, .long v13.toInt64]) (rest := []) S hK hP (c_X4_mixed l D cI cZ cB cJ v11 v13.toInt64 v14 hq) [] rfl (va_cwS 2 hts gX4_mixedArmies_X4_mixed rfl rfl rfl hd_X4_mixed ⟨Nat.le_of_ble_eq_true rfl, Nat.le_of_ble_eq_true rfl⟩) rfl hl.1 rfl (Nat.le_of_ble_eq_true rfl) dX4_mixedArmies_41 ⟨Nat.zero_le _, Nat.zero_le _⟩ ?_
              refine lv_lstore_n (lv' := [(3, .long v14), (6, .int v12), (5, .int v2), (0, .ref A_t)]) hx hb dX4_mixedArmies_44 rfl hl (by decide) rfl (fun ls hl => ?_)
              refine lv_iinc (v := (v12 + 1)) (lv' := [(6, .int (v12 + 1)), (3, .long v14), (5, .int v2), (0, .ref A_t)]) hx hb dX4_mixedArmies_45 hl (k := 1) rfl rfl (by decide) rfl (fun ls hl => ?_)
              refine lv_goto (tgt := 21) hx hb dX4_mixedArmies_48 (by decide) ?_
              exact ih _ _ _ _ hP hD hS _ (lv_sub hl [0, 2, 1, 3] rfl) hg
        exact L FU _ _ _ _ hP hD hS _ (lv_sub hl [0, 1, 2, 3] rfl) hL
  exact L FU _ _ _ _ _ _ _ _ _ _ _ hP hD hS _ (lv_sub hl [0, 1, 2] rfl) hL
